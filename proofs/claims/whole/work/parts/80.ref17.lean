/-! ===== the reference: preimage ===== -/
theorem pC_le {S : Sc} {x : Nat} (hS : ScOK S) (hx : x < 4) (c : Bool) : (if c then pClo S x else pAll S x) ≤ 9 * 4782969 := by
  obtain ⟨b1, b2⟩ := hS.2 x hx
  have hk := hS.1.k
  have hn9 := hS.1.n
  have slb2 : S.1 ^ (S.2.1 - 1) * 4782969 ≤ 9 * 4782969 := Nat.mul_le_mul_right _ hn9
  cases c
  · rw [if_neg (by decide)]
    unfold pAll
    exact Nat.le_trans (sumN_le _ (fun s _ => Nat.le_trans (wB_le baA_le _ _) (pw_le hk (b := 14) b1))) slb2
  · rw [if_pos rfl]
    unfold pClo
    split
    · exact Nat.zero_le _
    · exact Nat.le_trans (sumN_le _ (fun s _ => Nat.le_trans (wB_le (baT_le s) _ _) (pw_le hk (b := 14) b1))) slb2
theorem k9_preR {w : Wt} {G h : Hp} {th : Nat} {S Z : Sc} {sv : Bool} {F : Sf} {x c y v : Int32} (hR : RF G h th S sv Z F) (hx : ¬ InB x 4) : ConN mX9_preimage 4 (0, 0) w [.ref 62, .int x, .int c, .int y, .int v] h (.inl (some (.int (nI 0)))) (fun h' => RF G h' 1 S sv Z F) := by
  refine conI (by decide +kernel) ⟨fun _ => rfl, rfl, by simp⟩ (fun X C => ?_)
  change V X (0, 0) w h 0 [some (.ref 62), some (.int x), some (.int c), some (.int y), some (.int v), none, none] []
  refine v_aload_n C (oX9_preimage.at 0 rfl) rfl ?_
  refine v_iconst C (oX9_preimage.at 1 rfl) (v := nI 0) rfl ?_
  refine v_thr C (oX9_preimage.at 2 rfl) fX9_96 hR (fun h1 u1 hR1 q0 qt qm => ?_)
  refine v_iload_n C (oX9_preimage.at 3 rfl) rfl ?_
  refine v_callS C (oX9_preimage.at 4 rfl) cX9_210 (k_regF hx) rfl rfl rfl ⟨rfl, rfl⟩ rfl rfl (fun _ => rfl) (fun h' hp => ?_)
  rw [show h' = _ from hp]
  dsimp only [Option.toList, List.cons_append, List.nil_append]
  refine v_if_eqB C (oX9_preimage.at 5 rfl) (tgt := 20) (by decide) (fun _ => ?_) (fun z => absurd z (by decide))
  refine v_aload_n C (oX9_preimage.at 9 rfl) rfl ?_
  refine v_iconst C (oX9_preimage.at 10 rfl) (v := nI 1) rfl ?_
  refine v_callV C (oX9_preimage.at 11 rfl) cX9_111 q0 (k9_noR hR1) rfl rfl rfl ⟨rfl, rfl⟩ rfl rfl (fun _ => rfl) (fun h' hp => ?_)
  dsimp only [Option.toList, List.cons_append, List.nil_append]
  exact v_iret C (oX9_preimage.at 12 rfl) rfl rfl ⟨Nat.le_refl _, Nat.le_refl _⟩ ⟨rfl, hp⟩
theorem k9_preT {w : Wt} {G h : Hp} {th : Nat} {S Z : Sc} {sv : Bool} {F : Sf} {x : Nat} {c y v : Int32} (hR : RF G h th S sv Z F) (hx : x < 4) (hv : ¬ InB v 4) : ConN mX9_preimage 4 (0, 0) w [.ref 62, .int (nI x), .int c, .int y, .int v] h (.inl (some (.int (nI 0)))) (fun h' => RF G h' 1 S sv Z F) := by
  refine conI (by decide +kernel) ⟨fun _ => rfl, rfl, by simp⟩ (fun X C => ?_)
  change V X (0, 0) w h 0 [some (.ref 62), some (.int (nI x)), some (.int c), some (.int y), some (.int v), none, none] []
  refine v_aload_n C (oX9_preimage.at 0 rfl) rfl ?_
  refine v_iconst C (oX9_preimage.at 1 rfl) (v := nI 0) rfl ?_
  refine v_thr C (oX9_preimage.at 2 rfl) fX9_96 hR (fun h1 u1 hR1 q0 qt qm => ?_)
  refine v_iload_n C (oX9_preimage.at 3 rfl) rfl ?_
  refine v_callS C (oX9_preimage.at 4 rfl) cX9_210 (k_regT (InB.of hx (by decide))) rfl rfl rfl ⟨rfl, rfl⟩ rfl rfl (fun _ => rfl) (fun h' hp => ?_)
  rw [show h' = _ from hp]
  dsimp only [Option.toList, List.cons_append, List.nil_append]
  refine v_if_eqB C (oX9_preimage.at 5 rfl) (tgt := 20) (by decide) (fun z => absurd z (by decide)) (fun _ => ?_)
  refine v_iload C (oX9_preimage.at 6 rfl) rfl ?_
  refine v_callS C (oX9_preimage.at 7 rfl) cX9_210 (k_regF hv) rfl rfl rfl ⟨rfl, rfl⟩ rfl rfl (fun _ => rfl) (fun h' hp => ?_)
  rw [show h' = _ from hp]
  dsimp only [Option.toList, List.cons_append, List.nil_append]
  refine v_if_neB C (oX9_preimage.at 8 rfl) (tgt := 26) (by decide) (fun z => absurd z (by decide)) (fun _ => ?_)
  refine v_aload_n C (oX9_preimage.at 9 rfl) rfl ?_
  refine v_iconst C (oX9_preimage.at 10 rfl) (v := nI 1) rfl ?_
  refine v_callV C (oX9_preimage.at 11 rfl) cX9_111 q0 (k9_noR hR1) rfl rfl rfl ⟨rfl, rfl⟩ rfl rfl (fun _ => rfl) (fun h' hp => ?_)
  dsimp only [Option.toList, List.cons_append, List.nil_append]
  exact v_iret C (oX9_preimage.at 12 rfl) rfl rfl ⟨Nat.le_refl _, Nat.le_refl _⟩ ⟨rfl, hp⟩
/-- up to the length of the preimage -/
theorem pre9_start {w : Wt} {G h : Hp} {th : Nat} {S Z : Sc} {sv : Bool} {F : Sf} {x v : Nat} {y : Int32} {c : Bool} {X : CT} {o : Oc} {P : Wt → Hp → Prop} (C : Cx X mX9_preimage [] 4 (0, 0) o P) (hR : RF G h th S sv Z F) (hx : x < 4) (hv : v < 4) (K : ∀ h1, RF G h1 0 S sv Z F → V X (0, 0) w h1 54 [some (.ref 62), some (.int (nI x)), some (.int (bI c)), some (.int y), some (.int (nI v)), some (.int (nI (pLn S x c))), none] []) : V X (0, 0) w h 0 [some (.ref 62), some (.int (nI x)), some (.int (bI c)), some (.int y), some (.int (nI v)), none, none] [] := by
  have hwd := hR.so.1.w
  refine v_aload_n C (oX9_preimage.at 0 rfl) rfl ?_
  refine v_iconst C (oX9_preimage.at 1 rfl) (v := nI 0) rfl ?_
  refine v_thr C (oX9_preimage.at 2 rfl) fX9_96 hR (fun h1 u1 hR1 q0 qt qm => ?_)
  refine v_iload_n C (oX9_preimage.at 3 rfl) rfl ?_
  refine v_callS C (oX9_preimage.at 4 rfl) cX9_210 (k_regT (InB.of hx (by decide))) rfl rfl rfl ⟨rfl, rfl⟩ rfl rfl (fun _ => rfl) (fun h' hp => ?_)
  rw [show h' = _ from hp]
  dsimp only [Option.toList, List.cons_append, List.nil_append]
  refine v_if_eqB C (oX9_preimage.at 5 rfl) (tgt := 20) (by decide) (fun z => absurd z (by decide)) (fun _ => ?_)
  refine v_iload C (oX9_preimage.at 6 rfl) rfl ?_
  refine v_callS C (oX9_preimage.at 7 rfl) cX9_210 (k_regT (InB.of hv (by decide))) rfl rfl rfl ⟨rfl, rfl⟩ rfl rfl (fun _ => rfl) (fun h' hp => ?_)
  rw [show h' = _ from hp]
  dsimp only [Option.toList, List.cons_append, List.nil_append]
  refine v_if_neB C (oX9_preimage.at 8 rfl) (tgt := 26) (by decide) (fun _ => ?_) (fun z => absurd z (by decide))
  obtain ⟨f, hf, hL⟩ := hR1.rl
  replace K := K h1 hR1
  cases c with
  | false =>
    unfold pLn at K
    rw [if_neg (by decide)] at K
    refine v_iload_n C (oX9_preimage.at 13 rfl) rfl ?_
    refine v_if_eqB C (oX9_preimage.at 14 rfl) (tgt := 39) (by decide) (fun _ => ?_) (fun z => absurd z (by decide))
    refine v_aload_n C (oX9_preimage.at 20 rfl) rfl ?_
    refine v_getf C (oX9_preimage.at 21 rfl) fX9_20 q0 rfl ?_
    refine v_iload_n C (oX9_preimage.at 22 rfl) rfl ?_
    refine v_iald C (oX9_preimage.at 23 rfl) hf (by decide) rfl (by omega) (hL x hx) ?_
    refine v_aload_n C (oX9_preimage.at 24 rfl) rfl ?_
    refine v_getf C (oX9_preimage.at 25 rfl) fX9_13 q0 (congrArg (fun z => some (Value.int z)) (qm.2.1)) ?_
    refine v_iaddN C (oX9_preimage.at 26 rfl) ?_
    refine v_iconst C (oX9_preimage.at 27 rfl) (v := nI 1) rfl ?_
    refine v_isubN C (oX9_preimage.at 28 rfl) (by omega) ?_
    refine v_istore C (oX9_preimage.at 29 rfl) rfl ?_
    dsimp only [sto1, sto2, killL]
    rw [show S.2.2.2.1 x + S.2.1 - 1 = S.2.2.2.1 x + (S.2.1 - 1) by omega]
    exact K
  | true =>
    unfold pLn at K
    rw [if_pos rfl] at K
    refine v_iload_n C (oX9_preimage.at 13 rfl) rfl ?_
    refine v_if_eqB C (oX9_preimage.at 14 rfl) (tgt := 39) (by decide) (fun z => absurd z (by decide)) (fun _ => ?_)
    refine v_aload_n C (oX9_preimage.at 15 rfl) rfl ?_
    refine v_getf C (oX9_preimage.at 16 rfl) fX9_20 q0 rfl ?_
    refine v_iload_n C (oX9_preimage.at 17 rfl) rfl ?_
    refine v_iald C (oX9_preimage.at 18 rfl) hf (by decide) rfl (by omega) (hL x hx) ?_
    refine v_goto C (oX9_preimage.at 19 rfl) (tgt := 52) (by decide) ?_
    refine v_istore C (oX9_preimage.at 29 rfl) rfl ?_
    dsimp only [sto1, sto2, killL]
    exact K
theorem k9_preL {w : Wt} {G h : Hp} {th : Nat} {S Z : Sc} {sv : Bool} {F : Sf} {x v : Nat} {y : Int32} {c : Bool} (hR : RF G h th S sv Z F) (hx : x < 4) (hv : v < 4) (hl : 14 < pLn S x c) : ConN mX9_preimage 4 (0, 0) w [.ref 62, .int (nI x), .int (bI c), .int y, .int (nI v)] h (.inl (some (.int (nI 0)))) (fun h' => RF G h' 2 S sv Z F) := by
  have hb := hR.so.2 x hx
  have hwd := hR.so.1.w
  have hl2 : pLn S x c < 2 ^ 31 := by unfold pLn; split <;> omega
  refine conI (by decide +kernel) ⟨fun _ => rfl, rfl, by simp⟩ (fun X C => ?_)
  change V X (0, 0) w h 0 [some (.ref 62), some (.int (nI x)), some (.int (bI c)), some (.int y), some (.int (nI v)), none, none] []
  refine pre9_start C hR hx hv (fun h1 hR1 => ?_)
  obtain ⟨u, o0, -⟩ := hR1.o
  refine v_iload C (oX9_preimage.at 30 rfl) rfl ?_
  refine v_bipush C (oX9_preimage.at 31 rfl) (v := nI 14) rfl ?_
  refine v_icmp_leN C (oX9_preimage.at 32 rfl) (tgt := 67) (by decide) (by omega) (by omega) (fun hc => absurd hc (by omega)) (fun hc => ?_)
  refine v_aload_n C (oX9_preimage.at 33 rfl) rfl ?_
  refine v_iconst C (oX9_preimage.at 34 rfl) (v := nI 2) rfl ?_
  refine v_callV C (oX9_preimage.at 35 rfl) cX9_111 o0 (k9_noR hR1) rfl rfl rfl ⟨rfl, rfl⟩ rfl rfl (fun _ => rfl) (fun h' hp => ?_)
  dsimp only [Option.toList, List.cons_append, List.nil_append]
  exact v_iret C (oX9_preimage.at 36 rfl) rfl rfl ⟨Nat.le_refl _, Nat.le_refl _⟩ ⟨rfl, hp⟩
theorem k9_preN {w : Wt} {G h : Hp} {th : Nat} {S Z : Sc} {sv : Bool} {F : Sf} {x v : Nat} {y : Int32} {c : Bool} (hR : RF G h th S sv Z F) (hx : x < 4) (hv : v < 4) (hl : pLn S x c ≤ 14) (hy : y < 0 ∨ ∃ n, n < 2 ^ 31 ∧ y = nI n ∧ preB S x c n = false) : ConN mX9_preimage 4 (0, 0) w [.ref 62, .int (nI x), .int (bI c), .int y, .int (nI v)] h (.inl (some (.int (nI 0)))) (fun h' => RF G h' 3 S sv Z F) := by
  have hb := hR.so.2 x hx
  have hwd := hR.so.1.w
  have hpc := pC_le hR.so hx c
  refine conI (by decide +kernel) ⟨fun _ => rfl, rfl, by simp⟩ (fun X C => ?_)
  change V X (0, 0) w h 0 [some (.ref 62), some (.int (nI x)), some (.int (bI c)), some (.int y), some (.int (nI v)), none, none] []
  refine pre9_start C hR hx hv (fun h1 hR1 => ?_)
  obtain ⟨u, o0, -⟩ := hR1.o
  rcases hy with hy | ⟨n, hn, rfl, hB⟩
  · refine v_iload C (oX9_preimage.at 30 rfl) rfl ?_
    refine v_bipush C (oX9_preimage.at 31 rfl) (v := nI 14) rfl ?_
    refine v_icmp_leN C (oX9_preimage.at 32 rfl) (tgt := 67) (by decide) (by omega) (by omega) (fun hc => ?_) (fun hc => absurd hc (by omega))
    refine v_iload_n C (oX9_preimage.at 37 rfl) rfl ?_
    refine v_if_lt C (oX9_preimage.at 38 rfl) (tgt := 81) (by decide) (fun hc => ?_) (fun hc => absurd hy hc)
    refine v_aload_n C (oX9_preimage.at 45 rfl) rfl ?_
    refine v_iconst C (oX9_preimage.at 46 rfl) (v := nI 3) rfl ?_
    refine v_callV C (oX9_preimage.at 47 rfl) cX9_111 o0 (k9_noR hR1) rfl rfl rfl ⟨rfl, rfl⟩ rfl rfl (fun _ => rfl) (fun h' hp => ?_)
    dsimp only [Option.toList, List.cons_append, List.nil_append]
    exact v_iret C (oX9_preimage.at 48 rfl) rfl rfl ⟨Nat.le_refl _, Nat.le_refl _⟩ ⟨rfl, hp⟩
  · have hB : ¬ n < if c then pClo S x else pAll S x := of_decide_eq_false hB
    refine v_iload C (oX9_preimage.at 30 rfl) rfl ?_
    refine v_bipush C (oX9_preimage.at 31 rfl) (v := nI 14) rfl ?_
    refine v_icmp_leN C (oX9_preimage.at 32 rfl) (tgt := 67) (by decide) (by omega) (by omega) (fun hc => ?_) (fun hc => absurd hc (by omega))
    refine v_iload_n C (oX9_preimage.at 37 rfl) rfl ?_
    refine v_if_ltN C (oX9_preimage.at 38 rfl) (tgt := 81) (by decide) (by omega) ?_
    refine v_iload_n C (oX9_preimage.at 39 rfl) rfl ?_
    refine v_aload_n C (oX9_preimage.at 40 rfl) rfl ?_
    refine v_iload_n C (oX9_preimage.at 41 rfl) rfl ?_
    refine v_iload_n C (oX9_preimage.at 42 rfl) rfl ?_
    refine v_callV C (oX9_preimage.at 43 rfl) cX9_232 o0 (k9_count hR1 hx) rfl rfl rfl ⟨rfl, rfl⟩ rfl rfl (fun _ => rfl) (fun h' hp => ?_)
    dsimp only [Option.toList, List.cons_append, List.nil_append]
    obtain ⟨g, e⟩ := hp
    have hR2 : RF G h' 0 S sv Z F := by rw [e]; exact hR1.set_r (i := 76) (Or.inl ⟨by decide, by decide⟩)
    obtain ⟨h2, e2⟩ : ∃ z, z = h' := ⟨h', rfl⟩
    rw [← e2] at hR2 ⊢
    obtain ⟨u2, r0, -⟩ := hR2.o
    refine v_icmp_ltN C (oX9_preimage.at 44 rfl) (tgt := 87) (by decide) (by omega) (by omega) (fun hc => absurd hc (by omega)) (fun hc => ?_)
    refine v_aload_n C (oX9_preimage.at 45 rfl) rfl ?_
    refine v_iconst C (oX9_preimage.at 46 rfl) (v := nI 3) rfl ?_
    refine v_callV C (oX9_preimage.at 47 rfl) cX9_111 r0 (k9_noR hR2) rfl rfl rfl ⟨rfl, rfl⟩ rfl rfl (fun _ => rfl) (fun h' hp => ?_)
    dsimp only [Option.toList, List.cons_append, List.nil_append]
    exact v_iret C (oX9_preimage.at 48 rfl) rfl rfl ⟨Nat.le_refl _, Nat.le_refl _⟩ ⟨rfl, hp⟩
theorem k9_pre {w : Wt} {G h : Hp} {th : Nat} {S Z : Sc} {sv : Bool} {F : Sf} {x v n : Nat} {c : Bool} (hR : RF G h th S sv Z F) (hx : x < 4) (hv : v < 4) (hl : pLn S x c ≤ 14) (hn : n < 2 ^ 31) (hB : preB S x c n = true) (hI : preI S x c n < S.1 ^ pLn S x c) (hsh : c = true → S.2.2.2.1 x < S.2.1 - 1 → cimg S.1 S.2.1 S.2.2.1 (S.2.2.2.1 x) (preI S x c n) = S.2.2.2.2 x ∧ cnt (fun z => decide (cimg S.1 S.2.1 S.2.2.1 (S.2.2.2.1 x) z = S.2.2.2.2 x)) (preI S x c n) = n) : ConN mX9_preimage 4 (0, 0) w [.ref 62, .int (nI x), .int (bI c), .int (nI n), .int (nI v)] h (.inl (some (.int (nI (preI S x c n))))) (fun h' => RF G h' 0 (withR S v (pLn S x c) (preI S x c n)) sv Z F) := by
  have hb := hR.so.2 x hx
  have hwd := hR.so.1.w
  have hpc := pC_le hR.so hx c
  have hB : n < if c then pClo S x else pAll S x := of_decide_eq_true hB
  refine conI (by decide +kernel) ⟨fun _ => rfl, rfl, by simp⟩ (fun X C => ?_)
  change V X (0, 0) w h 0 [some (.ref 62), some (.int (nI x)), some (.int (bI c)), some (.int (nI n)), some (.int (nI v)), none, none] []
  refine pre9_start C hR hx hv (fun h1 hR1 => ?_)
  obtain ⟨u, o0, -⟩ := hR1.o
  refine v_iload C (oX9_preimage.at 30 rfl) rfl ?_
  refine v_bipush C (oX9_preimage.at 31 rfl) (v := nI 14) rfl ?_
  refine v_icmp_leN C (oX9_preimage.at 32 rfl) (tgt := 67) (by decide) (by omega) (by omega) (fun hc => ?_) (fun hc => absurd hc (by omega))
  refine v_iload_n C (oX9_preimage.at 37 rfl) rfl ?_
  refine v_if_ltN C (oX9_preimage.at 38 rfl) (tgt := 81) (by decide) (by omega) ?_
  refine v_iload_n C (oX9_preimage.at 39 rfl) rfl ?_
  refine v_aload_n C (oX9_preimage.at 40 rfl) rfl ?_
  refine v_iload_n C (oX9_preimage.at 41 rfl) rfl ?_
  refine v_iload_n C (oX9_preimage.at 42 rfl) rfl ?_
  refine v_callV C (oX9_preimage.at 43 rfl) cX9_232 o0 (k9_count hR1 hx) rfl rfl rfl ⟨rfl, rfl⟩ rfl rfl (fun _ => rfl) (fun h' hp => ?_)
  dsimp only [Option.toList, List.cons_append, List.nil_append]
  obtain ⟨g, e⟩ := hp
  have hR2 : RF G h' 0 S sv Z F := by rw [e]; exact hR1.set_r (i := 76) (Or.inl ⟨by decide, by decide⟩)
  obtain ⟨h2, e2⟩ : ∃ z, z = h' := ⟨h', rfl⟩
  rw [← e2] at hR2 ⊢
  clear e e2
  obtain ⟨u2, r0, r1, r2⟩ := hR2.o
  refine v_icmp_ltN C (oX9_preimage.at 44 rfl) (tgt := 87) (by decide) (by omega) (by omega) (fun hc => ?_) (fun hc => absurd hc (by omega))
  have fin : ∀ h3, RF G h3 0 S sv Z F → V X (0, 0) w h3 122 [some (.ref 62), some (.int (nI x)), some (.int (bI c)), some (.int (nI n)), some (.int (nI v)), some (.int (nI (pLn S x c))), none] [.int (nI (preI S x c n))] := by
    intro h3 hR3
    obtain ⟨u3, s0, s1, s2⟩ := hR3.o
    obtain ⟨f, hf, hL⟩ := hR3.rl
    obtain ⟨e, he, hIx⟩ := hR3.ri
    refine v_istore C (oX9_preimage.at 70 rfl) rfl ?_
    refine v_aload_n C (oX9_preimage.at 71 rfl) rfl ?_
    refine v_getf C (oX9_preimage.at 72 rfl) fX9_20 s0 rfl ?_
    refine v_iload C (oX9_preimage.at 73 rfl) rfl ?_
    refine v_iload C (oX9_preimage.at 74 rfl) rfl ?_
    refine v_iast C (oX9_preimage.at 75 rfl) hf (by decide) rfl (by omega) ?_
    dsimp only [sto1, sto2, killL]
    refine v_aload_n C (oX9_preimage.at 76 rfl) rfl ?_
    refine v_getf C (oX9_preimage.at 77 rfl) fX9_23 ((hu_n _ _ (by decide)).trans s0) rfl ?_
    refine v_iload C (oX9_preimage.at 78 rfl) rfl ?_
    refine v_iload C (oX9_preimage.at 79 rfl) rfl ?_
    refine v_iast C (oX9_preimage.at 80 rfl) ((hu_n _ _ (by decide)).trans he) (by decide) rfl (by omega) ?_
    refine v_iload C (oX9_preimage.at 81 rfl) rfl ?_
    exact v_iret C (oX9_preimage.at 82 rfl) rfl rfl ⟨Nat.le_refl _, Nat.le_refl _⟩ ⟨rfl, hR3.set_w hL hIx hl hI⟩
  obtain ⟨f, hf, hL⟩ := hR2.rl
  cases c with
  | false =>
    rw [if_neg (by decide)] at hB
    refine v_iload_n C (oX9_preimage.at 49 rfl) rfl ?_
    refine v_if_eqB C (oX9_preimage.at 50 rfl) (tgt := 115) (by decide) (fun _ => ?_) (fun z => absurd z (by decide))
    refine v_aload_n C (oX9_preimage.at 65 rfl) rfl ?_
    refine v_iload_n C (oX9_preimage.at 66 rfl) rfl ?_
    refine v_iload_n C (oX9_preimage.at 67 rfl) rfl ?_
    refine v_iload_n C (oX9_preimage.at 68 rfl) rfl ?_
    refine v_callV C (oX9_preimage.at 69 rfl) cX9_239 r0 (k9_longF hR2 hx hB) rfl rfl rfl ⟨rfl, rfl⟩ rfl rfl (fun _ => rfl) (fun h' hp => ?_)
    dsimp only [Option.toList, List.cons_append, List.nil_append]
    obtain ⟨g, e⟩ := hp
    exact fin _ (by rw [e]; exact hR2.set_r (i := 76) (Or.inl ⟨by decide, by decide⟩))
  | true =>
    rw [if_pos rfl] at hB
    refine v_iload_n C (oX9_preimage.at 49 rfl) rfl ?_
    refine v_if_eqB C (oX9_preimage.at 50 rfl) (tgt := 115) (by decide) (fun z => absurd z (by decide)) (fun _ => ?_)
    refine v_aload_n C (oX9_preimage.at 51 rfl) rfl ?_
    refine v_getf C (oX9_preimage.at 52 rfl) fX9_20 r0 rfl ?_
    refine v_iload_n C (oX9_preimage.at 53 rfl) rfl ?_
    refine v_iald C (oX9_preimage.at 54 rfl) hf (by decide) rfl (by omega) (hL x hx) ?_
    refine v_aload_n C (oX9_preimage.at 55 rfl) rfl ?_
    refine v_getf C (oX9_preimage.at 56 rfl) fX9_13 r0 (congrArg (fun z => some (Value.int z)) (r2.2.1)) ?_
    refine v_iconst C (oX9_preimage.at 57 rfl) (v := nI 1) rfl ?_
    refine v_isubN C (oX9_preimage.at 58 rfl) (by omega) ?_
    refine v_icmp_geN C (oX9_preimage.at 59 rfl) (tgt := 115) (by decide) (by omega) (by omega) (fun hc => ?_) (fun hc => ?_)
    · refine v_aload_n C (oX9_preimage.at 65 rfl) rfl ?_
      refine v_iload_n C (oX9_preimage.at 66 rfl) rfl ?_
      refine v_iload_n C (oX9_preimage.at 67 rfl) rfl ?_
      refine v_iload_n C (oX9_preimage.at 68 rfl) rfl ?_
      refine v_callV C (oX9_preimage.at 69 rfl) cX9_239 r0 (k9_longT hR2 hx hB hc) rfl rfl rfl ⟨rfl, rfl⟩ rfl rfl (fun _ => rfl) (fun h' hp => ?_)
      dsimp only [Option.toList, List.cons_append, List.nil_append]
      obtain ⟨g, e⟩ := hp
      exact fin _ (by rw [e]; exact hR2.set_r (i := 76) (Or.inl ⟨by decide, by decide⟩))
    · obtain ⟨q1, q2⟩ := hsh rfl hc
      refine v_aload_n C (oX9_preimage.at 60 rfl) rfl ?_
      refine v_iload_n C (oX9_preimage.at 61 rfl) rfl ?_
      refine v_iload_n C (oX9_preimage.at 62 rfl) rfl ?_
      refine v_callV C (oX9_preimage.at 63 rfl) cX9_236 r0 (k9_shortOne hR2 hx hI q1 q2) rfl rfl rfl ⟨rfl, rfl⟩ rfl rfl (fun _ => rfl) (fun h' hp => ?_)
      rw [show h' = _ from hp]
      dsimp only [Option.toList, List.cons_append, List.nil_append]
      refine v_goto C (oX9_preimage.at 64 rfl) (tgt := 122) (by decide) ?_
      exact fin _ hR2
/-! ===== the reference: words by their preimages, fixed words ===== -/
theorem k9_preimages {w : Wt} {G h : Hp} {th : Nat} {S Z : Sc} {sv : Bool} {F : Sf} {x L : Nat} (hR : RF G h th S sv Z F) (hx : x < 2 ^ 31) (hL : L ≤ 7) : ConN mX9_preimages 2 (0, 0) w [.ref 62, .int (nI x), .int (nI L)] h (.inl (some (.int (nI (pcN (S.1 ^ (S.2.1 - 1)) S.1 S.2.2.1 L x))))) (fun h' => RF G h' th S sv Z F) := by
  obtain ⟨u, o0, o1, o2⟩ := hR.o
  have hk := hR.so.1.k
  have hn9 := hR.so.1.n
  have hn0 := hR.so.1.n0
  have hnk := hR.so.1.nk
  obtain ⟨g1, hg1⟩ := hR.sc (i := 77) (Or.inl ⟨by decide, by decide⟩)
  obtain ⟨g2, hg2⟩ := hR.sc (i := 78) (Or.inl ⟨by decide, by decide⟩)
  have hg1 : h 77 = io 9 g1 := hg1
  have hg2 : h 78 = io 9 g2 := hg2
  have c0 : ∀ a b, hu (hu h 77 a) 78 b 62 = MO u := fun a b => (hu_n _ _ (by decide)).trans ((hu_n _ _ (by decide)).trans o0)
  have c7 : ∀ a b, hu (hu h 77 a) 78 b 77 = a := fun a b => (hu_n _ _ (by decide)).trans (hu_s _ _ _)
  have c8 : ∀ a b, hu (hu h 77 a) 78 b 78 = b := fun a b => hu_s _ _ _
  have cR : ∀ a b, RF G (hu (hu h 77 (io 9 a)) 78 (io 9 b)) th S sv Z F := fun a b => (hR.set_r (i := 77) (f' := a) (Or.inl ⟨by decide, by decide⟩)).set_r (i := 78) (Or.inl ⟨by decide, by decide⟩)
  generalize hnn : S.1 ^ (S.2.1 - 1) = n at *
  unfold pcN
  have kn := k9_nodesR (w := w) hR
  rw [hnn] at kn
  refine conI (by decide +kernel) ⟨fun _ => rfl, rfl, by simp⟩ (fun X C => ?_)
  change V X (0, 0) w h 0 [some (.ref 62), some (.int (nI x)), some (.int (nI L)), none, none, none, none, none] []
  refine v_aload_n C (oX9_preimages.at 0 rfl) rfl ?_
  refine v_callV C (oX9_preimages.at 1 rfl) cX9_118 o0 (kn) rfl rfl rfl ⟨rfl, rfl⟩ rfl rfl (fun _ => rfl) (fun h' hp => ?_)
  rw [show h' = _ from hp]
  dsimp only [Option.toList, List.cons_append, List.nil_append]
  refine v_istore_n C (oX9_preimages.at 2 rfl) rfl ?_
  refine v_iconst C (oX9_preimages.at 3 rfl) (v := nI 0) rfl ?_
  refine v_istore C (oX9_preimages.at 4 rfl) rfl ?_
  dsimp only [sto1, sto2, killL]
  have E : ∀ a b l5 l6 l7, (∀ v, v < n → a v = nI (fwR n S.1 S.2.2.1 (cel S.1 L x) L v)) → V X (0, 0) w (hu (hu h 77 (io 9 a)) 78 (io 9 b)) 187 [some (.ref 62), some (.int (nI x)), some (.int (nI L)), some (.int (nI n)), some (.int (nI L)), l5, l6, l7] [] := by
    intro a b l5 l6 l7 ha
    refine v_iconst C (oX9_preimages.at 99 rfl) (v := nI 0) rfl ?_
    refine v_istore C (oX9_preimages.at 100 rfl) rfl ?_
    refine v_iconst C (oX9_preimages.at 101 rfl) (v := nI 0) rfl ?_
    refine v_istore C (oX9_preimages.at 102 rfl) rfl ?_
    dsimp only [sto1, sto2, killL]
    suffices H : ∀ d i, i + d = n → V X (0, 0) w (hu (hu h 77 (io 9 a)) 78 (io 9 b)) 193 [some (.ref 62), some (.int (nI x)), some (.int (nI L)), some (.int (nI n)), some (.int (nI (sumN (fwR n S.1 S.2.2.1 (cel S.1 L x) L) i))), some (.int (nI i)), l6, l7] [] from H n 0 (by omega)
    intro d
    induction d with
    | zero =>
      intro i hi
      obtain rfl : i = n := by omega
      refine v_iload C (oX9_preimages.at 103 rfl) rfl ?_
      refine v_iload_n C (oX9_preimages.at 104 rfl) rfl ?_
      refine v_icmp_geN C (oX9_preimages.at 105 rfl) (tgt := 217) (by decide) (by omega) (by omega) (fun hc => ?_) (fun hc => absurd hc (by omega))
      refine v_iload C (oX9_preimages.at 115 rfl) rfl ?_
      exact v_iret C (oX9_preimages.at 116 rfl) rfl rfl ⟨Nat.le_refl _, Nat.le_refl _⟩ ⟨rfl, cR _ _⟩
    | succ d ih =>
      intro i hi
      refine v_iload C (oX9_preimages.at 103 rfl) rfl ?_
      refine v_iload_n C (oX9_preimages.at 104 rfl) rfl ?_
      refine v_icmp_geN C (oX9_preimages.at 105 rfl) (tgt := 217) (by decide) (by omega) (by omega) (fun hc => absurd hc (by omega)) (fun hc => ?_)
      refine v_iload C (oX9_preimages.at 106 rfl) rfl ?_
      refine v_aload_n C (oX9_preimages.at 107 rfl) rfl ?_
      refine v_getf C (oX9_preimages.at 108 rfl) fX9_62 (c0 _ _) rfl ?_
      refine v_iload C (oX9_preimages.at 109 rfl) rfl ?_
      refine v_iald C (oX9_preimages.at 110 rfl) (c7 _ _) (by decide) rfl (by omega) (ha i (by omega)) ?_
      refine v_iaddN C (oX9_preimages.at 111 rfl) ?_
      refine v_istore C (oX9_preimages.at 112 rfl) rfl ?_
      refine v_iincN C (oX9_preimages.at 113 rfl) rfl ?_
      refine v_goto C (oX9_preimages.at 114 rfl) (tgt := 193) (by decide) ?_
      dsimp only [sto1, sto2, killL]
      exact ih (i + 1) (by omega)
  have M : ∀ d c a b l5 l6 l7, c + d = L → (∀ v, v < n → a v = nI (fwR n S.1 S.2.2.1 (cel S.1 L x) c v)) → V X (0, 0) w (hu (hu h 77 (io 9 a)) 78 (io 9 b)) 31 [some (.ref 62), some (.int (nI x)), some (.int (nI L)), some (.int (nI n)), some (.int (nI c)), l5, l6, l7] [] := by
    intro d
    induction d with
    | zero =>
      intro c a b l5 l6 l7 hc0 ha
      obtain rfl : c = L := by omega
      refine v_iload C (oX9_preimages.at 17 rfl) rfl ?_
      refine v_iload_n C (oX9_preimages.at 18 rfl) rfl ?_
      refine v_icmp_geN C (oX9_preimages.at 19 rfl) (tgt := 187) (by decide) (by omega) (by omega) (fun hc => ?_) (fun hc => absurd hc (by omega))
      exact E a b l5 l6 l7 ha
    | succ d ih =>
      intro c a b l5 l6 l7 hc0 ha
      have p0 : 0 < S.1 ^ (L - 1 - c) := Nat.pow_pos (by omega)
      have p1 := pw14 hk (n := L - 1 - c) (by omega)
      have p2 : x / S.1 ^ (L - 1 - c) ≤ x := Nat.div_le_self _ _
      have hcl : cel S.1 L x c < S.1 := cel_lt (by omega)
      have hce : x / S.1 ^ (L - 1 - c) % S.1 = cel S.1 L x c := rfl
      refine v_iload C (oX9_preimages.at 17 rfl) rfl ?_
      refine v_iload_n C (oX9_preimages.at 18 rfl) rfl ?_
      refine v_icmp_geN C (oX9_preimages.at 19 rfl) (tgt := 187) (by decide) (by omega) (by omega) (fun hc => absurd hc (by omega)) (fun hc => ?_)
      refine v_iload_n C (oX9_preimages.at 20 rfl) rfl ?_
      refine v_aload_n C (oX9_preimages.at 21 rfl) rfl ?_
      refine v_iload_n C (oX9_preimages.at 22 rfl) rfl ?_
      refine v_iconst C (oX9_preimages.at 23 rfl) (v := nI 1) rfl ?_
      refine v_isubN C (oX9_preimages.at 24 rfl) (by omega) ?_
      refine v_iload C (oX9_preimages.at 25 rfl) rfl ?_
      refine v_isubN C (oX9_preimages.at 26 rfl) (by omega) ?_
      refine v_callV C (oX9_preimages.at 27 rfl) cX9_99 (c0 _ _) (k9_powerR (cR a b) (by omega)) rfl rfl rfl ⟨rfl, rfl⟩ rfl rfl (fun _ => rfl) (fun h' hp => ?_)
      rw [show h' = _ from hp]
      dsimp only [Option.toList, List.cons_append, List.nil_append]
      refine v_idivN C (oX9_preimages.at 28 rfl) (by omega) (by omega) (by omega) ?_
      refine v_aload_n C (oX9_preimages.at 29 rfl) rfl ?_
      refine v_getf C (oX9_preimages.at 30 rfl) fX9_7 (c0 _ _) (congrArg (fun z => some (Value.int z)) (o2.1)) ?_
      refine v_iremN C (oX9_preimages.at 31 rfl) (by omega) (by omega) (by omega) ?_
      refine v_istore C (oX9_preimages.at 32 rfl) rfl ?_
      refine v_iconst C (oX9_preimages.at 33 rfl) (v := nI 0) rfl ?_
      refine v_istore C (oX9_preimages.at 34 rfl) rfl ?_
      dsimp only [sto1, sto2, killL]
      rw [hce]
      have L3 : ∀ b, (∀ v, v < n → b v = nI (fwR n S.1 S.2.2.1 (cel S.1 L x) (c + 1) v)) → ∀ e i a l7, i + e = n → (∀ v, v < i → a v = nI (fwR n S.1 S.2.2.1 (cel S.1 L x) (c + 1) v)) → V X (0, 0) w (hu (hu h 77 (io 9 a)) 78 (io 9 b)) 155 [some (.ref 62), some (.int (nI x)), some (.int (nI L)), some (.int (nI n)), some (.int (nI c)), some (.int (nI (cel S.1 L x c))), some (.int (nI i)), l7] [] := by
        intro b hb e
        induction e with
        | zero =>
          intro i a l7 hi ha
          obtain rfl : i = n := by omega
          refine v_iload C (oX9_preimages.at 84 rfl) rfl ?_
          refine v_iload_n C (oX9_preimages.at 85 rfl) rfl ?_
          refine v_icmp_geN C (oX9_preimages.at 86 rfl) (tgt := 181) (by decide) (by omega) (by omega) (fun hc => ?_) (fun hc => absurd hc (by omega))
          refine v_iincN C (oX9_preimages.at 97 rfl) rfl ?_
          refine v_goto C (oX9_preimages.at 98 rfl) (tgt := 31) (by decide) ?_
          dsimp only [sto1, sto2, killL]
          exact ih (c + 1) a b _ _ _ (by omega) ha
        | succ e ihe =>
          intro i a l7 hi ha
          refine v_iload C (oX9_preimages.at 84 rfl) rfl ?_
          refine v_iload_n C (oX9_preimages.at 85 rfl) rfl ?_
          refine v_icmp_geN C (oX9_preimages.at 86 rfl) (tgt := 181) (by decide) (by omega) (by omega) (fun hc => absurd hc (by omega)) (fun hc => ?_)
          refine v_aload_n C (oX9_preimages.at 87 rfl) rfl ?_
          refine v_getf C (oX9_preimages.at 88 rfl) fX9_62 (c0 _ _) rfl ?_
          refine v_iload C (oX9_preimages.at 89 rfl) rfl ?_
          refine v_aload_n C (oX9_preimages.at 90 rfl) rfl ?_
          refine v_getf C (oX9_preimages.at 91 rfl) fX9_65 (c0 _ _) rfl ?_
          refine v_iload C (oX9_preimages.at 92 rfl) rfl ?_
          refine v_iald C (oX9_preimages.at 93 rfl) (c8 _ _) (by decide) rfl (by omega) (hb i (by omega)) ?_
          refine v_iast C (oX9_preimages.at 94 rfl) (c7 _ _) (by decide) rfl (by omega) ?_
          rw [hu_c _ _ _ (by decide), hu_hu]
          refine v_iincN C (oX9_preimages.at 95 rfl) rfl ?_
          refine v_goto C (oX9_preimages.at 96 rfl) (tgt := 155) (by decide) ?_
          dsimp only [sto1, sto2, killL]
          refine ihe (i + 1) _ _ (by omega) (fun v hv => ?_)
          by_cases q : v = i
          · rw [q, pk_us]
          · rw [pk_un q]; exact ha v (by omega)
      have L2 : ∀ e v b l7, v + e = n → (∀ y, y < n → b y = nI (ac n S.1 (fun t => decide (S.2.2.1 t = cel S.1 L x c)) (fwR n S.1 S.2.2.1 (cel S.1 L x) c) (v * S.1) y)) → V X (0, 0) w (hu (hu h 77 (io 9 a)) 78 (io 9 b)) 82 [some (.ref 62), some (.int (nI x)), some (.int (nI L)), some (.int (nI n)), some (.int (nI c)), some (.int (nI (cel S.1 L x c))), some (.int (nI v)), l7] [] := by
        intro e
        induction e with
        | zero =>
          intro v b l7 hv hb
          obtain rfl : v = n := by omega
          refine v_iload C (oX9_preimages.at 47 rfl) rfl ?_
          refine v_iload_n C (oX9_preimages.at 48 rfl) rfl ?_
          refine v_icmp_geN C (oX9_preimages.at 49 rfl) (tgt := 152) (by decide) (by omega) (by omega) (fun hc => ?_) (fun hc => absurd hc (by omega))
          refine v_iconst C (oX9_preimages.at 82 rfl) (v := nI 0) rfl ?_
          refine v_istore C (oX9_preimages.at 83 rfl) rfl ?_
          dsimp only [sto1, sto2, killL]
          exact L3 b hb v 0 a _ (by omega) (fun v hv => absurd hv (by omega))
        | succ e ihe =>
          intro v b l7 hv hb
          refine v_iload C (oX9_preimages.at 47 rfl) rfl ?_
          refine v_iload_n C (oX9_preimages.at 48 rfl) rfl ?_
          refine v_icmp_geN C (oX9_preimages.at 49 rfl) (tgt := 152) (by decide) (by omega) (by omega) (fun hc => absurd hc (by omega)) (fun hc => ?_)
          refine v_iconst C (oX9_preimages.at 50 rfl) (v := nI 0) rfl ?_
          refine v_istore C (oX9_preimages.at 51 rfl) rfl ?_
          dsimp only [sto1, sto2, killL]
          suffices H4 : ∀ q s b, s + q = S.1 → (∀ y, y < n → b y = nI (ac n S.1 (fun t => decide (S.2.2.1 t = cel S.1 L x c)) (fwR n S.1 S.2.2.1 (cel S.1 L x) c) (v * S.1 + s) y)) → V X (0, 0) w (hu (hu h 77 (io 9 a)) 78 (io 9 b)) 91 [some (.ref 62), some (.int (nI x)), some (.int (nI L)), some (.int (nI n)), some (.int (nI c)), some (.int (nI (cel S.1 L x c))), some (.int (nI v)), some (.int (nI s))] [] from H4 S.1 0 b (by omega) hb
          intro q
          induction q with
          | zero =>
            intro s b hs hb
            obtain rfl : s = S.1 := by omega
            refine v_iload C (oX9_preimages.at 52 rfl) rfl ?_
            refine v_aload_n C (oX9_preimages.at 53 rfl) rfl ?_
            refine v_getf C (oX9_preimages.at 54 rfl) fX9_7 (c0 _ _) (congrArg (fun z => some (Value.int z)) (o2.1)) ?_
            refine v_icmp_geN C (oX9_preimages.at 55 rfl) (tgt := 146) (by decide) (by omega) (by omega) (fun hc => ?_) (fun hc => absurd hc (by omega))
            refine v_iincN C (oX9_preimages.at 80 rfl) rfl ?_
            refine v_goto C (oX9_preimages.at 81 rfl) (tgt := 82) (by decide) ?_
            dsimp only [sto1, sto2, killL]
            exact ihe (v + 1) b _ (by omega) (fun y hy => by rw [Nat.add_mul, Nat.one_mul]; exact hb y hy)
          | succ q ihq =>
            intro s b hs hb
            have ihq := ihq (s + 1)
            have hgl : (v * S.1 + s) % n < n := Nat.mod_lt _ hn0
            have hdiv : (v * S.1 + s) / S.1 = v := by rw [Nat.mul_comm, Nat.mul_add_div (by omega), Nat.div_eq_of_lt (by omega), Nat.add_zero]
            have hT1 : S.2.2.1 (v * S.1 + s) < 2 ^ 31 := by
              obtain ⟨f9, -, hT9⟩ := hR.tk
              have := (hT9 _ (vs_lt hR.so.1 (show v < S.1 ^ (S.2.1 - 1) by omega) (show s < S.1 by omega))).2
              omega
            have kl := k9_labelR (w := w) (v := v) (s := s) (cR a b) (by omega) (by omega)
            have kg := k9_goalR (w := w) (v := v) (s := s) (cR a b) (by omega) (by omega)
            rw [hnn] at kg
            have fin : ∀ z, z = (if decide (S.2.2.1 (v * S.1 + s) = cel S.1 L x c) then fwR n S.1 S.2.2.1 (cel S.1 L x) c v else 0) → V X (0, 0) w (hu (hu h 77 (io 9 a)) 78 (io 9 b)) 138 [some (.ref 62), some (.int (nI x)), some (.int (nI L)), some (.int (nI n)), some (.int (nI c)), some (.int (nI (cel S.1 L x c))), some (.int (nI v)), some (.int (nI s))] [.int (nI z), .int (nI (ac n S.1 (fun t => decide (S.2.2.1 t = cel S.1 L x c)) (fwR n S.1 S.2.2.1 (cel S.1 L x) c) (v * S.1 + s) ((v * S.1 + s) % n))), .int (nI ((v * S.1 + s) % n)), .ref 78] := by
              intro z hz
              refine v_iaddN C (oX9_preimages.at 76 rfl) ?_
              refine v_iast C (oX9_preimages.at 77 rfl) (c8 _ _) (by decide) rfl (by omega) ?_
              rw [hu_hu]
              refine v_iincN C (oX9_preimages.at 78 rfl) rfl ?_
              refine v_goto C (oX9_preimages.at 79 rfl) (tgt := 91) (by decide) ?_
              dsimp only [sto1, sto2, killL]
              refine ihq _ (by omega) (fun y hy => ?_)
              rw [← Nat.add_assoc, ac, hdiv]
              by_cases e1 : y = (v * S.1 + s) % n
              · rw [e1, pk_us, hz]
                by_cases e2 : S.2.2.1 (v * S.1 + s) = cel S.1 L x c
                · simp [e2]
                · simp [e2]
              · rw [pk_un e1, hb y hy]
                simp [Ne.symm e1]
            refine v_iload C (oX9_preimages.at 52 rfl) rfl ?_
            refine v_aload_n C (oX9_preimages.at 53 rfl) rfl ?_
            refine v_getf C (oX9_preimages.at 54 rfl) fX9_7 (c0 _ _) (congrArg (fun z => some (Value.int z)) (o2.1)) ?_
            refine v_icmp_geN C (oX9_preimages.at 55 rfl) (tgt := 146) (by decide) (by omega) (by omega) (fun hc => absurd hc (by omega)) (fun hc => ?_)
            refine v_aload_n C (oX9_preimages.at 56 rfl) rfl ?_
            refine v_getf C (oX9_preimages.at 57 rfl) fX9_65 (c0 _ _) rfl ?_
            refine v_aload_n C (oX9_preimages.at 58 rfl) rfl ?_
            refine v_iload C (oX9_preimages.at 59 rfl) rfl ?_
            refine v_iload C (oX9_preimages.at 60 rfl) rfl ?_
            refine v_callV C (oX9_preimages.at 61 rfl) cX9_225 (c0 _ _) (kg) rfl rfl rfl ⟨rfl, rfl⟩ rfl rfl (fun _ => rfl) (fun h' hp => ?_)
            rw [show h' = _ from hp]
            dsimp only [Option.toList, List.cons_append, List.nil_append]
            refine v_dup2 C (oX9_preimages.at 62 rfl) rfl rfl ?_
            refine v_iald C (oX9_preimages.at 63 rfl) (c8 _ _) (by decide) rfl (by omega) (hb _ hgl) ?_
            refine v_aload_n C (oX9_preimages.at 64 rfl) rfl ?_
            refine v_iload C (oX9_preimages.at 65 rfl) rfl ?_
            refine v_iload C (oX9_preimages.at 66 rfl) rfl ?_
            refine v_callV C (oX9_preimages.at 67 rfl) cX9_222 (c0 _ _) (kl) rfl rfl rfl ⟨rfl, rfl⟩ rfl rfl (fun _ => rfl) (fun h' hp => ?_)
            rw [show h' = _ from hp]
            dsimp only [Option.toList, List.cons_append, List.nil_append]
            refine v_iload C (oX9_preimages.at 68 rfl) rfl ?_
            refine v_icmp_neN C (oX9_preimages.at 69 rfl) (tgt := 137) (by decide) (by omega) (by omega) (fun hc => ?_) (fun hc => ?_)
            · refine v_iconst C (oX9_preimages.at 75 rfl) (v := nI 0) rfl ?_
              exact fin 0 (by rw [if_neg (by simp [hc])])
            · refine v_aload_n C (oX9_preimages.at 70 rfl) rfl ?_
              refine v_getf C (oX9_preimages.at 71 rfl) fX9_62 (c0 _ _) rfl ?_
              refine v_iload C (oX9_preimages.at 72 rfl) rfl ?_
              refine v_iald C (oX9_preimages.at 73 rfl) (c7 _ _) (by decide) rfl (by omega) (ha v (by omega)) ?_
              refine v_goto C (oX9_preimages.at 74 rfl) (tgt := 138) (by decide) ?_
              exact fin _ (by rw [if_pos (decide_eq_true hc)])
      suffices L1 : ∀ e i b l7, i + e = n → (∀ v, v < i → b v = nI 0) → V X (0, 0) w (hu (hu h 77 (io 9 a)) 78 (io 9 b)) 59 [some (.ref 62), some (.int (nI x)), some (.int (nI L)), some (.int (nI n)), some (.int (nI c)), some (.int (nI (cel S.1 L x c))), some (.int (nI i)), l7] [] from L1 n 0 b _ (by omega) (fun v hv => absurd hv (by omega))
      intro e
      induction e with
      | zero =>
        intro i b l7 hi hb
        obtain rfl : i = n := by omega
        refine v_iload C (oX9_preimages.at 35 rfl) rfl ?_
        refine v_iload_n C (oX9_preimages.at 36 rfl) rfl ?_
        refine v_icmp_geN C (oX9_preimages.at 37 rfl) (tgt := 79) (by decide) (by omega) (by omega) (fun hc => ?_) (fun hc => absurd hc (by omega))
        refine v_iconst C (oX9_preimages.at 45 rfl) (v := nI 0) rfl ?_
        refine v_istore C (oX9_preimages.at 46 rfl) rfl ?_
        dsimp only [sto1, sto2, killL]
        exact L2 i 0 b _ (by omega) (fun y hy => by rw [Nat.zero_mul, ac]; exact hb y hy)
      | succ e ihe =>
        intro i b l7 hi hb
        refine v_iload C (oX9_preimages.at 35 rfl) rfl ?_
        refine v_iload_n C (oX9_preimages.at 36 rfl) rfl ?_
        refine v_icmp_geN C (oX9_preimages.at 37 rfl) (tgt := 79) (by decide) (by omega) (by omega) (fun hc => absurd hc (by omega)) (fun hc => ?_)
        refine v_aload_n C (oX9_preimages.at 38 rfl) rfl ?_
        refine v_getf C (oX9_preimages.at 39 rfl) fX9_65 (c0 _ _) rfl ?_
        refine v_iload C (oX9_preimages.at 40 rfl) rfl ?_
        refine v_iconst C (oX9_preimages.at 41 rfl) (v := nI 0) rfl ?_
        refine v_iast C (oX9_preimages.at 42 rfl) (c8 _ _) (by decide) rfl (by omega) ?_
        rw [hu_hu]
        refine v_iincN C (oX9_preimages.at 43 rfl) rfl ?_
        refine v_goto C (oX9_preimages.at 44 rfl) (tgt := 59) (by decide) ?_
        dsimp only [sto1, sto2, killL]
        refine ihe (i + 1) _ _ (by omega) (fun v hv => ?_)
        by_cases q : v = i
        · rw [q, pk_us]
        · rw [pk_un q]; exact hb v (by omega)
  suffices H : ∀ d i a, i + d = n → (∀ v, v < i → a v = nI 1) → V X (0, 0) w (hu (hu h 77 (io 9 a)) 78 (io 9 g2)) 8 [some (.ref 62), some (.int (nI x)), some (.int (nI L)), some (.int (nI n)), some (.int (nI i)), none, none, none] [] by
    have := H n 0 g1 (by omega) (fun v hv => absurd hv (by omega))
    rw [hu_id h hg1, hu_id h hg2] at this
    exact this
  intro d
  induction d with
  | zero =>
    intro i a hi ha
    obtain rfl : i = n := by omega
    refine v_iload C (oX9_preimages.at 5 rfl) rfl ?_
    refine v_iload_n C (oX9_preimages.at 6 rfl) rfl ?_
    refine v_icmp_geN C (oX9_preimages.at 7 rfl) (tgt := 28) (by decide) (by omega) (by omega) (fun hc => ?_) (fun hc => absurd hc (by omega))
    refine v_iconst C (oX9_preimages.at 15 rfl) (v := nI 0) rfl ?_
    refine v_istore C (oX9_preimages.at 16 rfl) rfl ?_
    dsimp only [sto1, sto2, killL]
    exact M L 0 a g2 _ _ _ (by omega) (fun v hv => by rw [fwR]; exact ha v hv)
  | succ d ih =>
    intro i a hi ha
    refine v_iload C (oX9_preimages.at 5 rfl) rfl ?_
    refine v_iload_n C (oX9_preimages.at 6 rfl) rfl ?_
    refine v_icmp_geN C (oX9_preimages.at 7 rfl) (tgt := 28) (by decide) (by omega) (by omega) (fun hc => absurd hc (by omega)) (fun hc => ?_)
    refine v_aload_n C (oX9_preimages.at 8 rfl) rfl ?_
    refine v_getf C (oX9_preimages.at 9 rfl) fX9_62 (c0 _ _) rfl ?_
    refine v_iload C (oX9_preimages.at 10 rfl) rfl ?_
    refine v_iconst C (oX9_preimages.at 11 rfl) (v := nI 1) rfl ?_
    refine v_iast C (oX9_preimages.at 12 rfl) (c7 _ _) (by decide) rfl (by omega) ?_
    rw [hu_c _ _ _ (by decide), hu_hu]
    refine v_iincN C (oX9_preimages.at 13 rfl) rfl ?_
    refine v_goto C (oX9_preimages.at 14 rfl) (tgt := 8) (by decide) ?_
    dsimp only [sto1, sto2, killL]
    refine ih (i + 1) _ (by omega) (fun v hv => ?_)
    by_cases q : v = i
    · rw [q, pk_us]
    · rw [pk_un q]; exact ha v (by omega)
