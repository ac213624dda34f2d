/-! ===== the reference: properties ===== -/
def pmP (S : Sc) (wt : Nat) : Bool := allB (fun i => decide (i / wt % S.1 ≠ 0) || dfB (tI S.2.2.1) S.1 i wt) (S.1 ^ S.2.1)
theorem k9_isPermutive {w : Wt} {G h : Hp} {th : Nat} {S Z : Sc} {sv : Bool} {F : Sf} {wt : Nat} (hR : RF G h th S sv Z F) (hwt : 0 < wt) (hwt2 : wt ≤ 9) (hix : ∀ i s, i < S.1 ^ S.2.1 → i / wt % S.1 = 0 → s < S.1 → i + s * wt < S.1 ^ S.2.1) : ConN mX9_isPermutive 2 (0, 0) w [.ref 62, .int (nI wt)] h (.inl (some (.int (bI (pmP S wt))))) (fun h' => h' = h) := by
  obtain ⟨u, o0, o1, o2⟩ := hR.o
  obtain ⟨f, hf, hT⟩ := hR.tk
  have hk := hR.so.1.k
  have hm := hR.so.1.m
  unfold pmP
  refine conI (by decide +kernel) ⟨fun _ => rfl, rfl, by simp⟩ (fun X C => ?_)
  change V X (0, 0) w h 0 [some (.ref 62), some (.int (nI wt)), none, none, none] []
  refine v_iconst C (oX9_isPermutive.at 0 rfl) (v := nI 0) rfl ?_
  refine v_istore_n C (oX9_isPermutive.at 1 rfl) rfl ?_
  dsimp only [sto1, sto2, killL]
  suffices H : ∀ d i l3 l4, i + d = S.1 ^ S.2.1 → allB (fun i => decide (i / wt % S.1 ≠ 0) || dfB (tI S.2.2.1) S.1 i wt) i = true → V X (0, 0) w h 2 [some (.ref 62), some (.int (nI wt)), some (.int (nI i)), l3, l4] [] from H (S.1 ^ S.2.1) 0 none none (by omega) rfl
  intro d
  induction d with
  | zero =>
    intro i l3 l4 hi hall
    obtain rfl : i = S.1 ^ S.2.1 := by omega
    rw [hall] at C
    refine v_iload_n C (oX9_isPermutive.at 2 rfl) rfl ?_
    refine v_aload_n C (oX9_isPermutive.at 3 rfl) rfl ?_
    refine v_callV C (oX9_isPermutive.at 4 rfl) cX9_114 o0 (k9_allR hR) rfl rfl rfl ⟨rfl, rfl⟩ rfl rfl (fun _ => rfl) (fun h' hp => ?_)
    rw [show h' = _ from hp]
    dsimp only [Option.toList, List.cons_append, List.nil_append]
    refine v_icmp_geN C (oX9_isPermutive.at 5 rfl) (tgt := 80) (by decide) (by omega) (by omega) (fun hc => ?_) (fun hc => absurd hc (by omega))
    refine v_iconst C (oX9_isPermutive.at 49 rfl) (v := nI 1) rfl ?_
    exact v_zret1 C (oX9_isPermutive.at 50 rfl) rfl rfl ⟨Nat.le_refl _, Nat.le_refl _⟩ ⟨rfl, rfl⟩
  | succ d ih =>
    intro i l3 l4 hi hall
    have ih := fun l3 l4 => ih (i + 1) l3 l4 (by omega)
    rw [allB, hall, Bool.true_and] at ih
    have hdl : i / wt ≤ i := Nat.div_le_self _ _
    have hml : i / wt % S.1 < S.1 := Nat.mod_lt _ (by omega)
    refine v_iload_n C (oX9_isPermutive.at 2 rfl) rfl ?_
    refine v_aload_n C (oX9_isPermutive.at 3 rfl) rfl ?_
    refine v_callV C (oX9_isPermutive.at 4 rfl) cX9_114 o0 (k9_allR hR) rfl rfl rfl ⟨rfl, rfl⟩ rfl rfl (fun _ => rfl) (fun h' hp => ?_)
    rw [show h' = _ from hp]
    dsimp only [Option.toList, List.cons_append, List.nil_append]
    refine v_icmp_geN C (oX9_isPermutive.at 5 rfl) (tgt := 80) (by decide) (by omega) (by omega) (fun hc => absurd hc (by omega)) (fun hc => ?_)
    refine v_iload_n C (oX9_isPermutive.at 6 rfl) rfl ?_
    refine v_iload_n C (oX9_isPermutive.at 7 rfl) rfl ?_
    refine v_idivN C (oX9_isPermutive.at 8 rfl) (by omega) (by omega) (by omega) ?_
    refine v_aload_n C (oX9_isPermutive.at 9 rfl) rfl ?_
    refine v_getf C (oX9_isPermutive.at 10 rfl) fX9_7 o0 (congrArg (fun z => some (Value.int z)) (o2.1)) ?_
    refine v_iremN C (oX9_isPermutive.at 11 rfl) (by omega) (by omega) (by omega) ?_
    refine v_if_eqN C (oX9_isPermutive.at 12 rfl) (tgt := 24) (by decide) (by omega) (fun hc => ?_) (fun hc => ?_)
    · have hz := hc
      refine v_iconst C (oX9_isPermutive.at 14 rfl) (v := nI 0) rfl ?_
      refine v_istore_n C (oX9_isPermutive.at 15 rfl) rfl ?_
      refine v_iconst C (oX9_isPermutive.at 16 rfl) (v := nI 0) rfl ?_
      refine v_istore C (oX9_isPermutive.at 17 rfl) rfl ?_
      dsimp only [sto1, sto2, killL]
      have fin : V X (0, 0) w h 60 [some (.ref 62), some (.int (nI wt)), some (.int (nI i)), some (.int (snB (tI S.2.2.1) i wt S.1)), some (.int (nI S.1))] [] := by
        refine v_iload_n C (oX9_isPermutive.at 37 rfl) rfl ?_
        refine v_iconst C (oX9_isPermutive.at 38 rfl) (v := nI 1) rfl ?_
        refine v_aload_n C (oX9_isPermutive.at 39 rfl) rfl ?_
        refine v_getf C (oX9_isPermutive.at 40 rfl) fX9_7 o0 (congrArg (fun z => some (Value.int z)) (o2.1)) ?_
        refine v_ishl C (oX9_isPermutive.at 41 rfl) ?_
        refine v_iconst C (oX9_isPermutive.at 42 rfl) (v := nI 1) rfl ?_
        refine v_isub C (oX9_isPermutive.at 43 rfl) ?_
        refine v_icmp_eq C (oX9_isPermutive.at 44 rfl) (tgt := 74) (by decide) (fun hc => ?_) (fun hc => ?_)
        · refine v_iincN C (oX9_isPermutive.at 47 rfl) rfl ?_
          refine v_goto C (oX9_isPermutive.at 48 rfl) (tgt := 2) (by decide) ?_
          dsimp only [sto1, sto2, killL]
          refine ih _ _ ?_
          rw [Bool.or_eq_true]
          right
          unfold dfB
          exact decide_eq_true hc
        · have hF : (decide (i / wt % S.1 ≠ 0) || dfB (tI S.2.2.1) S.1 i wt) = false := by
            rw [Bool.or_eq_false_iff]
            refine ⟨decide_eq_false (fun q => q hz), ?_⟩
            unfold dfB
            exact decide_eq_false hc
          rw [allB_f (p := fun i => decide (i / wt % S.1 ≠ 0) || dfB (tI S.2.2.1) S.1 i wt) (i := i) hF (S.1 ^ S.2.1) (by omega)] at C
          refine v_iconst C (oX9_isPermutive.at 45 rfl) (v := nI 0) rfl ?_
          exact v_zret0 C (oX9_isPermutive.at 46 rfl) rfl rfl ⟨Nat.le_refl _, Nat.le_refl _⟩ ⟨rfl, rfl⟩
      suffices H2 : ∀ e s, s + e = S.1 → V X (0, 0) w h 29 [some (.ref 62), some (.int (nI wt)), some (.int (nI i)), some (.int (snB (tI S.2.2.1) i wt s)), some (.int (nI s))] [] from H2 S.1 0 (by omega)
      intro e
      induction e with
      | zero =>
        intro s hs
        obtain rfl : s = S.1 := by omega
        refine v_iload C (oX9_isPermutive.at 18 rfl) rfl ?_
        refine v_aload_n C (oX9_isPermutive.at 19 rfl) rfl ?_
        refine v_getf C (oX9_isPermutive.at 20 rfl) fX9_7 o0 (congrArg (fun z => some (Value.int z)) (o2.1)) ?_
        refine v_icmp_geN C (oX9_isPermutive.at 21 rfl) (tgt := 60) (by decide) (by omega) (by omega) (fun hc => ?_) (fun hc => absurd hc (by omega))
        exact fin
      | succ e ihe =>
        intro s hs
        have ihe := ihe (s + 1) (by omega)
        rw [snB] at ihe
        have hx := hix i s (by omega) hz (by omega)
        refine v_iload C (oX9_isPermutive.at 18 rfl) rfl ?_
        refine v_aload_n C (oX9_isPermutive.at 19 rfl) rfl ?_
        refine v_getf C (oX9_isPermutive.at 20 rfl) fX9_7 o0 (congrArg (fun z => some (Value.int z)) (o2.1)) ?_
        refine v_icmp_geN C (oX9_isPermutive.at 21 rfl) (tgt := 60) (by decide) (by omega) (by omega) (fun hc => absurd hc (by omega)) (fun hc => ?_)
        refine v_iload_n C (oX9_isPermutive.at 22 rfl) rfl ?_
        refine v_iconst C (oX9_isPermutive.at 23 rfl) (v := nI 1) rfl ?_
        refine v_aload_n C (oX9_isPermutive.at 24 rfl) rfl ?_
        refine v_getf C (oX9_isPermutive.at 25 rfl) fX9_16 o0 rfl ?_
        refine v_iload_n C (oX9_isPermutive.at 26 rfl) rfl ?_
        refine v_iload C (oX9_isPermutive.at 27 rfl) rfl ?_
        refine v_iload_n C (oX9_isPermutive.at 28 rfl) rfl ?_
        refine v_imulN C (oX9_isPermutive.at 29 rfl) ?_
        refine v_iaddN C (oX9_isPermutive.at 30 rfl) ?_
        refine v_iald C (oX9_isPermutive.at 31 rfl) hf (by decide) rfl (by omega) (hT _ hx).1 ?_
        refine v_ishl C (oX9_isPermutive.at 32 rfl) ?_
        refine v_ior C (oX9_isPermutive.at 33 rfl) ?_
        refine v_istore_n C (oX9_isPermutive.at 34 rfl) rfl ?_
        refine v_iincN C (oX9_isPermutive.at 35 rfl) rfl ?_
        refine v_goto C (oX9_isPermutive.at 36 rfl) (tgt := 29) (by decide) ?_
        dsimp only [sto1, sto2, killL]
        exact ihe
    · refine v_goto C (oX9_isPermutive.at 13 rfl) (tgt := 74) (by decide) ?_
      refine v_iincN C (oX9_isPermutive.at 47 rfl) rfl ?_
      refine v_goto C (oX9_isPermutive.at 48 rfl) (tgt := 2) (by decide) ?_
      dsimp only [sto1, sto2, killL]
      refine ih _ _ ?_
      rw [Bool.or_eq_true]
      exact Or.inl (decide_eq_true hc)
theorem k9_isBalanced {w : Wt} {G h : Hp} {th : Nat} {S Z : Sc} {sv : Bool} {F : Sf} (hR : RF G h th S sv Z F) : ConN mX9_isBalanced 2 (0, 0) w [.ref 62] h (.inl (some (.int (bI (baP S))))) (fun h' => h' = h) := by
  obtain ⟨u, o0, o1, o2⟩ := hR.o
  obtain ⟨f, hf, hT⟩ := hR.tk
  have hk := hR.so.1.k
  have hm := hR.so.1.m
  have hn9 := hR.so.1.n
  unfold baP
  refine conI (by decide +kernel) ⟨fun _ => rfl, rfl, by simp⟩ (fun X C => ?_)
  change V X (0, 0) w h 0 [some (.ref 62), none, none, none] []
  refine v_iconst C (oX9_isBalanced.at 0 rfl) (v := nI 0) rfl ?_
  refine v_istore_n C (oX9_isBalanced.at 1 rfl) rfl ?_
  dsimp only [sto1, sto2, killL]
  suffices H : ∀ d c l2 l3, c + d = S.1 → allB (fun c => decide (cntE S.2.2.1 c (S.1 ^ S.2.1) = S.1 ^ (S.2.1 - 1))) c = true → V X (0, 0) w h 2 [some (.ref 62), some (.int (nI c)), l2, l3] [] from H S.1 0 none none (by omega) rfl
  intro d
  induction d with
  | zero =>
    intro c l2 l3 hi hall
    obtain rfl : c = S.1 := by omega
    rw [hall] at C
    refine v_iload_n C (oX9_isBalanced.at 2 rfl) rfl ?_
    refine v_aload_n C (oX9_isBalanced.at 3 rfl) rfl ?_
    refine v_getf C (oX9_isBalanced.at 4 rfl) fX9_7 o0 (congrArg (fun z => some (Value.int z)) (o2.1)) ?_
    refine v_icmp_geN C (oX9_isBalanced.at 5 rfl) (tgt := 62) (by decide) (by omega) (by omega) (fun hc => ?_) (fun hc => absurd hc (by omega))
    refine v_iconst C (oX9_isBalanced.at 36 rfl) (v := nI 1) rfl ?_
    exact v_zret1 C (oX9_isBalanced.at 37 rfl) rfl rfl ⟨Nat.le_refl _, Nat.le_refl _⟩ ⟨rfl, rfl⟩
  | succ d ih =>
    intro c l2 l3 hi hall
    have ih := fun l2 l3 => ih (c + 1) l2 l3 (by omega)
    rw [allB, hall, Bool.true_and] at ih
    have hcl := cnt_le (fun i => decide (S.2.2.1 i = c)) (S.1 ^ S.2.1)
    have hcl : cntE S.2.2.1 c (S.1 ^ S.2.1) ≤ S.1 ^ S.2.1 := hcl
    refine v_iload_n C (oX9_isBalanced.at 2 rfl) rfl ?_
    refine v_aload_n C (oX9_isBalanced.at 3 rfl) rfl ?_
    refine v_getf C (oX9_isBalanced.at 4 rfl) fX9_7 o0 (congrArg (fun z => some (Value.int z)) (o2.1)) ?_
    refine v_icmp_geN C (oX9_isBalanced.at 5 rfl) (tgt := 62) (by decide) (by omega) (by omega) (fun hc => absurd hc (by omega)) (fun hc => ?_)
    refine v_iconst C (oX9_isBalanced.at 6 rfl) (v := nI 0) rfl ?_
    refine v_istore_n C (oX9_isBalanced.at 7 rfl) rfl ?_
    refine v_iconst C (oX9_isBalanced.at 8 rfl) (v := nI 0) rfl ?_
    refine v_istore_n C (oX9_isBalanced.at 9 rfl) rfl ?_
    dsimp only [sto1, sto2, killL]
    suffices H2 : ∀ e i, i + e = S.1 ^ S.2.1 → V X (0, 0) w h 14 [some (.ref 62), some (.int (nI c)), some (.int (nI (cntE S.2.2.1 c i))), some (.int (nI i))] [] from H2 (S.1 ^ S.2.1) 0 (by omega)
    intro e
    induction e with
    | zero =>
      intro i hi
      obtain rfl : i = S.1 ^ S.2.1 := by omega
      refine v_iload_n C (oX9_isBalanced.at 10 rfl) rfl ?_
      refine v_aload_n C (oX9_isBalanced.at 11 rfl) rfl ?_
      refine v_callV C (oX9_isBalanced.at 12 rfl) cX9_114 o0 (k9_allR hR) rfl rfl rfl ⟨rfl, rfl⟩ rfl rfl (fun _ => rfl) (fun h' hp => ?_)
      rw [show h' = _ from hp]
      dsimp only [Option.toList, List.cons_append, List.nil_append]
      refine v_icmp_geN C (oX9_isBalanced.at 13 rfl) (tgt := 46) (by decide) (by omega) (by omega) (fun hc => ?_) (fun hc => absurd hc (by omega))
      refine v_iload_n C (oX9_isBalanced.at 28 rfl) rfl ?_
      refine v_aload_n C (oX9_isBalanced.at 29 rfl) rfl ?_
      refine v_callV C (oX9_isBalanced.at 30 rfl) cX9_118 o0 (k9_nodesR hR) rfl rfl rfl ⟨rfl, rfl⟩ rfl rfl (fun _ => rfl) (fun h' hp => ?_)
      rw [show h' = _ from hp]
      dsimp only [Option.toList, List.cons_append, List.nil_append]
      refine v_icmp_eqN C (oX9_isBalanced.at 31 rfl) (tgt := 56) (by decide) (by omega) (by omega) (fun hc => ?_) (fun hc => ?_)
      · refine v_iincN C (oX9_isBalanced.at 34 rfl) rfl ?_
        refine v_goto C (oX9_isBalanced.at 35 rfl) (tgt := 2) (by decide) ?_
        dsimp only [sto1, sto2, killL]
        exact ih _ _ (decide_eq_true hc)
      · rw [allB_f (p := fun c => decide (cntE S.2.2.1 c (S.1 ^ S.2.1) = S.1 ^ (S.2.1 - 1))) (i := c) (decide_eq_false hc) S.1 (by omega)] at C
        refine v_iconst C (oX9_isBalanced.at 32 rfl) (v := nI 0) rfl ?_
        exact v_zret0 C (oX9_isBalanced.at 33 rfl) rfl rfl ⟨Nat.le_refl _, Nat.le_refl _⟩ ⟨rfl, rfl⟩
    | succ e ihe =>
      intro i hi
      have ihe := ihe (i + 1) (by omega)
      unfold cntE at ihe ⊢
      rw [cnt] at ihe
      have hTi := hT i (by omega)
      refine v_iload_n C (oX9_isBalanced.at 10 rfl) rfl ?_
      refine v_aload_n C (oX9_isBalanced.at 11 rfl) rfl ?_
      refine v_callV C (oX9_isBalanced.at 12 rfl) cX9_114 o0 (k9_allR hR) rfl rfl rfl ⟨rfl, rfl⟩ rfl rfl (fun _ => rfl) (fun h' hp => ?_)
      rw [show h' = _ from hp]
      dsimp only [Option.toList, List.cons_append, List.nil_append]
      refine v_icmp_geN C (oX9_isBalanced.at 13 rfl) (tgt := 46) (by decide) (by omega) (by omega) (fun hc => absurd hc (by omega)) (fun hc => ?_)
      refine v_iload_n C (oX9_isBalanced.at 14 rfl) rfl ?_
      refine v_aload_n C (oX9_isBalanced.at 15 rfl) rfl ?_
      refine v_getf C (oX9_isBalanced.at 16 rfl) fX9_16 o0 rfl ?_
      refine v_iload_n C (oX9_isBalanced.at 17 rfl) rfl ?_
      refine v_iald C (oX9_isBalanced.at 18 rfl) hf (by decide) rfl (by omega) hTi.1 ?_
      refine v_iload_n C (oX9_isBalanced.at 19 rfl) rfl ?_
      refine v_icmp_neN C (oX9_isBalanced.at 20 rfl) (tgt := 37) (by decide) (by omega) (by omega) (fun hc => ?_) (fun hc => ?_)
      · rw [if_neg (by simp [hc])] at ihe
        refine v_iconst C (oX9_isBalanced.at 23 rfl) (v := nI 0) rfl ?_
        refine v_iaddN C (oX9_isBalanced.at 24 rfl) ?_
        refine v_istore_n C (oX9_isBalanced.at 25 rfl) rfl ?_
        refine v_iincN C (oX9_isBalanced.at 26 rfl) rfl ?_
        refine v_goto C (oX9_isBalanced.at 27 rfl) (tgt := 14) (by decide) ?_
        dsimp only [sto1, sto2, killL]
        exact ihe
      · rw [if_pos (decide_eq_true hc)] at ihe
        refine v_iconst C (oX9_isBalanced.at 21 rfl) (v := nI 1) rfl ?_
        refine v_goto C (oX9_isBalanced.at 22 rfl) (tgt := 38) (by decide) ?_
        refine v_iaddN C (oX9_isBalanced.at 24 rfl) ?_
        refine v_istore_n C (oX9_isBalanced.at 25 rfl) rfl ?_
        refine v_iincN C (oX9_isBalanced.at 26 rfl) rfl ?_
        refine v_goto C (oX9_isBalanced.at 27 rfl) (tgt := 14) (by decide) ?_
        dsimp only [sto1, sto2, killL]
        exact ihe
theorem k9_isMade {w : Wt} {G h : Hp} {th : Nat} {S Z : Sc} {sv : Bool} {F : Sf} {g : Nat → Int32} {T' : Nat → Nat} (hR : RF G h th S sv Z F) (hg : h 70 = io 27 g) (hT' : TOK S g T') : ConN mX9_isMade 2 (0, 0) w [.ref 62] h (.inl (some (.int (bI (allB (fun i => decide (S.2.2.1 i = T' i)) (S.1 ^ S.2.1)))))) (fun h' => h' = h) := by
  obtain ⟨u, o0, o1, o2⟩ := hR.o
  obtain ⟨f, hf, hT⟩ := hR.tk
  have hk := hR.so.1.k
  have hm := hR.so.1.m
  refine conI (by decide +kernel) ⟨fun _ => rfl, rfl, by simp⟩ (fun X C => ?_)
  change V X (0, 0) w h 0 [some (.ref 62), none] []
  refine v_iconst C (oX9_isMade.at 0 rfl) (v := nI 0) rfl ?_
  refine v_istore_n C (oX9_isMade.at 1 rfl) rfl ?_
  dsimp only [sto1, sto2, killL]
  suffices H : ∀ d i, i + d = S.1 ^ S.2.1 → allB (fun i => decide (S.2.2.1 i = T' i)) i = true → V X (0, 0) w h 2 [some (.ref 62), some (.int (nI i))] [] from H (S.1 ^ S.2.1) 0 (by omega) rfl
  intro d
  induction d with
  | zero =>
    intro i hi hall
    obtain rfl : i = S.1 ^ S.2.1 := by omega
    rw [hall] at C
    refine v_iload_n C (oX9_isMade.at 2 rfl) rfl ?_
    refine v_aload_n C (oX9_isMade.at 3 rfl) rfl ?_
    refine v_callV C (oX9_isMade.at 4 rfl) cX9_114 o0 (k9_allR hR) rfl rfl rfl ⟨rfl, rfl⟩ rfl rfl (fun _ => rfl) (fun h' hp => ?_)
    rw [show h' = _ from hp]
    dsimp only [Option.toList, List.cons_append, List.nil_append]
    refine v_icmp_geN C (oX9_isMade.at 5 rfl) (tgt := 33) (by decide) (by omega) (by omega) (fun hc => ?_) (fun hc => absurd hc (by omega))
    refine v_iconst C (oX9_isMade.at 19 rfl) (v := nI 1) rfl ?_
    exact v_zret1 C (oX9_isMade.at 20 rfl) rfl rfl ⟨Nat.le_refl _, Nat.le_refl _⟩ ⟨rfl, rfl⟩
  | succ d ih =>
    intro i hi hall
    have ih := ih (i + 1) (by omega)
    rw [allB, hall, Bool.true_and] at ih
    have h1 := hT i (by omega)
    have h2 := hT' i (by omega)
    refine v_iload_n C (oX9_isMade.at 2 rfl) rfl ?_
    refine v_aload_n C (oX9_isMade.at 3 rfl) rfl ?_
    refine v_callV C (oX9_isMade.at 4 rfl) cX9_114 o0 (k9_allR hR) rfl rfl rfl ⟨rfl, rfl⟩ rfl rfl (fun _ => rfl) (fun h' hp => ?_)
    rw [show h' = _ from hp]
    dsimp only [Option.toList, List.cons_append, List.nil_append]
    refine v_icmp_geN C (oX9_isMade.at 5 rfl) (tgt := 33) (by decide) (by omega) (by omega) (fun hc => absurd hc (by omega)) (fun hc => ?_)
    refine v_aload_n C (oX9_isMade.at 6 rfl) rfl ?_
    refine v_getf C (oX9_isMade.at 7 rfl) fX9_16 o0 rfl ?_
    refine v_iload_n C (oX9_isMade.at 8 rfl) rfl ?_
    refine v_iald C (oX9_isMade.at 9 rfl) hf (by decide) rfl (by omega) h1.1 ?_
    refine v_aload_n C (oX9_isMade.at 10 rfl) rfl ?_
    refine v_getf C (oX9_isMade.at 11 rfl) fX9_41 o0 rfl ?_
    refine v_iload_n C (oX9_isMade.at 12 rfl) rfl ?_
    refine v_iald C (oX9_isMade.at 13 rfl) hg (by decide) rfl (by omega) h2.1 ?_
    refine v_icmp_eqN C (oX9_isMade.at 14 rfl) (tgt := 27) (by decide) (by omega) (by omega) (fun hc => ?_) (fun hc => ?_)
    · refine v_iincN C (oX9_isMade.at 17 rfl) rfl ?_
      refine v_goto C (oX9_isMade.at 18 rfl) (tgt := 2) (by decide) ?_
      dsimp only [sto1, sto2, killL]
      exact ih (decide_eq_true hc)
    · rw [allB_f (p := fun i => decide (S.2.2.1 i = T' i)) (i := i) (decide_eq_false hc) (S.1 ^ S.2.1) (by omega)] at C
      refine v_iconst C (oX9_isMade.at 15 rfl) (v := nI 0) rfl ?_
      exact v_zret0 C (oX9_isMade.at 16 rfl) rfl rfl ⟨Nat.le_refl _, Nat.le_refl _⟩ ⟨rfl, rfl⟩
theorem k9_hasX {w : Wt} {G h : Hp} {th : Nat} {S Z : Sc} {sv : Bool} {F : Sf} {x : Int32} (hR : RF G h th S sv Z F) (hx : ¬ InB x 7) : ConN mX9_has 4 (0, 0) w [.ref 62, .int x] h (.inl (some (.int (bI false)))) (fun h' => RF G h' 1 S sv Z F) := by
  have hn := nInB (by decide) hx
  refine conI (by decide +kernel) ⟨fun _ => rfl, rfl, by simp⟩ (fun X C => ?_)
  change V X (0, 0) w h 0 [some (.ref 62), some (.int x)] []
  refine v_aload_n C (oX9_has.at 0 rfl) rfl ?_
  refine v_iload_n C (oX9_has.at 1 rfl) rfl ?_
  refine v_iconst C (oX9_has.at 2 rfl) (v := nI 0) rfl ?_
  refine v_bipush C (oX9_has.at 3 rfl) (v := nI 6) rfl ?_
  refine v_callS C (oX9_has.at 4 rfl) cX9_103 (k_inF 7 (by decide) (by decide) rfl hx) rfl rfl rfl ⟨rfl, rfl⟩ rfl rfl (fun _ => rfl) (fun h' hp => ?_)
  rw [show h' = _ from hp]
  dsimp only [Option.toList, List.cons_append, List.nil_append]
  refine v_if_eqB C (oX9_has.at 5 rfl) (tgt := 15) (by decide) (fun _ => ?_) (fun z => absurd z (by decide))
  refine v_iconst C (oX9_has.at 8 rfl) (v := nI 1) rfl ?_
  refine v_thr C (oX9_has.at 9 rfl) fX9_96 hR (fun h1 u1 hR1 q0 qt qm => ?_)
  refine v_iload_n C (oX9_has.at 10 rfl) rfl ?_
  refine v_tableOut C (oX9_has.at 11 rfl) (by omega) (tgt := 148) (by decide) ?_
  refine v_iconst C (oX9_has.at 58 rfl) (v := nI 0) rfl ?_
  exact v_zret0 C (oX9_has.at 59 rfl) rfl rfl ⟨Nat.le_refl _, Nat.le_refl _⟩ ⟨rfl, hR1⟩
theorem has9_start {w : Wt} {G h : Hp} {th : Nat} {S Z : Sc} {sv : Bool} {F : Sf} {x tgt : Nat} {off : Int} {X : CT} {o : Oc} {P : Wt → Hp → Prop} (C : Cx X mX9_has [] 4 (0, 0) o P) (hR : RF G h th S sv Z F) (hx : x < 7) (K : ∀ h1, RF G h1 0 S sv Z F → V X (0, 0) w h1 20 [some (.ref 62), some (.int (nI x))] [.int (nI x)]) : V X (0, 0) w h 0 [some (.ref 62), some (.int (nI x))] [] := by
  refine v_aload_n C (oX9_has.at 0 rfl) rfl ?_
  refine v_iload_n C (oX9_has.at 1 rfl) rfl ?_
  refine v_iconst C (oX9_has.at 2 rfl) (v := nI 0) rfl ?_
  refine v_bipush C (oX9_has.at 3 rfl) (v := nI 6) rfl ?_
  refine v_callS C (oX9_has.at 4 rfl) cX9_103 (k_inT 7 (by decide) (by decide) rfl (InB.of hx (by decide))) rfl rfl rfl ⟨rfl, rfl⟩ rfl rfl (fun _ => rfl) (fun h' hp => ?_)
  rw [show h' = _ from hp]
  dsimp only [Option.toList, List.cons_append, List.nil_append]
  refine v_if_eqB C (oX9_has.at 5 rfl) (tgt := 15) (by decide) (fun z => absurd z (by decide)) (fun _ => ?_)
  refine v_iconst C (oX9_has.at 6 rfl) (v := nI 0) rfl ?_
  refine v_goto C (oX9_has.at 7 rfl) (tgt := 16) (by decide) ?_
  refine v_thr C (oX9_has.at 9 rfl) fX9_96 hR (fun h1 u1 hR1 q0 qt qm => ?_)
  refine v_iload_n C (oX9_has.at 10 rfl) rfl ?_
  exact K h1 hR1
theorem k9_has0t {w : Wt} {G h : Hp} {th e : Nat} {S Z : Sc} {sv : Bool} {F : Sf} (hR : RF G h th S sv Z F) (he : Bend S.1 (S.1 ^ (S.2.1 - 1)) S.2.2.1 e) (h0 : ∀ j, j < e → Qs S e j ≠ 0) : ConN mX9_has 4 (0, 0) w [.ref 62, .int (nI 0)] h (.inl (some (.int (bI true)))) (fun h' => RF G h' 0 S sv Z F) := by
  refine conI (by decide +kernel) ⟨fun _ => rfl, rfl, by simp⟩ (fun X C => ?_)
  change V X (0, 0) w h 0 [some (.ref 62), some (.int (nI 0))] []
  refine has9_start (tgt := 0) (off := 0) C hR (by decide) (fun h1 hR1 => ?_)
  refine v_tableIn C (oX9_has.at 11 rfl) (by decide) (by decide) (off := 44) (tgt := 64) (by decide) (by decide) ?_
  obtain ⟨u1, q0, -⟩ := hR1.o
  refine v_aload_n C (oX9_has.at 12 rfl) rfl ?_
  refine v_callV C (oX9_has.at 13 rfl) cX9_259 q0 (k9_findsSets hR1 he) rfl rfl rfl ⟨rfl, rfl⟩ rfl rfl (fun _ => rfl) (fun h' hp => ?_)
  dsimp only [Option.toList, List.cons_append, List.nil_append]
  have hR2 := FI.rf hp hR1
  obtain ⟨u, r, cf, cb, fa, z, a0, a1, a2, a3, b1, b2, b3, b4, b5, hB, ff⟩ := hp
  have e35 : u 35 = -1 := hB.2.2.2.2.2 (fun j hj => h0 j (by rw [he.1] at hj; exact hj))
  refine v_aload_n C (oX9_has.at 14 rfl) rfl ?_
  refine v_getf C (oX9_has.at 15 rfl) fX9_249 a0 rfl ?_
  rw [e35]
  refine v_if_ge C (oX9_has.at 16 rfl) (tgt := 79) (by decide) (fun hc => absurd hc (by decide)) (fun hc => ?_)
  refine v_iconst C (oX9_has.at 17 rfl) (v := nI 1) rfl ?_
  refine v_goto C (oX9_has.at 18 rfl) (tgt := 80) (by decide) ?_
  exact v_zret1 C (oX9_has.at 20 rfl) rfl rfl ⟨Nat.le_refl _, Nat.le_refl _⟩ ⟨rfl, hR2⟩
theorem k9_has0f {w : Wt} {G h : Hp} {th e j0 : Nat} {S Z : Sc} {sv : Bool} {F : Sf} (hR : RF G h th S sv Z F) (he : Bend S.1 (S.1 ^ (S.2.1 - 1)) S.2.2.1 e) (hj0 : j0 < e) (h0 : Qs S e j0 = 0) : ConN mX9_has 4 (0, 0) w [.ref 62, .int (nI 0)] h (.inl (some (.int (bI false)))) (fun h' => RF G h' 0 S sv Z F) := by
  have hle := he.le hR.so.1
  refine conI (by decide +kernel) ⟨fun _ => rfl, rfl, by simp⟩ (fun X C => ?_)
  change V X (0, 0) w h 0 [some (.ref 62), some (.int (nI 0))] []
  refine has9_start (tgt := 0) (off := 0) C hR (by decide) (fun h1 hR1 => ?_)
  refine v_tableIn C (oX9_has.at 11 rfl) (by decide) (by decide) (off := 44) (tgt := 64) (by decide) (by decide) ?_
  obtain ⟨u1, q0, -⟩ := hR1.o
  refine v_aload_n C (oX9_has.at 12 rfl) rfl ?_
  refine v_callV C (oX9_has.at 13 rfl) cX9_259 q0 (k9_findsSets hR1 he) rfl rfl rfl ⟨rfl, rfl⟩ rfl rfl (fun _ => rfl) (fun h' hp => ?_)
  dsimp only [Option.toList, List.cons_append, List.nil_append]
  have hR2 := FI.rf hp hR1
  obtain ⟨u, r, cf, cb, fa, z, a0, a1, a2, a3, b1, b2, b3, b4, b5, hB, ff⟩ := hp
  have e35 : u 35 = nI j0 := hB.2.2.2.2.1 j0 (by rw [he.1]; exact hj0) h0
  refine v_aload_n C (oX9_has.at 14 rfl) rfl ?_
  refine v_getf C (oX9_has.at 15 rfl) fX9_249 a0 (congrArg (fun z => some (Value.int z)) (e35)) ?_
  refine v_if_geN C (oX9_has.at 16 rfl) (tgt := 79) (by decide) (by omega) ?_
  refine v_iconst C (oX9_has.at 19 rfl) (v := nI 0) rfl ?_
  exact v_zret0 C (oX9_has.at 20 rfl) rfl rfl ⟨Nat.le_refl _, Nat.le_refl _⟩ ⟨rfl, hR2⟩
theorem k9_has1 {w : Wt} {G h : Hp} {th : Nat} {S Z : Sc} {sv : Bool} {F : Sf} (hR : RF G h th S sv Z F) (hb : prC S.1 (S.1 ^ (S.2.1 - 1)) S.2.2.1 < 2 ^ 31) : ConN mX9_has 4 (0, 0) w [.ref 62, .int (nI 1)] h (.inl (some (.int (bI (decide (prC S.1 (S.1 ^ (S.2.1 - 1)) S.2.2.1 = 0)))))) (fun h' => RF G h' 0 S sv Z F) := by
  refine conI (by decide +kernel) ⟨fun _ => rfl, rfl, by simp⟩ (fun X C => ?_)
  change V X (0, 0) w h 0 [some (.ref 62), some (.int (nI 1))] []
  refine has9_start (tgt := 0) (off := 0) C hR (by decide) (fun h1 hR1 => ?_)
  refine v_tableIn C (oX9_has.at 11 rfl) (by decide) (by decide) (off := 61) (tgt := 81) (by decide) (by decide) ?_
  obtain ⟨u1, q0, -⟩ := hR1.o
  refine v_aload_n C (oX9_has.at 21 rfl) rfl ?_
  refine v_callV C (oX9_has.at 22 rfl) cX9_262 q0 (k9_pairs hR1) rfl rfl rfl ⟨rfl, rfl⟩ rfl rfl (fun _ => rfl) (fun h' hp => ?_)
  dsimp only [Option.toList, List.cons_append, List.nil_append]
  refine v_if_neN C (oX9_has.at 23 rfl) (tgt := 92) (by decide) (by omega) (fun hc => ?_) (fun hc => ?_)
  · rw [decide_eq_false hc] at C
    refine v_iconst C (oX9_has.at 26 rfl) (v := nI 0) rfl ?_
    exact v_zret0 C (oX9_has.at 27 rfl) rfl rfl ⟨Nat.le_refl _, Nat.le_refl _⟩ ⟨rfl, hp⟩
  · rw [decide_eq_true hc] at C
    refine v_iconst C (oX9_has.at 24 rfl) (v := nI 1) rfl ?_
    refine v_goto C (oX9_has.at 25 rfl) (tgt := 93) (by decide) ?_
    exact v_zret1 C (oX9_has.at 27 rfl) rfl rfl ⟨Nat.le_refl _, Nat.le_refl _⟩ ⟨rfl, hp⟩
theorem k9_has2 {w : Wt} {G h : Hp} {th : Nat} {S Z : Sc} {sv : Bool} {F : Sf} (hR : RF G h th S sv Z F) : ConN mX9_has 4 (0, 0) w [.ref 62, .int (nI 2)] h (.inl (some (.int (bI (pmP S (S.1 ^ (S.2.1 - 1))))))) (fun h' => RF G h' 0 S sv Z F) := by
  have hn0 := hR.so.1.n0
  have hnk := hR.so.1.nk
  have hk := hR.so.1.k
  refine conI (by decide +kernel) ⟨fun _ => rfl, rfl, by simp⟩ (fun X C => ?_)
  change V X (0, 0) w h 0 [some (.ref 62), some (.int (nI 2))] []
  refine has9_start (tgt := 0) (off := 0) C hR (by decide) (fun h1 hR1 => ?_)
  refine v_tableIn C (oX9_has.at 11 rfl) (by decide) (by decide) (off := 74) (tgt := 94) (by decide) (by decide) ?_
  obtain ⟨u1, q0, -⟩ := hR1.o
  have kp := k9_isPermutive (w := w) (wt := S.1 ^ (S.2.1 - 1)) hR1 hn0 hR.so.1.n (fun i s hi h0 hs => by
    have h1 : i / S.1 ^ (S.2.1 - 1) < S.1 := (Nat.div_lt_iff_lt_mul hn0).mpr (by rw [Nat.mul_comm, hnk]; exact hi)
    rw [Nat.mod_eq_of_lt h1] at h0
    have h2 : i < S.1 ^ (S.2.1 - 1) := by
      rcases Nat.lt_or_ge i (S.1 ^ (S.2.1 - 1)) with q | q
      · exact q
      · exact absurd (Nat.div_pos q hn0) (by omega)
    have h3 : (s + 1) * S.1 ^ (S.2.1 - 1) ≤ S.1 * S.1 ^ (S.2.1 - 1) := Nat.mul_le_mul_right _ hs
    rw [Nat.mul_comm S.1, hnk, Nat.add_mul, Nat.one_mul] at h3
    omega)
  refine v_aload_n C (oX9_has.at 28 rfl) rfl ?_
  refine v_aload_n C (oX9_has.at 29 rfl) rfl ?_
  refine v_callV C (oX9_has.at 30 rfl) cX9_118 q0 (k9_nodesR hR1) rfl rfl rfl ⟨rfl, rfl⟩ rfl rfl (fun _ => rfl) (fun h' hp => ?_)
  rw [show h' = _ from hp]
  dsimp only [Option.toList, List.cons_append, List.nil_append]
  refine v_callV C (oX9_has.at 31 rfl) cX9_265 q0 (kp) rfl rfl rfl ⟨rfl, rfl⟩ rfl rfl (fun _ => rfl) (fun h' hp => ?_)
  rw [show h' = _ from hp]
  dsimp only [Option.toList, List.cons_append, List.nil_append]
  exact v_zret C (oX9_has.at 32 rfl) rfl rfl ⟨Nat.le_refl _, Nat.le_refl _⟩ ⟨rfl, hR1⟩
theorem k9_has3 {w : Wt} {G h : Hp} {th : Nat} {S Z : Sc} {sv : Bool} {F : Sf} (hR : RF G h th S sv Z F) : ConN mX9_has 4 (0, 0) w [.ref 62, .int (nI 3)] h (.inl (some (.int (bI (pmP S 1))))) (fun h' => RF G h' 0 S sv Z F) := by
  have hn0 := hR.so.1.n0
  have hnk := hR.so.1.nk
  have hk := hR.so.1.k
  refine conI (by decide +kernel) ⟨fun _ => rfl, rfl, by simp⟩ (fun X C => ?_)
  change V X (0, 0) w h 0 [some (.ref 62), some (.int (nI 3))] []
  refine has9_start (tgt := 0) (off := 0) C hR (by decide) (fun h1 hR1 => ?_)
  refine v_tableIn C (oX9_has.at 11 rfl) (by decide) (by decide) (off := 83) (tgt := 103) (by decide) (by decide) ?_
  obtain ⟨u1, q0, -⟩ := hR1.o
  have kp := k9_isPermutive (w := w) (wt := 1) hR1 (by decide) (by decide) (fun i s hi h0 hs => by
    rw [Nat.div_one] at h0
    have h1 : i = i / S.1 * S.1 := by have := Nat.div_add_mod i S.1; rw [h0, Nat.mul_comm] at this; omega
    have h2 : i / S.1 < S.1 ^ (S.2.1 - 1) := (Nat.div_lt_iff_lt_mul (by omega)).mpr (by rw [hnk]; exact hi)
    have h3 := vs_lt hR.so.1 h2 hs
    rw [← h1] at h3
    omega)
  refine v_aload_n C (oX9_has.at 33 rfl) rfl ?_
  refine v_iconst C (oX9_has.at 34 rfl) (v := nI 1) rfl ?_
  refine v_callV C (oX9_has.at 35 rfl) cX9_265 q0 (kp) rfl rfl rfl ⟨rfl, rfl⟩ rfl rfl (fun _ => rfl) (fun h' hp => ?_)
  rw [show h' = _ from hp]
  dsimp only [Option.toList, List.cons_append, List.nil_append]
  exact v_zret C (oX9_has.at 36 rfl) rfl rfl ⟨Nat.le_refl _, Nat.le_refl _⟩ ⟨rfl, hR1⟩
theorem k9_has4 {w : Wt} {G h : Hp} {th : Nat} {S Z : Sc} {sv : Bool} {F : Sf} (hR : RF G h th S sv Z F) : ConN mX9_has 4 (0, 0) w [.ref 62, .int (nI 4)] h (.inl (some (.int (bI (baP S))))) (fun h' => RF G h' 0 S sv Z F) := by
  refine conI (by decide +kernel) ⟨fun _ => rfl, rfl, by simp⟩ (fun X C => ?_)
  change V X (0, 0) w h 0 [some (.ref 62), some (.int (nI 4))] []
  refine has9_start (tgt := 0) (off := 0) C hR (by decide) (fun h1 hR1 => ?_)
  refine v_tableIn C (oX9_has.at 11 rfl) (by decide) (by decide) (off := 89) (tgt := 109) (by decide) (by decide) ?_
  obtain ⟨u1, q0, -⟩ := hR1.o
  refine v_aload_n C (oX9_has.at 37 rfl) rfl ?_
  refine v_callV C (oX9_has.at 38 rfl) cX9_268 q0 (k9_isBalanced hR1) rfl rfl rfl ⟨rfl, rfl⟩ rfl rfl (fun _ => rfl) (fun h' hp => ?_)
  rw [show h' = _ from hp]
  dsimp only [Option.toList, List.cons_append, List.nil_append]
  exact v_zret C (oX9_has.at 39 rfl) rfl rfl ⟨Nat.le_refl _, Nat.le_refl _⟩ ⟨rfl, hR1⟩
theorem k9_has5 {w : Wt} {G h : Hp} {th : Nat} {S Z : Sc} {sv : Bool} {F : Sf} (hR : RF G h th S sv Z F) : ConN mX9_has 4 (0, 0) w [.ref 62, .int (nI 5)] h (.inl (some (.int (bI (allB (fun i => decide (S.2.2.1 i = mrT S S.2.2.1 i)) (S.1 ^ S.2.1)))))) (fun h' => RF G h' 0 S sv Z F) := by
  have hk := hR.so.1.k
  refine conI (by decide +kernel) ⟨fun _ => rfl, rfl, by simp⟩ (fun X C => ?_)
  change V X (0, 0) w h 0 [some (.ref 62), some (.int (nI 5))] []
  refine has9_start (tgt := 0) (off := 0) C hR (by decide) (fun h1 hR1 => ?_)
  refine v_tableIn C (oX9_has.at 11 rfl) (by decide) (by decide) (off := 94) (tgt := 114) (by decide) (by decide) ?_
  obtain ⟨u1, q0, q1, q2⟩ := hR1.o
  obtain ⟨f, hf, hT⟩ := hR1.tk
  obtain ⟨g, hg⟩ := hR1.sc (i := 70) (Or.inl ⟨by decide, by decide⟩)
  have km := k9_mirrors (w := w) q0 q2.1 q2.2.1 hR.so.1 hf (show h1 70 = io 27 g from hg) (by decide) (by decide)
  refine v_aload_n C (oX9_has.at 40 rfl) rfl ?_
  refine v_aload_n C (oX9_has.at 41 rfl) rfl ?_
  refine v_getf C (oX9_has.at 42 rfl) fX9_16 q0 rfl ?_
  refine v_aload_n C (oX9_has.at 43 rfl) rfl ?_
  refine v_getf C (oX9_has.at 44 rfl) fX9_41 q0 rfl ?_
  refine v_callV C (oX9_has.at 45 rfl) cX9_132 q0 (km) rfl rfl rfl ⟨rfl, rfl⟩ rfl rfl (fun _ => rfl) (fun h' hp => ?_)
  dsimp only [Option.toList, List.cons_append, List.nil_append]
  rw [show h' = _ from hp]
  have hR2 : RF G (hu h1 70 (io 27 (mix g (fun i => f (rvw S.1 i S.2.1)) (S.1 ^ S.2.1)))) 0 S sv Z F := hR1.set_r (i := 70) (Or.inl ⟨by decide, by decide⟩)
  have kb := k9_isMade (w := w) (T' := mrT S S.2.2.1) hR2 (hu_s _ _ _) (fun i hi => by rw [mix_lt hi]; exact hT _ (rvw_lt (by omega) _ _))
  obtain ⟨u2, r0, -⟩ := hR2.o
  generalize hu h1 70 (io 27 (mix g (fun i => f (rvw S.1 i S.2.1)) (S.1 ^ S.2.1))) = h2 at *
  refine v_aload_n C (oX9_has.at 46 rfl) rfl ?_
  refine v_callV C (oX9_has.at 47 rfl) cX9_271 r0 (kb) rfl rfl rfl ⟨rfl, rfl⟩ rfl rfl (fun _ => rfl) (fun h' hp => ?_)
  rw [show h' = _ from hp]
  dsimp only [Option.toList, List.cons_append, List.nil_append]
  exact v_zret C (oX9_has.at 48 rfl) rfl rfl ⟨Nat.le_refl _, Nat.le_refl _⟩ ⟨rfl, hR2⟩
theorem k9_has6 {w : Wt} {G h : Hp} {th : Nat} {S Z : Sc} {sv : Bool} {F : Sf} (hR : RF G h th S sv Z F) : ConN mX9_has 4 (0, 0) w [.ref 62, .int (nI 6)] h (.inl (some (.int (bI (allB (fun i => decide (S.2.2.1 i = cmT S S.2.2.1 i)) (S.1 ^ S.2.1)))))) (fun h' => RF G h' 0 S sv Z F) := by
  have hk := hR.so.1.k
  refine conI (by decide +kernel) ⟨fun _ => rfl, rfl, by simp⟩ (fun X C => ?_)
  change V X (0, 0) w h 0 [some (.ref 62), some (.int (nI 6))] []
  refine has9_start (tgt := 0) (off := 0) C hR (by decide) (fun h1 hR1 => ?_)
  refine v_tableIn C (oX9_has.at 11 rfl) (by decide) (by decide) (off := 111) (tgt := 131) (by decide) (by decide) ?_
  obtain ⟨u1, q0, q1, q2⟩ := hR1.o
  obtain ⟨f, hf, hT⟩ := hR1.tk
  obtain ⟨g, hg⟩ := hR1.sc (i := 70) (Or.inl ⟨by decide, by decide⟩)
  have km := k9_complements (w := w) (T0 := S.2.2.1) q0 q2.1 q2.2.1 hR.so.1 hf hT (show h1 70 = io 27 g from hg) (by decide) (by decide)
  refine v_aload_n C (oX9_has.at 49 rfl) rfl ?_
  refine v_aload_n C (oX9_has.at 50 rfl) rfl ?_
  refine v_getf C (oX9_has.at 51 rfl) fX9_16 q0 rfl ?_
  refine v_aload_n C (oX9_has.at 52 rfl) rfl ?_
  refine v_getf C (oX9_has.at 53 rfl) fX9_41 q0 rfl ?_
  refine v_callV C (oX9_has.at 54 rfl) cX9_136 q0 (km) rfl rfl rfl ⟨rfl, rfl⟩ rfl rfl (fun _ => rfl) (fun h' hp => ?_)
  dsimp only [Option.toList, List.cons_append, List.nil_append]
  rw [show h' = _ from hp]
  have hR2 : RF G (hu h1 70 (io 27 (mix g (fun i => nI (S.1 - 1 - S.2.2.1 (S.1 ^ S.2.1 - 1 - i))) (S.1 ^ S.2.1)))) 0 S sv Z F := hR1.set_r (i := 70) (Or.inl ⟨by decide, by decide⟩)
  have kb := k9_isMade (w := w) (T' := cmT S S.2.2.1) hR2 (hu_s _ _ _) (fun i hi => ⟨mix_lt hi, by unfold cmT; omega⟩)
  obtain ⟨u2, r0, -⟩ := hR2.o
  generalize hu h1 70 (io 27 (mix g (fun i => nI (S.1 - 1 - S.2.2.1 (S.1 ^ S.2.1 - 1 - i))) (S.1 ^ S.2.1))) = h2 at *
  refine v_aload_n C (oX9_has.at 55 rfl) rfl ?_
  refine v_callV C (oX9_has.at 56 rfl) cX9_271 r0 (kb) rfl rfl rfl ⟨rfl, rfl⟩ rfl rfl (fun _ => rfl) (fun h' hp => ?_)
  rw [show h' = _ from hp]
  dsimp only [Option.toList, List.cons_append, List.nil_append]
  exact v_zret C (oX9_has.at 57 rfl) rfl rfl ⟨Nat.le_refl _, Nat.le_refl _⟩ ⟨rfl, hR2⟩
