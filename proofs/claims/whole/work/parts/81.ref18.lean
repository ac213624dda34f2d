/-! ===== the reference: words counted, successors of sets ===== -/
theorem k9_wordsWithX {w : Wt} {G h : Hp} {th : Nat} {S Z : Sc} {sv : Bool} {F : Sf} {x y : Int32} (hR : RF G h th S sv Z F) (hx : ¬ InB x 8) : ConN mX9_wordsWith 3 (0, 0) w [.ref 62, .int x, .int y] h (.inl (some (.int (nI 0)))) (fun h' => RF G h' 1 S sv Z F) := by
  refine conI (by decide +kernel) ⟨fun _ => rfl, rfl, by simp⟩ (fun X C => ?_)
  change V X (0, 0) w h 0 [some (.ref 62), some (.int x), some (.int y), none, none] []
  refine v_aload_n C (oX9_wordsWith.at 0 rfl) rfl ?_
  refine v_iconst C (oX9_wordsWith.at 1 rfl) (v := nI 0) rfl ?_
  refine v_thr C (oX9_wordsWith.at 2 rfl) fX9_96 hR (fun h1 u1 hR1 q0 qt qm => ?_)
  refine v_iload_n C (oX9_wordsWith.at 3 rfl) rfl ?_
  refine v_iconst C (oX9_wordsWith.at 4 rfl) (v := nI 0) rfl ?_
  refine v_bipush C (oX9_wordsWith.at 5 rfl) (v := nI 7) rfl ?_
  refine v_callS C (oX9_wordsWith.at 6 rfl) cX9_103 (k_inF 8 (by decide) (by decide) rfl hx) rfl rfl rfl ⟨rfl, rfl⟩ rfl rfl (fun _ => rfl) (fun h' hp => ?_)
  rw [show h' = _ from hp]
  dsimp only [Option.toList, List.cons_append, List.nil_append]
  refine v_if_neB C (oX9_wordsWith.at 7 rfl) (tgt := 21) (by decide) (fun z => absurd z (by decide)) (fun _ => ?_)
  refine v_aload_n C (oX9_wordsWith.at 8 rfl) rfl ?_
  refine v_iconst C (oX9_wordsWith.at 9 rfl) (v := nI 1) rfl ?_
  refine v_callV C (oX9_wordsWith.at 10 rfl) cX9_111 q0 (k9_noR hR1) rfl rfl rfl ⟨rfl, rfl⟩ rfl rfl (fun _ => rfl) (fun h' hp => ?_)
  dsimp only [Option.toList, List.cons_append, List.nil_append]
  exact v_iret C (oX9_wordsWith.at 11 rfl) rfl rfl ⟨Nat.le_refl _, Nat.le_refl _⟩ ⟨rfl, hp⟩
theorem k9_wordsWith {w : Wt} {G h : Hp} {th : Nat} {S Z : Sc} {sv : Bool} {F : Sf} {x : Nat} {y : Int32} (hR : RF G h th S sv Z F) (hx : x ≤ 7) : ConN mX9_wordsWith 3 (0, 0) w [.ref 62, .int (nI x), .int y] h (.inl (some (.int (nI (cnt (fun z => decide (nI (pcN (S.1 ^ (S.2.1 - 1)) S.1 S.2.2.1 x z) = y)) (S.1 ^ x)))))) (fun h' => RF G h' 0 S sv Z F) := by
  have hk := hR.so.1.k
  have p1 := pw14 hk (n := x) (by omega)
  refine conI (by decide +kernel) ⟨fun _ => rfl, rfl, by simp⟩ (fun X C => ?_)
  change V X (0, 0) w h 0 [some (.ref 62), some (.int (nI x)), some (.int y), none, none] []
  refine v_aload_n C (oX9_wordsWith.at 0 rfl) rfl ?_
  refine v_iconst C (oX9_wordsWith.at 1 rfl) (v := nI 0) rfl ?_
  refine v_thr C (oX9_wordsWith.at 2 rfl) fX9_96 hR (fun h1 u1 hR1 q0 qt qm => ?_)
  refine v_iload_n C (oX9_wordsWith.at 3 rfl) rfl ?_
  refine v_iconst C (oX9_wordsWith.at 4 rfl) (v := nI 0) rfl ?_
  refine v_bipush C (oX9_wordsWith.at 5 rfl) (v := nI 7) rfl ?_
  refine v_callS C (oX9_wordsWith.at 6 rfl) cX9_103 (k_inT 8 (by decide) (by decide) rfl (InB.of (show x < 8 by omega) (by decide))) rfl rfl rfl ⟨rfl, rfl⟩ rfl rfl (fun _ => rfl) (fun h' hp => ?_)
  rw [show h' = _ from hp]
  dsimp only [Option.toList, List.cons_append, List.nil_append]
  refine v_if_neB C (oX9_wordsWith.at 7 rfl) (tgt := 21) (by decide) (fun _ => ?_) (fun z => absurd z (by decide))
  refine v_iconst C (oX9_wordsWith.at 12 rfl) (v := nI 0) rfl ?_
  refine v_istore_n C (oX9_wordsWith.at 13 rfl) rfl ?_
  refine v_iconst C (oX9_wordsWith.at 14 rfl) (v := nI 0) rfl ?_
  refine v_istore C (oX9_wordsWith.at 15 rfl) rfl ?_
  dsimp only [sto1, sto2, killL]
  clear q0 qt qm
  suffices H : ∀ d i h2, i + d = S.1 ^ x → RF G h2 0 S sv Z F → V X (0, 0) w h2 26 [some (.ref 62), some (.int (nI x)), some (.int y), some (.int (nI (cnt (fun z => decide (nI (pcN (S.1 ^ (S.2.1 - 1)) S.1 S.2.2.1 x z) = y)) i))), some (.int (nI i))] [] from H (S.1 ^ x) 0 h1 (by omega) hR1
  intro d
  induction d with
  | zero =>
    intro i h2 hi hR2
    obtain rfl : i = S.1 ^ x := by omega
    obtain ⟨u2, r0, -⟩ := hR2.o
    refine v_iload C (oX9_wordsWith.at 16 rfl) rfl ?_
    refine v_aload_n C (oX9_wordsWith.at 17 rfl) rfl ?_
    refine v_iload_n C (oX9_wordsWith.at 18 rfl) rfl ?_
    refine v_callV C (oX9_wordsWith.at 19 rfl) cX9_99 r0 (k9_powerR hR2 (by omega)) rfl rfl rfl ⟨rfl, rfl⟩ rfl rfl (fun _ => rfl) (fun h' hp => ?_)
    rw [show h' = _ from hp]
    dsimp only [Option.toList, List.cons_append, List.nil_append]
    refine v_icmp_geN C (oX9_wordsWith.at 20 rfl) (tgt := 61) (by decide) (by omega) (by omega) (fun hc => ?_) (fun hc => absurd hc (by omega))
    refine v_iload_n C (oX9_wordsWith.at 35 rfl) rfl ?_
    exact v_iret C (oX9_wordsWith.at 36 rfl) rfl rfl ⟨Nat.le_refl _, Nat.le_refl _⟩ ⟨rfl, hR2⟩
  | succ d ih =>
    intro i h2 hi hR2
    have ih := ih (i + 1)
    rw [cnt] at ih
    obtain ⟨u2, r0, -⟩ := hR2.o
    refine v_iload C (oX9_wordsWith.at 16 rfl) rfl ?_
    refine v_aload_n C (oX9_wordsWith.at 17 rfl) rfl ?_
    refine v_iload_n C (oX9_wordsWith.at 18 rfl) rfl ?_
    refine v_callV C (oX9_wordsWith.at 19 rfl) cX9_99 r0 (k9_powerR hR2 (by omega)) rfl rfl rfl ⟨rfl, rfl⟩ rfl rfl (fun _ => rfl) (fun h' hp => ?_)
    rw [show h' = _ from hp]
    dsimp only [Option.toList, List.cons_append, List.nil_append]
    refine v_icmp_geN C (oX9_wordsWith.at 20 rfl) (tgt := 61) (by decide) (by omega) (by omega) (fun hc => absurd hc (by omega)) (fun hc => ?_)
    refine v_iload_n C (oX9_wordsWith.at 21 rfl) rfl ?_
    refine v_aload_n C (oX9_wordsWith.at 22 rfl) rfl ?_
    refine v_iload C (oX9_wordsWith.at 23 rfl) rfl ?_
    refine v_iload_n C (oX9_wordsWith.at 24 rfl) rfl ?_
    refine v_callV C (oX9_wordsWith.at 25 rfl) cX9_243 r0 (k9_preimages hR2 (by omega) hx) rfl rfl rfl ⟨rfl, rfl⟩ rfl rfl (fun _ => rfl) (fun h' hp => ?_)
    dsimp only [Option.toList, List.cons_append, List.nil_append]
    have hR3 : RF G h' 0 S sv Z F := hp
    refine v_iload_n C (oX9_wordsWith.at 26 rfl) rfl ?_
    refine v_icmp_ne C (oX9_wordsWith.at 27 rfl) (tgt := 52) (by decide) (fun hc => ?_) (fun hc => ?_)
    · rw [if_neg (by simp [hc])] at ih
      refine v_iconst C (oX9_wordsWith.at 30 rfl) (v := nI 0) rfl ?_
      refine v_iaddN C (oX9_wordsWith.at 31 rfl) ?_
      refine v_istore_n C (oX9_wordsWith.at 32 rfl) rfl ?_
      refine v_iincN C (oX9_wordsWith.at 33 rfl) rfl ?_
      refine v_goto C (oX9_wordsWith.at 34 rfl) (tgt := 26) (by decide) ?_
      dsimp only [sto1, sto2, killL]
      exact ih h' (by omega) hR3
    · rw [if_pos (decide_eq_true hc)] at ih
      refine v_iconst C (oX9_wordsWith.at 28 rfl) (v := nI 1) rfl ?_
      refine v_goto C (oX9_wordsWith.at 29 rfl) (tgt := 53) (by decide) ?_
      refine v_iaddN C (oX9_wordsWith.at 31 rfl) ?_
      refine v_istore_n C (oX9_wordsWith.at 32 rfl) rfl ?_
      refine v_iincN C (oX9_wordsWith.at 33 rfl) rfl ?_
      refine v_goto C (oX9_wordsWith.at 34 rfl) (tgt := 26) (by decide) ?_
      dsimp only [sto1, sto2, killL]
      exact ih h' (by omega) hR3
theorem k9_mostX {w : Wt} {G h : Hp} {th : Nat} {S Z : Sc} {sv : Bool} {F : Sf} {x : Int32} (hR : RF G h th S sv Z F) (hx : ¬ InB x 8) : ConN mX9_mostPreimages 3 (0, 0) w [.ref 62, .int x] h (.inl (some (.int (nI 0)))) (fun h' => RF G h' 1 S sv Z F) := by
  refine conI (by decide +kernel) ⟨fun _ => rfl, rfl, by simp⟩ (fun X C => ?_)
  change V X (0, 0) w h 0 [some (.ref 62), some (.int x), none, none, none] []
  refine v_aload_n C (oX9_mostPreimages.at 0 rfl) rfl ?_
  refine v_iconst C (oX9_mostPreimages.at 1 rfl) (v := nI 0) rfl ?_
  refine v_thr C (oX9_mostPreimages.at 2 rfl) fX9_96 hR (fun h1 u1 hR1 q0 qt qm => ?_)
  refine v_iload_n C (oX9_mostPreimages.at 3 rfl) rfl ?_
  refine v_iconst C (oX9_mostPreimages.at 4 rfl) (v := nI 0) rfl ?_
  refine v_bipush C (oX9_mostPreimages.at 5 rfl) (v := nI 7) rfl ?_
  refine v_callS C (oX9_mostPreimages.at 6 rfl) cX9_103 (k_inF 8 (by decide) (by decide) rfl hx) rfl rfl rfl ⟨rfl, rfl⟩ rfl rfl (fun _ => rfl) (fun h' hp => ?_)
  rw [show h' = _ from hp]
  dsimp only [Option.toList, List.cons_append, List.nil_append]
  refine v_if_neB C (oX9_mostPreimages.at 7 rfl) (tgt := 21) (by decide) (fun z => absurd z (by decide)) (fun _ => ?_)
  refine v_aload_n C (oX9_mostPreimages.at 8 rfl) rfl ?_
  refine v_iconst C (oX9_mostPreimages.at 9 rfl) (v := nI 1) rfl ?_
  refine v_callV C (oX9_mostPreimages.at 10 rfl) cX9_111 q0 (k9_noR hR1) rfl rfl rfl ⟨rfl, rfl⟩ rfl rfl (fun _ => rfl) (fun h' hp => ?_)
  dsimp only [Option.toList, List.cons_append, List.nil_append]
  exact v_iret C (oX9_mostPreimages.at 11 rfl) rfl rfl ⟨Nat.le_refl _, Nat.le_refl _⟩ ⟨rfl, hp⟩
theorem maxN_le {f : Nat → Nat} {b : Nat} : ∀ n, (∀ i, i < n → f i ≤ b) → maxN f n ≤ b
  | 0, _ => Nat.zero_le _
  | n + 1, h => by rw [maxN]; exact Nat.max_le.mpr ⟨maxN_le n (fun i hi => h i (by omega)), h n (by omega)⟩
theorem pcN_le {S : Sc} (hS : ScOK S) {x z : Nat} (hx : x ≤ 7) : pcN (S.1 ^ (S.2.1 - 1)) S.1 S.2.2.1 x z ≤ 9 * 2187 := by
  unfold pcN
  have h1 : S.1 ^ x ≤ 2187 := pw_le hS.1.k (b := 7) hx
  have h2 := hS.1.n
  exact Nat.le_trans (sumN_le _ (fun v hv => Nat.le_trans (fwR_le hS.1.n0 x v hv) h1)) (Nat.mul_le_mul_right _ h2)
theorem k9_most {w : Wt} {G h : Hp} {th : Nat} {S Z : Sc} {sv : Bool} {F : Sf} {x : Nat} (hR : RF G h th S sv Z F) (hx : x ≤ 7) : ConN mX9_mostPreimages 3 (0, 0) w [.ref 62, .int (nI x)] h (.inl (some (.int (nI (maxN (pcN (S.1 ^ (S.2.1 - 1)) S.1 S.2.2.1 x) (S.1 ^ x)))))) (fun h' => RF G h' 0 S sv Z F) := by
  have hk := hR.so.1.k
  have p1 := pw14 hk (n := x) (by omega)
  have hpl : ∀ z, pcN (S.1 ^ (S.2.1 - 1)) S.1 S.2.2.1 x z ≤ 9 * 2187 := fun z => pcN_le hR.so hx
  refine conI (by decide +kernel) ⟨fun _ => rfl, rfl, by simp⟩ (fun X C => ?_)
  change V X (0, 0) w h 0 [some (.ref 62), some (.int (nI x)), none, none, none] []
  refine v_aload_n C (oX9_mostPreimages.at 0 rfl) rfl ?_
  refine v_iconst C (oX9_mostPreimages.at 1 rfl) (v := nI 0) rfl ?_
  refine v_thr C (oX9_mostPreimages.at 2 rfl) fX9_96 hR (fun h1 u1 hR1 q0 qt qm => ?_)
  refine v_iload_n C (oX9_mostPreimages.at 3 rfl) rfl ?_
  refine v_iconst C (oX9_mostPreimages.at 4 rfl) (v := nI 0) rfl ?_
  refine v_bipush C (oX9_mostPreimages.at 5 rfl) (v := nI 7) rfl ?_
  refine v_callS C (oX9_mostPreimages.at 6 rfl) cX9_103 (k_inT 8 (by decide) (by decide) rfl (InB.of (show x < 8 by omega) (by decide))) rfl rfl rfl ⟨rfl, rfl⟩ rfl rfl (fun _ => rfl) (fun h' hp => ?_)
  rw [show h' = _ from hp]
  dsimp only [Option.toList, List.cons_append, List.nil_append]
  refine v_if_neB C (oX9_mostPreimages.at 7 rfl) (tgt := 21) (by decide) (fun _ => ?_) (fun z => absurd z (by decide))
  refine v_iconst C (oX9_mostPreimages.at 12 rfl) (v := nI 0) rfl ?_
  refine v_istore_n C (oX9_mostPreimages.at 13 rfl) rfl ?_
  refine v_iconst C (oX9_mostPreimages.at 14 rfl) (v := nI 0) rfl ?_
  refine v_istore_n C (oX9_mostPreimages.at 15 rfl) rfl ?_
  dsimp only [sto1, sto2, killL]
  clear q0 qt qm
  suffices H : ∀ d i h2 l4, i + d = S.1 ^ x → RF G h2 0 S sv Z F → V X (0, 0) w h2 25 [some (.ref 62), some (.int (nI x)), some (.int (nI (maxN (pcN (S.1 ^ (S.2.1 - 1)) S.1 S.2.2.1 x) i))), some (.int (nI i)), l4] [] from H (S.1 ^ x) 0 h1 none (by omega) hR1
  intro d
  induction d with
  | zero =>
    intro i h2 l4 hi hR2
    obtain rfl : i = S.1 ^ x := by omega
    obtain ⟨u2, r0, -⟩ := hR2.o
    refine v_iload_n C (oX9_mostPreimages.at 16 rfl) rfl ?_
    refine v_aload_n C (oX9_mostPreimages.at 17 rfl) rfl ?_
    refine v_iload_n C (oX9_mostPreimages.at 18 rfl) rfl ?_
    refine v_callV C (oX9_mostPreimages.at 19 rfl) cX9_99 r0 (k9_powerR hR2 (by omega)) rfl rfl rfl ⟨rfl, rfl⟩ rfl rfl (fun _ => rfl) (fun h' hp => ?_)
    rw [show h' = _ from hp]
    dsimp only [Option.toList, List.cons_append, List.nil_append]
    refine v_icmp_geN C (oX9_mostPreimages.at 20 rfl) (tgt := 61) (by decide) (by omega) (by omega) (fun hc => ?_) (fun hc => absurd hc (by omega))
    refine v_iload_n C (oX9_mostPreimages.at 35 rfl) rfl ?_
    exact v_iret C (oX9_mostPreimages.at 36 rfl) rfl rfl ⟨Nat.le_refl _, Nat.le_refl _⟩ ⟨rfl, hR2⟩
  | succ d ih =>
    intro i h2 l4 hi hR2
    have ih := ih (i + 1)
    rw [maxN] at ih
    have m1 := maxN_le (f := pcN (S.1 ^ (S.2.1 - 1)) S.1 S.2.2.1 x) i (fun j _ => hpl j)
    have m2 := hpl i
    obtain ⟨u2, r0, -⟩ := hR2.o
    refine v_iload_n C (oX9_mostPreimages.at 16 rfl) rfl ?_
    refine v_aload_n C (oX9_mostPreimages.at 17 rfl) rfl ?_
    refine v_iload_n C (oX9_mostPreimages.at 18 rfl) rfl ?_
    refine v_callV C (oX9_mostPreimages.at 19 rfl) cX9_99 r0 (k9_powerR hR2 (by omega)) rfl rfl rfl ⟨rfl, rfl⟩ rfl rfl (fun _ => rfl) (fun h' hp => ?_)
    rw [show h' = _ from hp]
    dsimp only [Option.toList, List.cons_append, List.nil_append]
    refine v_icmp_geN C (oX9_mostPreimages.at 20 rfl) (tgt := 61) (by decide) (by omega) (by omega) (fun hc => absurd hc (by omega)) (fun hc => ?_)
    refine v_aload_n C (oX9_mostPreimages.at 21 rfl) rfl ?_
    refine v_iload_n C (oX9_mostPreimages.at 22 rfl) rfl ?_
    refine v_iload_n C (oX9_mostPreimages.at 23 rfl) rfl ?_
    refine v_callV C (oX9_mostPreimages.at 24 rfl) cX9_243 r0 (k9_preimages hR2 (by omega) hx) rfl rfl rfl ⟨rfl, rfl⟩ rfl rfl (fun _ => rfl) (fun h' hp => ?_)
    dsimp only [Option.toList, List.cons_append, List.nil_append]
    have hR3 : RF G h' 0 S sv Z F := hp
    refine v_istore C (oX9_mostPreimages.at 25 rfl) rfl ?_
    refine v_iload C (oX9_mostPreimages.at 26 rfl) rfl ?_
    refine v_iload_n C (oX9_mostPreimages.at 27 rfl) rfl ?_
    dsimp only [sto1, sto2, killL]
    refine v_icmp_leN C (oX9_mostPreimages.at 28 rfl) (tgt := 53) (by decide) (by omega) (by omega) (fun hc => ?_) (fun hc => ?_)
    · rw [Nat.max_eq_left hc] at ih
      refine v_iload_n C (oX9_mostPreimages.at 31 rfl) rfl ?_
      refine v_istore_n C (oX9_mostPreimages.at 32 rfl) rfl ?_
      refine v_iincN C (oX9_mostPreimages.at 33 rfl) rfl ?_
      refine v_goto C (oX9_mostPreimages.at 34 rfl) (tgt := 25) (by decide) ?_
      dsimp only [sto1, sto2, killL]
      exact ih h' _ (by omega) hR3
    · rw [Nat.max_eq_right (by omega)] at ih
      refine v_iload C (oX9_mostPreimages.at 29 rfl) rfl ?_
      refine v_goto C (oX9_mostPreimages.at 30 rfl) (tgt := 54) (by decide) ?_
      refine v_istore_n C (oX9_mostPreimages.at 32 rfl) rfl ?_
      refine v_iincN C (oX9_mostPreimages.at 33 rfl) rfl ?_
      refine v_goto C (oX9_mostPreimages.at 34 rfl) (tgt := 25) (by decide) ?_
      dsimp only [sto1, sto2, killL]
      exact ih h' _ (by omega) hR3
theorem k9_fixedX {w : Wt} {G h : Hp} {th : Nat} {S Z : Sc} {sv : Bool} {F : Sf} {x : Int32} (hR : RF G h th S sv Z F) (hx : ¬ (¬ x < nI 1 ∧ ¬ nI 8 < x)) : ConN mX9_fixedWords 2 (0, 0) w [.ref 62, .int x] h (.inl (some (.int (nI 0)))) (fun h' => RF G h' 1 S sv Z F) := by
  have ki : ∀ h, ConN mX9_isIn 0 (0, 0) w [.int x, .int (nI 1), .int (nI 8)] h (.inl (some (.int (bI false)))) (fun h' => h' = h) := by
    intro h
    have ki := k_isIn (w := w) (h := h) (x := x) (a := nI 1) (b := nI 8)
    rw [decide_eq_false hx] at ki
    exact ki
  refine conI (by decide +kernel) ⟨fun _ => rfl, rfl, by simp⟩ (fun X C => ?_)
  change V X (0, 0) w h 0 [some (.ref 62), some (.int x), none, none] []
  refine v_aload_n C (oX9_fixedWords.at 0 rfl) rfl ?_
  refine v_iconst C (oX9_fixedWords.at 1 rfl) (v := nI 0) rfl ?_
  refine v_thr C (oX9_fixedWords.at 2 rfl) fX9_96 hR (fun h1 u1 hR1 q0 qt qm => ?_)
  refine v_iload_n C (oX9_fixedWords.at 3 rfl) rfl ?_
  refine v_iconst C (oX9_fixedWords.at 4 rfl) (v := nI 1) rfl ?_
  refine v_bipush C (oX9_fixedWords.at 5 rfl) (v := nI 8) rfl ?_
  refine v_callS C (oX9_fixedWords.at 6 rfl) cX9_103 ((ki h1)) rfl rfl rfl ⟨rfl, rfl⟩ rfl rfl (fun _ => rfl) (fun h' hp => ?_)
  rw [show h' = _ from hp]
  dsimp only [Option.toList, List.cons_append, List.nil_append]
  refine v_if_neB C (oX9_fixedWords.at 7 rfl) (tgt := 21) (by decide) (fun z => absurd z (by decide)) (fun _ => ?_)
  refine v_aload_n C (oX9_fixedWords.at 8 rfl) rfl ?_
  refine v_iconst C (oX9_fixedWords.at 9 rfl) (v := nI 1) rfl ?_
  refine v_callV C (oX9_fixedWords.at 10 rfl) cX9_111 q0 (k9_noR hR1) rfl rfl rfl ⟨rfl, rfl⟩ rfl rfl (fun _ => rfl) (fun h' hp => ?_)
  dsimp only [Option.toList, List.cons_append, List.nil_append]
  exact v_iret C (oX9_fixedWords.at 11 rfl) rfl rfl ⟨Nat.le_refl _, Nat.le_refl _⟩ ⟨rfl, hp⟩
theorem k9_fixed {w : Wt} {G h : Hp} {th : Nat} {S Z : Sc} {sv : Bool} {F : Sf} {x : Nat} (hR : RF G h th S sv Z F) (hx1 : 1 ≤ x) (hx : x ≤ 8) : ConN mX9_fixedWords 2 (0, 0) w [.ref 62, .int (nI x)] h (.inl (some (.int (nI (cnt (fun z => decide (cimg S.1 S.2.1 S.2.2.1 x z = z)) (S.1 ^ x)))))) (fun h' => RF G h' 0 S sv Z F) := by
  have hk := hR.so.1.k
  have p1 := pw14 hk (n := x) (by omega)
  obtain ⟨t, ht, hT⟩ := hR.tk
  have hcl := cimg_lt (k := S.1) (wd := S.2.1) (T := S.2.2.1) (by omega) (fun i hi => (hT i hi).2) x
  refine conI (by decide +kernel) ⟨fun _ => rfl, rfl, by simp⟩ (fun X C => ?_)
  change V X (0, 0) w h 0 [some (.ref 62), some (.int (nI x)), none, none] []
  refine v_aload_n C (oX9_fixedWords.at 0 rfl) rfl ?_
  refine v_iconst C (oX9_fixedWords.at 1 rfl) (v := nI 0) rfl ?_
  refine v_thr C (oX9_fixedWords.at 2 rfl) fX9_96 hR (fun h1 u1 hR1 q0 qt qm => ?_)
  refine v_iload_n C (oX9_fixedWords.at 3 rfl) rfl ?_
  refine v_iconst C (oX9_fixedWords.at 4 rfl) (v := nI 1) rfl ?_
  refine v_bipush C (oX9_fixedWords.at 5 rfl) (v := nI 8) rfl ?_
  refine v_callS C (oX9_fixedWords.at 6 rfl) cX9_103 (isIn_n (q := true) (by omega) (by decide) (by decide) (by symm; exact decide_eq_true ⟨hx1, hx⟩)) rfl rfl rfl ⟨rfl, rfl⟩ rfl rfl (fun _ => rfl) (fun h' hp => ?_)
  rw [show h' = _ from hp]
  dsimp only [Option.toList, List.cons_append, List.nil_append]
  refine v_if_neB C (oX9_fixedWords.at 7 rfl) (tgt := 21) (by decide) (fun _ => ?_) (fun z => absurd z (by decide))
  refine v_iconst C (oX9_fixedWords.at 12 rfl) (v := nI 0) rfl ?_
  refine v_istore_n C (oX9_fixedWords.at 13 rfl) rfl ?_
  refine v_iconst C (oX9_fixedWords.at 14 rfl) (v := nI 0) rfl ?_
  refine v_istore_n C (oX9_fixedWords.at 15 rfl) rfl ?_
  dsimp only [sto1, sto2, killL]
  suffices H : ∀ d i, i + d = S.1 ^ x → V X (0, 0) w h1 25 [some (.ref 62), some (.int (nI x)), some (.int (nI (cnt (fun z => decide (cimg S.1 S.2.1 S.2.2.1 x z = z)) i))), some (.int (nI i))] [] from H (S.1 ^ x) 0 (by omega)
  intro d
  induction d with
  | zero =>
    intro i hi
    obtain rfl : i = S.1 ^ x := by omega
    refine v_iload_n C (oX9_fixedWords.at 16 rfl) rfl ?_
    refine v_aload_n C (oX9_fixedWords.at 17 rfl) rfl ?_
    refine v_iload_n C (oX9_fixedWords.at 18 rfl) rfl ?_
    refine v_callV C (oX9_fixedWords.at 19 rfl) cX9_99 q0 (k9_powerR hR1 (by omega)) rfl rfl rfl ⟨rfl, rfl⟩ rfl rfl (fun _ => rfl) (fun h' hp => ?_)
    rw [show h' = _ from hp]
    dsimp only [Option.toList, List.cons_append, List.nil_append]
    refine v_icmp_geN C (oX9_fixedWords.at 20 rfl) (tgt := 58) (by decide) (by omega) (by omega) (fun hc => ?_) (fun hc => absurd hc (by omega))
    refine v_iload_n C (oX9_fixedWords.at 35 rfl) rfl ?_
    exact v_iret C (oX9_fixedWords.at 36 rfl) rfl rfl ⟨Nat.le_refl _, Nat.le_refl _⟩ ⟨rfl, hR1⟩
  | succ d ih =>
    intro i hi
    have ih := ih (i + 1) (by omega)
    rw [cnt] at ih
    have hci := hcl i
    refine v_iload_n C (oX9_fixedWords.at 16 rfl) rfl ?_
    refine v_aload_n C (oX9_fixedWords.at 17 rfl) rfl ?_
    refine v_iload_n C (oX9_fixedWords.at 18 rfl) rfl ?_
    refine v_callV C (oX9_fixedWords.at 19 rfl) cX9_99 q0 (k9_powerR hR1 (by omega)) rfl rfl rfl ⟨rfl, rfl⟩ rfl rfl (fun _ => rfl) (fun h' hp => ?_)
    rw [show h' = _ from hp]
    dsimp only [Option.toList, List.cons_append, List.nil_append]
    refine v_icmp_geN C (oX9_fixedWords.at 20 rfl) (tgt := 58) (by decide) (by omega) (by omega) (fun hc => absurd hc (by omega)) (fun hc => ?_)
    refine v_iload_n C (oX9_fixedWords.at 21 rfl) rfl ?_
    refine v_aload_n C (oX9_fixedWords.at 22 rfl) rfl ?_
    refine v_iload_n C (oX9_fixedWords.at 23 rfl) rfl ?_
    refine v_iload_n C (oX9_fixedWords.at 24 rfl) rfl ?_
    refine v_callV C (oX9_fixedWords.at 25 rfl) cX9_219 q0 (k9_cycR hR1 (by omega) (by omega)) rfl rfl rfl ⟨rfl, rfl⟩ rfl rfl (fun _ => rfl) (fun h' hp => ?_)
    rw [show h' = _ from hp]
    dsimp only [Option.toList, List.cons_append, List.nil_append]
    refine v_iload_n C (oX9_fixedWords.at 26 rfl) rfl ?_
    refine v_icmp_neN C (oX9_fixedWords.at 27 rfl) (tgt := 49) (by decide) (by omega) (by omega) (fun hc => ?_) (fun hc => ?_)
    · rw [if_neg (by simp [hc])] at ih
      refine v_iconst C (oX9_fixedWords.at 30 rfl) (v := nI 0) rfl ?_
      refine v_iaddN C (oX9_fixedWords.at 31 rfl) ?_
      refine v_istore_n C (oX9_fixedWords.at 32 rfl) rfl ?_
      refine v_iincN C (oX9_fixedWords.at 33 rfl) rfl ?_
      refine v_goto C (oX9_fixedWords.at 34 rfl) (tgt := 25) (by decide) ?_
      dsimp only [sto1, sto2, killL]
      exact ih
    · rw [if_pos (decide_eq_true hc)] at ih
      refine v_iconst C (oX9_fixedWords.at 28 rfl) (v := nI 1) rfl ?_
      refine v_goto C (oX9_fixedWords.at 29 rfl) (tgt := 50) (by decide) ?_
      refine v_iaddN C (oX9_fixedWords.at 31 rfl) ?_
      refine v_istore_n C (oX9_fixedWords.at 32 rfl) rfl ?_
      refine v_iincN C (oX9_fixedWords.at 33 rfl) rfl ?_
      refine v_goto C (oX9_fixedWords.at 34 rfl) (tgt := 25) (by decide) ?_
      dsimp only [sto1, sto2, killL]
      exact ih
theorem k9_successors {w : Wt} {G h : Hp} {th : Nat} {S Z : Sc} {sv : Bool} {F : Sf} {q c : Nat} (hR : RF G h th S sv Z F) (hq : q < 512) (hc : c < S.1) : ConN mX9_successors 2 (0, 0) w [.ref 62, .int (nI q), .int (nI c)] h (.inl (some (.int (nI (suc S.1 (S.1 ^ (S.2.1 - 1)) S.2.2.1 q c))))) (fun h' => h' = h) := by
  obtain ⟨u, o0, o1, o2⟩ := hR.o
  have hk := hR.so.1.k
  have hn9 := hR.so.1.n
  have hn0 := hR.so.1.n0
  have hcc := hc
  clear hc
  generalize hnn : S.1 ^ (S.2.1 - 1) = n at *
  have kn := k9_nodesR (w := w) hR
  rw [hnn] at kn
  unfold suc
  refine conI (by decide +kernel) ⟨fun _ => rfl, rfl, by simp⟩ (fun X C => ?_)
  change V X (0, 0) w h 0 [some (.ref 62), some (.int (nI q)), some (.int (nI c)), none, none, none] []
  refine v_iconst C (oX9_successors.at 0 rfl) (v := nI 0) rfl ?_
  refine v_istore_n C (oX9_successors.at 1 rfl) rfl ?_
  refine v_iconst C (oX9_successors.at 2 rfl) (v := nI 0) rfl ?_
  refine v_istore C (oX9_successors.at 3 rfl) rfl ?_
  dsimp only [sto1, sto2, killL]
  suffices H : ∀ d v l5, v + d = n → V X (0, 0) w h 5 [some (.ref 62), some (.int (nI q)), some (.int (nI c)), some (.int (nI (orN (fun v => if q.testBit v then sgl S.1 n S.2.2.1 v c else 0) v))), some (.int (nI v)), l5] [] from H n 0 none (by omega)
  intro d
  induction d with
  | zero =>
    intro v l5 hv
    obtain rfl : v = n := by omega
    refine v_iload C (oX9_successors.at 4 rfl) rfl ?_
    refine v_aload_n C (oX9_successors.at 5 rfl) rfl ?_
    refine v_callV C (oX9_successors.at 6 rfl) cX9_118 o0 (kn) rfl rfl rfl ⟨rfl, rfl⟩ rfl rfl (fun _ => rfl) (fun h' hp => ?_)
    rw [show h' = _ from hp]
    dsimp only [Option.toList, List.cons_append, List.nil_append]
    refine v_icmp_geN C (oX9_successors.at 7 rfl) (tgt := 79) (by decide) (by omega) (by omega) (fun hc => ?_) (fun hc => absurd hc (by omega))
    refine v_iload_n C (oX9_successors.at 42 rfl) rfl ?_
    exact v_iret C (oX9_successors.at 43 rfl) rfl rfl ⟨Nat.le_refl _, Nat.le_refl _⟩ ⟨rfl, rfl⟩
  | succ d ih =>
    intro v l5 hv
    have ih := fun l5 => ih (v + 1) l5 (by omega)
    rw [orN] at ih
    have hb : q / 2 ^ v &&& 1 ≤ 1 := Nat.and_le_right
    refine v_iload C (oX9_successors.at 4 rfl) rfl ?_
    refine v_aload_n C (oX9_successors.at 5 rfl) rfl ?_
    refine v_callV C (oX9_successors.at 6 rfl) cX9_118 o0 (kn) rfl rfl rfl ⟨rfl, rfl⟩ rfl rfl (fun _ => rfl) (fun h' hp => ?_)
    rw [show h' = _ from hp]
    dsimp only [Option.toList, List.cons_append, List.nil_append]
    refine v_icmp_geN C (oX9_successors.at 7 rfl) (tgt := 79) (by decide) (by omega) (by omega) (fun hc => absurd hc (by omega)) (fun hc => ?_)
    refine v_iload_n C (oX9_successors.at 8 rfl) rfl ?_
    refine v_iload C (oX9_successors.at 9 rfl) rfl ?_
    refine v_ishrN C (oX9_successors.at 10 rfl) (by omega) (by omega) ?_
    refine v_iconst C (oX9_successors.at 11 rfl) (v := nI 1) rfl ?_
    refine v_iandN C (oX9_successors.at 12 rfl) ?_
    refine v_if_neN C (oX9_successors.at 13 rfl) (tgt := 26) (by decide) (by omega) (fun hc => ?_) (fun hc => ?_)
    · have ht : q.testBit v = true := by
        rw [← Bool.not_eq_false]
        exact fun z => hc ((bit1 q v).mpr z)
      rw [if_pos ht] at ih
      unfold sgl at ih
      refine v_iconst C (oX9_successors.at 15 rfl) (v := nI 0) rfl ?_
      refine v_istore C (oX9_successors.at 16 rfl) rfl ?_
      dsimp only [sto1, sto2, killL]
      suffices H2 : ∀ e s, s + e = S.1 → V X (0, 0) w h 29 [some (.ref 62), some (.int (nI q)), some (.int (nI c)), some (.int (nI (orN (fun v => if q.testBit v then sgl S.1 n S.2.2.1 v c else 0) v ||| orN (fun s => if S.2.2.1 (v * S.1 + s) = c then 2 ^ ((v * S.1 + s) % n) else 0) s))), some (.int (nI v)), some (.int (nI s))] [] by
        have := H2 S.1 0 (by omega)
        rw [orN, Nat.or_zero] at this
        exact this
      intro e
      induction e with
      | zero =>
        intro s hs
        obtain rfl : s = S.1 := by omega
        refine v_iload C (oX9_successors.at 17 rfl) rfl ?_
        refine v_aload_n C (oX9_successors.at 18 rfl) rfl ?_
        refine v_getf C (oX9_successors.at 19 rfl) fX9_7 o0 (congrArg (fun z => some (Value.int z)) (o2.1)) ?_
        refine v_icmp_geN C (oX9_successors.at 20 rfl) (tgt := 73) (by decide) (by omega) (by omega) (fun hc => ?_) (fun hc => absurd hc (by omega))
        refine v_iincN C (oX9_successors.at 40 rfl) rfl ?_
        refine v_goto C (oX9_successors.at 41 rfl) (tgt := 5) (by decide) ?_
        dsimp only [sto1, sto2, killL]
        exact ih _
      | succ e ihe =>
        intro s hs
        have ihe := ihe (s + 1) (by omega)
        rw [orN, ← Nat.or_assoc] at ihe
        have hgl : (v * S.1 + s) % n < n := Nat.mod_lt _ hn0
        have hT1 : S.2.2.1 (v * S.1 + s) < 2 ^ 31 := by
          obtain ⟨f9, -, hT9⟩ := hR.tk
          have := (hT9 _ (vs_lt hR.so.1 (show v < S.1 ^ (S.2.1 - 1) by omega) (show s < S.1 by omega))).2
          omega
        have kl := k9_labelR (w := w) (v := v) (s := s) hR (by omega) (by omega)
        have kg := k9_goalR (w := w) (v := v) (s := s) hR (by omega) (by omega)
        rw [hnn] at kg
        have hp9 : 1 * 2 ^ ((v * S.1 + s) % n) < 2 ^ 32 := by
          have := pow_le9 (i := (v * S.1 + s) % n) (by omega)
          omega
        refine v_iload C (oX9_successors.at 17 rfl) rfl ?_
        refine v_aload_n C (oX9_successors.at 18 rfl) rfl ?_
        refine v_getf C (oX9_successors.at 19 rfl) fX9_7 o0 (congrArg (fun z => some (Value.int z)) (o2.1)) ?_
        refine v_icmp_geN C (oX9_successors.at 20 rfl) (tgt := 73) (by decide) (by omega) (by omega) (fun hc => absurd hc (by omega)) (fun hc => ?_)
        refine v_iload_n C (oX9_successors.at 21 rfl) rfl ?_
        refine v_aload_n C (oX9_successors.at 22 rfl) rfl ?_
        refine v_iload C (oX9_successors.at 23 rfl) rfl ?_
        refine v_iload C (oX9_successors.at 24 rfl) rfl ?_
        refine v_callV C (oX9_successors.at 25 rfl) cX9_222 o0 (kl) rfl rfl rfl ⟨rfl, rfl⟩ rfl rfl (fun _ => rfl) (fun h' hp => ?_)
        rw [show h' = _ from hp]
        dsimp only [Option.toList, List.cons_append, List.nil_append]
        refine v_iload_n C (oX9_successors.at 26 rfl) rfl ?_
        refine v_icmp_neN C (oX9_successors.at 27 rfl) (tgt := 64) (by decide) (by omega) (by omega) (fun hc => ?_) (fun hc => ?_)
        · rw [if_neg hc] at ihe
          refine v_iconst C (oX9_successors.at 35 rfl) (v := nI 0) rfl ?_
          refine v_iorN C (oX9_successors.at 36 rfl) ?_
          refine v_istore_n C (oX9_successors.at 37 rfl) rfl ?_
          refine v_iincN C (oX9_successors.at 38 rfl) rfl ?_
          refine v_goto C (oX9_successors.at 39 rfl) (tgt := 29) (by decide) ?_
          dsimp only [sto1, sto2, killL]
          exact ihe
        · rw [if_pos hc] at ihe
          refine v_iconst C (oX9_successors.at 28 rfl) (v := nI 1) rfl ?_
          refine v_aload_n C (oX9_successors.at 29 rfl) rfl ?_
          refine v_iload C (oX9_successors.at 30 rfl) rfl ?_
          refine v_iload C (oX9_successors.at 31 rfl) rfl ?_
          refine v_callV C (oX9_successors.at 32 rfl) cX9_225 o0 (kg) rfl rfl rfl ⟨rfl, rfl⟩ rfl rfl (fun _ => rfl) (fun h' hp => ?_)
          rw [show h' = _ from hp]
          dsimp only [Option.toList, List.cons_append, List.nil_append]
          refine v_ishlN C (oX9_successors.at 33 rfl) (by omega) hp9 ?_
          rw [Nat.one_mul]
          refine v_goto C (oX9_successors.at 34 rfl) (tgt := 65) (by decide) ?_
          refine v_iorN C (oX9_successors.at 36 rfl) ?_
          refine v_istore_n C (oX9_successors.at 37 rfl) rfl ?_
          refine v_iincN C (oX9_successors.at 38 rfl) rfl ?_
          refine v_goto C (oX9_successors.at 39 rfl) (tgt := 29) (by decide) ?_
          dsimp only [sto1, sto2, killL]
          exact ihe
    · have ht : q.testBit v = false := (bit1 q v).mp hc
      rw [if_neg (by rw [ht]; decide), Nat.or_zero] at ih
      refine v_goto C (oX9_successors.at 14 rfl) (tgt := 73) (by decide) ?_
      refine v_iincN C (oX9_successors.at 40 rfl) rfl ?_
      refine v_goto C (oX9_successors.at 41 rfl) (tgt := 5) (by decide) ?_
      dsimp only [sto1, sto2, killL]
      exact ih _
