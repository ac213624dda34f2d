/-! ===== Images, copies, Registers ===== -/
theorem k_imageOf {w : Wt} {h : Hp} {im r k wd L x : Nat} {a b : Int32} {T : Nat → Nat} {cf : Nat → Int32} (hi : h im = IO1 im a b) (hR : RuleOK h r k wd T) (hs : SZ k wd) (hca : h (im + 1) = io 17 cf) (hL : L ≤ 14) (hwL : wd ≤ L) (hx : x < 2 ^ 31) (hsep : im + 1 < r ∨ r + 5 < im) : ConN mX1_imageOf 2 (0, 0) w [.ref im, .ref r, .int (nI L), .int (nI x)] h (.inl (some (.int (nI (limg k wd T L x))))) (fun h' => ∃ cf', h' = hu h (im + 1) (io 17 cf')) := by
  have hr := hR.ro
  have hw2 := hs.w
  have hk := hs.k
  refine conI (by decide +kernel) ⟨fun _ => rfl, rfl, by simp⟩ (fun X C => ?_)
  change V X (0, 0) w h 0 [some (.ref im), some (.ref r), some (.int (nI L)), some (.int (nI x))] []
  refine v_aload_n C (oX1_imageOf.at 0 rfl) rfl ?_
  refine v_iload_n C (oX1_imageOf.at 1 rfl) rfl ?_
  refine v_iload_n C (oX1_imageOf.at 2 rfl) rfl ?_
  refine v_aload_n C (oX1_imageOf.at 3 rfl) rfl ?_
  refine v_getf C (oX1_imageOf.at 4 rfl) fX1_11 hi rfl ?_
  refine v_callV C (oX1_imageOf.at 5 rfl) cX1_20 hr (k_spreadWord hr hk hx (by omega) (by decide) hca (by omega)) rfl rfl rfl ⟨rfl, rfl⟩ rfl rfl (fun _ => rfl) (fun h' hp => ?_)
  rw [show h' = _ from hp]
  dsimp only [Option.toList, List.cons_append, List.nil_append]
  have hcf : ∀ j, j < (L - wd + 1) + wd - 1 → spw k L x cf 0 j = nI (cel k L x j) ∧ cel k L x j < k := fun j hj => ⟨by unfold spw; rw [if_pos (by omega)], cel_lt (by omega)⟩
  refine v_aload_n C (oX1_imageOf.at 6 rfl) rfl ?_
  refine v_aload_n C (oX1_imageOf.at 7 rfl) rfl ?_
  refine v_iload_n C (oX1_imageOf.at 8 rfl) rfl ?_
  refine v_aload_n C (oX1_imageOf.at 9 rfl) rfl ?_
  refine v_getf C (oX1_imageOf.at 10 rfl) fX1_24 ((hu_n _ _ (by omega)).trans hr) rfl ?_
  refine v_isubN C (oX1_imageOf.at 11 rfl) (by omega) ?_
  refine v_iconst C (oX1_imageOf.at 12 rfl) (v := nI 1) rfl ?_
  refine v_iaddN C (oX1_imageOf.at 13 rfl) ?_
  refine v_callV C (oX1_imageOf.at 14 rfl) cX1_28 ((hu_n _ _ (by omega)).trans hi) (k_readLabels (im := im) (a := a) (b := b) ((hu_n _ _ (by omega)).trans hi) (hR.hu (by omega)) hs (hu_s _ _ _) (by omega) hcf) rfl rfl rfl ⟨rfl, rfl⟩ rfl rfl (fun _ => rfl) (fun h' hp => ?_)
  rw [show h' = _ from hp]
  dsimp only [Option.toList, List.cons_append, List.nil_append]
  exact v_iret C (oX1_imageOf.at 15 rfl) rfl rfl ⟨Nat.le_refl _, Nat.le_refl _⟩ ⟨rfl, _, rfl⟩
theorem k_cyclicImageOf {w : Wt} {h : Hp} {im r k wd L x : Nat} {a b : Int32} {T : Nat → Nat} {cf : Nat → Int32} (hi : h im = IO1 im a b) (hR : RuleOK h r k wd T) (hs : SZ k wd) (hca : h (im + 1) = io 17 cf) (hL0 : 0 < L) (hL : L ≤ 14) (hx : x < 2 ^ 31) (hsep : im + 1 < r ∨ r + 5 < im) : ConN mX1_cyclicImageOf 2 (0, 0) w [.ref im, .ref r, .int (nI L), .int (nI x)] h (.inl (some (.int (nI (cimg k wd T L x))))) (fun h' => ∃ cf', h' = hu h (im + 1) (io 17 cf')) := by
  have hr := hR.ro
  have hw2 := hs.w
  have hk := hs.k
  refine conI (by decide +kernel) ⟨fun _ => rfl, rfl, by simp⟩ (fun X C => ?_)
  change V X (0, 0) w h 0 [some (.ref im), some (.ref r), some (.int (nI L)), some (.int (nI x)), none] []
  refine v_aload_n C (oX1_cyclicImageOf.at 0 rfl) rfl ?_
  refine v_iload_n C (oX1_cyclicImageOf.at 1 rfl) rfl ?_
  refine v_iload_n C (oX1_cyclicImageOf.at 2 rfl) rfl ?_
  refine v_aload_n C (oX1_cyclicImageOf.at 3 rfl) rfl ?_
  refine v_getf C (oX1_cyclicImageOf.at 4 rfl) fX1_11 hi rfl ?_
  refine v_callV C (oX1_cyclicImageOf.at 5 rfl) cX1_20 hr (k_spreadWord hr hk hx (by omega) (by decide) hca (by omega)) rfl rfl rfl ⟨rfl, rfl⟩ rfl rfl (fun _ => rfl) (fun h' hp => ?_)
  rw [show h' = _ from hp]
  dsimp only [Option.toList, List.cons_append, List.nil_append]
  refine v_iconst C (oX1_cyclicImageOf.at 6 rfl) (v := nI 0) rfl ?_
  refine v_istore C (oX1_cyclicImageOf.at 7 rfl) rfl ?_
  dsimp only [sto1, sto2, killL]
  suffices H : ∀ j i F, i + j = wd - 1 → (∀ q, q < L + i → F q = nI (cel k L x (q % L))) → V X (0, 0) w (hu h (im + 1) (io 17 F)) 13 [some (.ref im), some (.ref r), some (.int (nI L)), some (.int (nI x)), some (.int (nI i))] [] by
    refine H (wd - 1) 0 _ (by omega) (fun q hq => ?_)
    unfold spw
    rw [if_pos (by omega), Nat.mod_eq_of_lt (by omega)]
  intro j
  induction j with
  | zero =>
    intro i F hi' hF
    refine v_iload C (oX1_cyclicImageOf.at 8 rfl) rfl ?_
    refine v_aload_n C (oX1_cyclicImageOf.at 9 rfl) rfl ?_
    refine v_getf C (oX1_cyclicImageOf.at 10 rfl) fX1_24 ((hu_n _ _ (by omega)).trans hr) rfl ?_
    refine v_iconst C (oX1_cyclicImageOf.at 11 rfl) (v := nI 1) rfl ?_
    refine v_isubN C (oX1_cyclicImageOf.at 12 rfl) (by omega) ?_
    refine v_icmp_geN C (oX1_cyclicImageOf.at 13 rfl) (tgt := 46) (by decide) (by omega) (by omega) (fun hc => ?_) (fun hc => ?_)
    · refine v_aload_n C (oX1_cyclicImageOf.at 26 rfl) rfl ?_
      refine v_aload_n C (oX1_cyclicImageOf.at 27 rfl) rfl ?_
      refine v_iload_n C (oX1_cyclicImageOf.at 28 rfl) rfl ?_
      refine v_callV C (oX1_cyclicImageOf.at 29 rfl) cX1_28 ((hu_n _ _ (by omega)).trans hi) (k_readLabels (im := im) (a := a) (b := b) (c := fun i => cel k L x (i % L)) ((hu_n _ _ (by omega)).trans hi) (hR.hu (by omega)) hs (hu_s _ _ _) (by omega) (fun j hj => ⟨hF j (by omega), cel_lt (by omega)⟩)) rfl rfl rfl ⟨rfl, rfl⟩ rfl rfl (fun _ => rfl) (fun h' hp => ?_)
      rw [show h' = _ from hp]
      dsimp only [Option.toList, List.cons_append, List.nil_append]
      exact v_iret C (oX1_cyclicImageOf.at 30 rfl) rfl rfl ⟨Nat.le_refl _, Nat.le_refl _⟩ ⟨rfl, _, rfl⟩
    · exact absurd hc (by omega)
  | succ j ih =>
    intro i F hi' hF
    refine v_iload C (oX1_cyclicImageOf.at 8 rfl) rfl ?_
    refine v_aload_n C (oX1_cyclicImageOf.at 9 rfl) rfl ?_
    refine v_getf C (oX1_cyclicImageOf.at 10 rfl) fX1_24 ((hu_n _ _ (by omega)).trans hr) rfl ?_
    refine v_iconst C (oX1_cyclicImageOf.at 11 rfl) (v := nI 1) rfl ?_
    refine v_isubN C (oX1_cyclicImageOf.at 12 rfl) (by omega) ?_
    refine v_icmp_geN C (oX1_cyclicImageOf.at 13 rfl) (tgt := 46) (by decide) (by omega) (by omega) (fun hc => ?_) (fun hc => ?_)
    · exact absurd hc (by omega)
    · refine v_aload_n C (oX1_cyclicImageOf.at 14 rfl) rfl ?_
      refine v_getf C (oX1_cyclicImageOf.at 15 rfl) fX1_11 ((hu_n _ _ (by omega)).trans hi) rfl ?_
      refine v_iload_n C (oX1_cyclicImageOf.at 16 rfl) rfl ?_
      refine v_iload C (oX1_cyclicImageOf.at 17 rfl) rfl ?_
      refine v_iaddN C (oX1_cyclicImageOf.at 18 rfl) ?_
      refine v_aload_n C (oX1_cyclicImageOf.at 19 rfl) rfl ?_
      refine v_getf C (oX1_cyclicImageOf.at 20 rfl) fX1_11 ((hu_n _ _ (by omega)).trans hi) rfl ?_
      refine v_iload C (oX1_cyclicImageOf.at 21 rfl) rfl ?_
      refine v_iald C (oX1_cyclicImageOf.at 22 rfl) (hu_s _ _ _) (by decide) rfl (by omega) (hF _ (by omega)) ?_
      refine v_iast C (oX1_cyclicImageOf.at 23 rfl) (hu_s _ _ _) (by decide) rfl (by omega) ?_
      rw [hu_hu]
      refine v_iincN C (oX1_cyclicImageOf.at 24 rfl) rfl ?_
      refine v_goto C (oX1_cyclicImageOf.at 25 rfl) (tgt := 13) (by decide) ?_
      dsimp only [sto1, sto2, killL]
      refine ih (i + 1) _ (by omega) (fun q hq => ?_)
      by_cases e1 : q = L + i
      · subst e1
        rw [pk_us, Nat.add_mod_left]
      · rw [pk_un e1]
        exact hF q (by omega)
theorem cpy_mix (f g : Nat → Int32) (n : Nat) : va_cpy f g 0 0 n = mix g f n := by
  funext j; unfold va_cpy mix; simp
theorem k_ruleCopy {w : Wt} {h : Hp} {r s k wd k0 w0 : Nat} {T T0 : Nat → Nat} (hR : RuleOK h r k0 w0 T0) (hS : RuleOK h s k wd T) (hs : SZ k wd) (hsep : r + 5 < s ∨ s + 5 < r) : ConN mX6_copyFrom 2 (0, 0) w [.ref r, .ref s] h (.inl none) (fun h' => RuleOK h' r k wd T ∧ ∀ j, (j < r ∨ r + 3 < j) → h' j = h j) := by
  obtain ⟨f, g, e, v, t, hr, ht, hT, hg, hG, he, hE, hv, htl⟩ := hR
  obtain ⟨f1, g1, e1, v1, t1, hr1, ht1, hT1, hg1, hG1, he1, hE1, hv1, htl1⟩ := hS
  have hw2 := hs.w
  have hk := hs.k
  have hm := hs.m
  refine conI (by decide +kernel) ⟨fun _ => rfl, rfl, by simp⟩ (fun X C => ?_)
  change V X (0, 0) w h 0 [some (.ref r), some (.ref s)] []
  refine v_aload_n C (oX6_copyFrom.at 0 rfl) rfl ?_
  refine v_aload_n C (oX6_copyFrom.at 1 rfl) rfl ?_
  refine v_getf C (oX6_copyFrom.at 2 rfl) fX6_29 hr1 rfl ?_
  refine v_aload_n C (oX6_copyFrom.at 3 rfl) rfl ?_
  refine v_getf C (oX6_copyFrom.at 4 rfl) fX6_33 hr1 rfl ?_
  refine v_callV C (oX6_copyFrom.at 5 rfl) cX6_25 hr (k_resize hr hk (by omega) (by omega) hm ht hg he) rfl rfl rfl ⟨rfl, rfl⟩ rfl rfl (fun _ => rfl) (fun h' hp => ?_)
  rw [show h' = _ from hp]
  dsimp only [Option.toList, List.cons_append, List.nil_append]
  generalize hH : hu (hu (hu (hu h r (RO r k wd (k ^ (wd - 1)) (k ^ wd))) (r + 1) (io 27 (mix f (fun _ => nI 0) (k ^ wd)))) (r + 2) (io 27 (mix g (fun i => nI (i % k ^ (wd - 1))) (k ^ wd)))) (r + 3) (io 27 (mix e (fun i => nI (i / k ^ (wd - 1))) (k ^ wd))) = h1
  have hfr : ∀ j, (j < r ∨ r + 3 < j) → h1 j = h j := fun j hj => by
    rw [← hH, hu_n _ _ (by omega), hu_n _ _ (by omega), hu_n _ _ (by omega), hu_n _ _ (by omega)]
  have q0 : h1 r = RO r k wd (k ^ (wd - 1)) (k ^ wd) := by rw [← hH, hu_n _ _ (by omega), hu_n _ _ (by omega), hu_n _ _ (by omega), hu_s]
  have q1 : h1 (r + 1) = io 27 (mix f (fun _ => nI 0) (k ^ wd)) := by rw [← hH, hu_n _ _ (by omega), hu_n _ _ (by omega), hu_s]
  have q2 : h1 (r + 2) = io 27 (mix g (fun i => nI (i % k ^ (wd - 1))) (k ^ wd)) := by rw [← hH, hu_n _ _ (by omega), hu_s]
  have q3 : h1 (r + 3) = io 27 (mix e (fun i => nI (i / k ^ (wd - 1))) (k ^ wd)) := by rw [← hH, hu_s]
  refine v_aload_n C (oX6_copyFrom.at 6 rfl) rfl ?_
  refine v_getf C (oX6_copyFrom.at 7 rfl) fX6_9 ((hfr _ (by omega)).trans hr1) rfl ?_
  refine v_iconst C (oX6_copyFrom.at 8 rfl) (v := nI 0) rfl ?_
  refine v_aload_n C (oX6_copyFrom.at 9 rfl) rfl ?_
  refine v_getf C (oX6_copyFrom.at 10 rfl) fX6_9 q0 rfl ?_
  refine v_iconst C (oX6_copyFrom.at 11 rfl) (v := nI 0) rfl ?_
  refine v_bipush C (oX6_copyFrom.at 12 rfl) (v := nI 27) rfl ?_
  refine v_acopy C (oX6_copyFrom.at 13 rfl) (tj2 185 (by rfl) rfl) ((hfr _ (by omega)).trans ht1) q1 (by decide) (by decide) (by decide) rfl rfl ?_
  rw [cpy_mix]
  refine v_vret C (oX6_copyFrom.at 14 rfl) rfl rfl ⟨Nat.le_refl _, Nat.le_refl _⟩ ⟨rfl, ⟨_, _, _, v, t, (hu_n _ _ (by omega)).trans q0, hu_s _ _ _, ?_, (hu_n _ _ (by omega)).trans q2, ?_, (hu_n _ _ (by omega)).trans q3, ?_, ?_, ?_⟩, ?_⟩
  · intro i hi
    rw [mix_lt (by omega)]
    exact hT1 i hi
  · exact fun i hi => mix_lt hi
  · exact fun i hi => mix_lt hi
  · rw [hu_n _ _ (by omega), hfr _ (by omega)]; exact hv
  · rw [hu_n _ _ (by omega), hfr _ (by omega)]; exact htl
  · intro j hj
    rw [hu_n _ _ (by omega), hfr _ hj]
/-! Registers: lengths behind it, then indices -/
abbrev RG (g : Nat) : PE := ob 5 [.ref (g + 1), .ref (g + 2)]
def RegOK (h : Hp) (g : Nat) (Ln Ix : Nat → Nat) : Prop := ∃ f e, h g = RG g ∧ h (g + 1) = io 4 f ∧ (∀ i, i < 4 → f i = nI (Ln i)) ∧ h (g + 2) = io 4 e ∧ (∀ i, i < 4 → e i = nI (Ix i))
theorem RegOK.eq {h h' : Hp} {g : Nat} {Ln Ix : Nat → Nat} (hR : RegOK h g Ln Ix) (he : ∀ j, g ≤ j → j ≤ g + 2 → h' j = h j) : RegOK h' g Ln Ix := by
  obtain ⟨f, e, h0, h1, h2, h3, h4⟩ := hR
  exact ⟨f, e, (he _ (by omega) (by omega)).trans h0, (he _ (by omega) (by omega)).trans h1, h2, (he _ (by omega) (by omega)).trans h3, h4⟩
def updN (f : Nat → Nat) (k x : Nat) : Nat → Nat := fun j => if j = k then x else f j
theorem k_regEmpty {w : Wt} {h : Hp} {g : Nat} {Ln Ix : Nat → Nat} (hR : RegOK h g Ln Ix) : ConN mX5_empty 1 (0, 0) w [.ref g] h (.inl none) (fun h' => RegOK h' g (fun _ => 0) (fun _ => 0) ∧ ∀ j, (j < g ∨ g + 2 < j) → h' j = h j) := by
  obtain ⟨f, e, h0, h1, h2, h3, h4⟩ := hR
  refine conI (by decide +kernel) ⟨fun _ => rfl, rfl, by simp⟩ (fun X C => ?_)
  change V X (0, 0) w h 0 [some (.ref g)] []
  refine v_aload_n C (oX5_empty.at 0 rfl) rfl ?_
  refine v_getf C (oX5_empty.at 1 rfl) fX5_9 h0 rfl ?_
  refine v_iconst C (oX5_empty.at 2 rfl) (v := nI 0) rfl ?_
  refine v_callS C (oX5_empty.at 3 rfl) cX5_18 (k_fill h1 (by decide)) rfl rfl rfl ⟨rfl, rfl⟩ rfl rfl (fun _ => rfl) (fun h' hp => ?_)
  rw [show h' = _ from hp]
  dsimp only [Option.toList, List.cons_append, List.nil_append]
  refine v_aload_n C (oX5_empty.at 4 rfl) rfl ?_
  refine v_getf C (oX5_empty.at 5 rfl) fX5_15 ((hu_n _ _ (by omega)).trans h0) rfl ?_
  refine v_iconst C (oX5_empty.at 6 rfl) (v := nI 0) rfl ?_
  refine v_callS C (oX5_empty.at 7 rfl) cX5_18 (k_fill ((hu_n _ _ (by omega)).trans h3) (by decide)) rfl rfl rfl ⟨rfl, rfl⟩ rfl rfl (fun _ => rfl) (fun h' hp => ?_)
  rw [show h' = _ from hp]
  dsimp only [Option.toList, List.cons_append, List.nil_append]
  refine v_vret C (oX5_empty.at 8 rfl) rfl rfl ⟨Nat.le_refl _, Nat.le_refl _⟩ ⟨rfl, ⟨_, _, ?_, (hu_n _ _ (by omega)).trans (hu_s _ _ _), fun i hi => mix_lt hi, hu_s _ _ _, fun i hi => mix_lt hi⟩, ?_⟩
  · rw [hu_n _ _ (by omega), hu_n _ _ (by omega)]; exact h0
  · intro j hj
    rw [hu_n _ _ (by omega), hu_n _ _ (by omega)]
theorem k_regPut {w : Wt} {h : Hp} {g p l x : Nat} {Ln Ix : Nat → Nat} (hR : RegOK h g Ln Ix) (hp : p < 4) : ConN mX5_put 0 (0, 0) w [.ref g, .int (nI p), .int (nI l), .int (nI x)] h (.inl none) (fun h' => RegOK h' g (updN Ln p l) (updN Ix p x) ∧ ∀ j, (j < g ∨ g + 2 < j) → h' j = h j) := by
  obtain ⟨f, e, h0, h1, h2, h3, h4⟩ := hR
  refine conI (by decide +kernel) ⟨fun _ => rfl, rfl, by simp⟩ (fun X C => ?_)
  change V X (0, 0) w h 0 [some (.ref g), some (.int (nI p)), some (.int (nI l)), some (.int (nI x))] []
  refine v_aload_n C (oX5_put.at 0 rfl) rfl ?_
  refine v_getf C (oX5_put.at 1 rfl) fX5_9 h0 rfl ?_
  refine v_iload_n C (oX5_put.at 2 rfl) rfl ?_
  refine v_iload_n C (oX5_put.at 3 rfl) rfl ?_
  refine v_iast C (oX5_put.at 4 rfl) h1 (by decide) rfl (by omega) ?_
  refine v_aload_n C (oX5_put.at 5 rfl) rfl ?_
  refine v_getf C (oX5_put.at 6 rfl) fX5_15 ((hu_n _ _ (by omega)).trans h0) rfl ?_
  refine v_iload_n C (oX5_put.at 7 rfl) rfl ?_
  refine v_iload_n C (oX5_put.at 8 rfl) rfl ?_
  refine v_iast C (oX5_put.at 9 rfl) ((hu_n _ _ (by omega)).trans h3) (by decide) rfl (by omega) ?_
  refine v_vret C (oX5_put.at 10 rfl) rfl rfl ⟨Nat.le_refl _, Nat.le_refl _⟩ ⟨rfl, ⟨_, _, ?_, (hu_n _ _ (by omega)).trans (hu_s _ _ _), fun i hi => ?_, hu_s _ _ _, fun i hi => ?_⟩, ?_⟩
  · rw [hu_n _ _ (by omega), hu_n _ _ (by omega)]; exact h0
  · unfold upd updN; split
    · rfl
    · exact h2 i hi
  · unfold upd updN; split
    · rfl
    · exact h4 i hi
  · intro j hj
    rw [hu_n _ _ (by omega), hu_n _ _ (by omega)]
theorem k_regCopy {w : Wt} {h : Hp} {g s : Nat} {Ln Ix Ln1 Ix1 : Nat → Nat} (hR : RegOK h g Ln Ix) (hS : RegOK h s Ln1 Ix1) (hsep : g + 2 < s ∨ s + 2 < g) : ConN mX5_copyFrom 0 (0, 0) w [.ref g, .ref s] h (.inl none) (fun h' => RegOK h' g Ln1 Ix1 ∧ ∀ j, (j < g ∨ g + 2 < j) → h' j = h j) := by
  obtain ⟨f, e, h0, h1, h2, h3, h4⟩ := hR
  obtain ⟨f1, e1, s0, s1, s2, s3, s4⟩ := hS
  refine conI (by decide +kernel) ⟨fun _ => rfl, rfl, by simp⟩ (fun X C => ?_)
  change V X (0, 0) w h 0 [some (.ref g), some (.ref s)] []
  refine v_aload_n C (oX5_copyFrom.at 0 rfl) rfl ?_
  refine v_getf C (oX5_copyFrom.at 1 rfl) fX5_9 s0 rfl ?_
  refine v_iconst C (oX5_copyFrom.at 2 rfl) (v := nI 0) rfl ?_
  refine v_aload_n C (oX5_copyFrom.at 3 rfl) rfl ?_
  refine v_getf C (oX5_copyFrom.at 4 rfl) fX5_9 h0 rfl ?_
  refine v_iconst C (oX5_copyFrom.at 5 rfl) (v := nI 0) rfl ?_
  refine v_iconst C (oX5_copyFrom.at 6 rfl) (v := nI 4) rfl ?_
  refine v_acopy C (oX5_copyFrom.at 7 rfl) (tj2 192 (by rfl) rfl) s1 h1 (by decide) (by decide) (by decide) rfl rfl ?_
  refine v_aload_n C (oX5_copyFrom.at 8 rfl) rfl ?_
  refine v_getf C (oX5_copyFrom.at 9 rfl) fX5_15 ((hu_n _ _ (by omega)).trans s0) rfl ?_
  refine v_iconst C (oX5_copyFrom.at 10 rfl) (v := nI 0) rfl ?_
  refine v_aload_n C (oX5_copyFrom.at 11 rfl) rfl ?_
  refine v_getf C (oX5_copyFrom.at 12 rfl) fX5_15 ((hu_n _ _ (by omega)).trans h0) rfl ?_
  refine v_iconst C (oX5_copyFrom.at 13 rfl) (v := nI 0) rfl ?_
  refine v_iconst C (oX5_copyFrom.at 14 rfl) (v := nI 4) rfl ?_
  refine v_acopy C (oX5_copyFrom.at 15 rfl) (tj2 192 (by rfl) rfl) ((hu_n _ _ (by omega)).trans s3) ((hu_n _ _ (by omega)).trans h3) (by decide) (by decide) (by decide) rfl rfl ?_
  rw [cpy_mix, cpy_mix]
  refine v_vret C (oX5_copyFrom.at 16 rfl) rfl rfl ⟨Nat.le_refl _, Nat.le_refl _⟩ ⟨rfl, ⟨_, _, ?_, (hu_n _ _ (by omega)).trans (hu_s _ _ _), fun i hi => ?_, hu_s _ _ _, fun i hi => ?_⟩, ?_⟩
  · rw [hu_n _ _ (by omega), hu_n _ _ (by omega)]; exact h0
  · rw [mix_lt hi]; exact s2 i hi
  · rw [mix_lt hi]; exact s4 i hi
  · intro j hj
    rw [hu_n _ _ (by omega), hu_n _ _ (by omega)]
