/-! ===== Rule: balance, sizes, copies; Registers ===== -/
theorem hu_c (h : Hp) {a b : Nat} (A B : PE) (hab : a ≠ b) : hu (hu h a A) b B = hu (hu h b B) a A := by
  funext j; simp only [hu]; split <;> split <;> first | rfl | omega
theorem hu3 (h : Hp) {a b c : Nat} (A B C A' B' C' : PE) (hab : a ≠ b) (hac : a ≠ c) (hbc : b ≠ c) : hu (hu (hu (hu (hu (hu h a A) b B) c C) a A') b B') c C' = hu (hu (hu h a A') b B') c C' := by
  funext j; simp only [hu]; split
  · rfl
  · split
    · rfl
    · split
      · rfl
      · rfl
def cntE (T : Nat → Nat) (c m : Nat) : Nat := cnt (fun i => decide (T i = c)) m
theorem k_isBalanced {w : Wt} {h : Hp} {r k wd n m : Nat} {f e : Nat → Int32} {T : Nat → Nat} (hr : h r = RO r k wd n m) (hk : k ≤ 3) (hm : m ≤ 27) (hn : n ≤ 9) (ht : h (r + 1) = io 27 f) (he : h (r + 5) = io 3 e) (hT : ∀ i, i < m → f i = nI (T i) ∧ T i < k) : ConN mX6_isBalanced 1 (0, 0) w [.ref r] h (.inl (some (.int (bI (allB (fun c => decide (cntE T c m = n)) k))))) (fun h' => ∃ e', h' = hu h (r + 5) (io 3 e')) := by
  refine conI (by decide +kernel) ⟨fun _ => rfl, rfl, by simp⟩ (fun X C => ?_)
  change V X (0, 0) w h 0 [some (.ref r), none] []
  refine v_aload_n C (oX6_isBalanced.at 0 rfl) rfl ?_
  refine v_getf C (oX6_isBalanced.at 1 rfl) fX6_22 hr rfl ?_
  refine v_iconst C (oX6_isBalanced.at 2 rfl) (v := nI 0) rfl ?_
  refine v_callS C (oX6_isBalanced.at 3 rfl) cX6_70 (k_fill he (by decide)) rfl rfl rfl ⟨rfl, rfl⟩ rfl rfl (fun _ => rfl) (fun h' hp => ?_)
  rw [show h' = _ from hp]
  dsimp only [Option.toList, List.cons_append, List.nil_append]
  refine v_iconst C (oX6_isBalanced.at 4 rfl) (v := nI 0) rfl ?_
  refine v_istore_n C (oX6_isBalanced.at 5 rfl) rfl ?_
  dsimp only [sto1, sto2, killL]
  suffices H : ∀ j i e', i + j = m → (∀ c, c < 3 → e' c = nI (cntE T c i)) → V X (0, 0) w (hu h (r + 5) (io 3 e')) 10 [some (.ref r), some (.int (nI i))] [] from H m 0 _ (by omega) (fun c hc => mix_lt hc)
  intro j
  induction j with
  | zero =>
    intro i e' hi he'
    refine v_iload_n C (oX6_isBalanced.at 6 rfl) rfl ?_
    refine v_aload_n C (oX6_isBalanced.at 7 rfl) rfl ?_
    refine v_getf C (oX6_isBalanced.at 8 rfl) fX6_43 ((hu_n _ _ (by omega)).trans hr) rfl ?_
    refine v_icmp_geN C (oX6_isBalanced.at 9 rfl) (tgt := 39) (by decide) (by omega) (by omega) (fun hc => ?_) (fun hc => ?_)
    · have e1 : i = m := by omega
      subst e1
      refine v_iconst C (oX6_isBalanced.at 23 rfl) (v := nI 0) rfl ?_
      refine v_istore_n C (oX6_isBalanced.at 24 rfl) rfl ?_
      dsimp only [sto1, sto2, killL]
      suffices H : ∀ j s, s + j = k → allB (fun c => decide (cntE T c i = n)) s = true → V X (0, 0) w (hu h (r + 5) (io 3 e')) 41 [some (.ref r), some (.int (nI s))] [] from H k 0 (by omega) rfl
      have hcb : ∀ c, cntE T c i ≤ 27 := fun c => by
        have : ∀ q, cntE T c q ≤ q := fun q => by
          induction q with
          | zero => exact Nat.le_refl _
          | succ q ih => unfold cntE at ih ⊢; rw [cnt]; split <;> omega
        have := this i
        omega
      intro j
      induction j with
      | zero =>
        intro s hs hall
        refine v_iload_n C (oX6_isBalanced.at 25 rfl) rfl ?_
        refine v_aload_n C (oX6_isBalanced.at 26 rfl) rfl ?_
        refine v_getf C (oX6_isBalanced.at 27 rfl) fX6_29 ((hu_n _ _ (by omega)).trans hr) rfl ?_
        refine v_icmp_geN C (oX6_isBalanced.at 28 rfl) (tgt := 70) (by decide) (by omega) (by omega) (fun hc => ?_) (fun hc => ?_)
        · have e1 : s = k := by omega
          subst e1
          rw [hall] at C
          refine v_iconst C (oX6_isBalanced.at 40 rfl) (v := nI 1) rfl ?_
          exact v_zret1 C (oX6_isBalanced.at 41 rfl) rfl rfl ⟨Nat.le_refl _, Nat.le_refl _⟩ ⟨rfl, _, rfl⟩
        · exact absurd hc (by omega)
      | succ j ih =>
        intro s hs hall
        have hcs := hcb s
        refine v_iload_n C (oX6_isBalanced.at 25 rfl) rfl ?_
        refine v_aload_n C (oX6_isBalanced.at 26 rfl) rfl ?_
        refine v_getf C (oX6_isBalanced.at 27 rfl) fX6_29 ((hu_n _ _ (by omega)).trans hr) rfl ?_
        refine v_icmp_geN C (oX6_isBalanced.at 28 rfl) (tgt := 70) (by decide) (by omega) (by omega) (fun hc => ?_) (fun hc => ?_)
        · exact absurd hc (by omega)
        · refine v_aload_n C (oX6_isBalanced.at 29 rfl) rfl ?_
          refine v_getf C (oX6_isBalanced.at 30 rfl) fX6_22 ((hu_n _ _ (by omega)).trans hr) rfl ?_
          refine v_iload_n C (oX6_isBalanced.at 31 rfl) rfl ?_
          refine v_iald C (oX6_isBalanced.at 32 rfl) (hu_s _ _ _) (by decide) rfl (by omega) (he' _ (by omega)) ?_
          refine v_aload_n C (oX6_isBalanced.at 33 rfl) rfl ?_
          refine v_getf C (oX6_isBalanced.at 34 rfl) fX6_40 ((hu_n _ _ (by omega)).trans hr) rfl ?_
          refine v_icmp_eqN C (oX6_isBalanced.at 35 rfl) (tgt := 64) (by decide) (by omega) (by omega) (fun hc => ?_) (fun hc => ?_)
          · refine v_iincN C (oX6_isBalanced.at 38 rfl) rfl ?_
            refine v_goto C (oX6_isBalanced.at 39 rfl) (tgt := 41) (by decide) ?_
            dsimp only [sto1, sto2, killL]
            exact ih (s + 1) (by omega) (by simp [allB, hall, hc])
          · rw [allB_f (p := fun c => decide (cntE T c i = n)) (i := s) (by simp [hc]) k (by omega)] at C
            refine v_iconst C (oX6_isBalanced.at 36 rfl) (v := nI 0) rfl ?_
            exact v_zret0 C (oX6_isBalanced.at 37 rfl) rfl rfl ⟨Nat.le_refl _, Nat.le_refl _⟩ ⟨rfl, _, rfl⟩
    · exact absurd hc (by omega)
  | succ j ih =>
    intro i e' hi he'
    have hTi := (hT i (by omega)).2
    refine v_iload_n C (oX6_isBalanced.at 6 rfl) rfl ?_
    refine v_aload_n C (oX6_isBalanced.at 7 rfl) rfl ?_
    refine v_getf C (oX6_isBalanced.at 8 rfl) fX6_43 ((hu_n _ _ (by omega)).trans hr) rfl ?_
    refine v_icmp_geN C (oX6_isBalanced.at 9 rfl) (tgt := 39) (by decide) (by omega) (by omega) (fun hc => ?_) (fun hc => ?_)
    · exact absurd hc (by omega)
    · refine v_aload_n C (oX6_isBalanced.at 10 rfl) rfl ?_
      refine v_getf C (oX6_isBalanced.at 11 rfl) fX6_22 ((hu_n _ _ (by omega)).trans hr) rfl ?_
      refine v_aload_n C (oX6_isBalanced.at 12 rfl) rfl ?_
      refine v_getf C (oX6_isBalanced.at 13 rfl) fX6_9 ((hu_n _ _ (by omega)).trans hr) rfl ?_
      refine v_iload_n C (oX6_isBalanced.at 14 rfl) rfl ?_
      refine v_iald C (oX6_isBalanced.at 15 rfl) ((hu_n _ _ (by omega)).trans ht) (by decide) rfl (by omega) (hT _ (by omega)).1 ?_
      refine v_dup2 C (oX6_isBalanced.at 16 rfl) rfl rfl ?_
      refine v_iald C (oX6_isBalanced.at 17 rfl) (hu_s _ _ _) (by decide) rfl (by omega) (he' _ (by omega)) ?_
      refine v_iconst C (oX6_isBalanced.at 18 rfl) (v := nI 1) rfl ?_
      refine v_iaddN C (oX6_isBalanced.at 19 rfl) ?_
      refine v_iast C (oX6_isBalanced.at 20 rfl) (hu_s _ _ _) (by decide) rfl (by omega) ?_
      rw [hu_hu]
      refine v_iincN C (oX6_isBalanced.at 21 rfl) rfl ?_
      refine v_goto C (oX6_isBalanced.at 22 rfl) (tgt := 10) (by decide) ?_
      dsimp only [sto1, sto2, killL]
      refine ih (i + 1) _ (by omega) (fun c hc => ?_)
      unfold cntE
      rw [cnt]
      by_cases e1 : c = T i
      · subst e1
        rw [pk_us]
        simp [cntE]
      · rw [pk_un e1, he' c hc]
        simp [cntE, Ne.symm e1]
theorem k_resize {w : Wt} {h : Hp} {r k wd k0 w0 n0 m0 : Nat} {f g e : Nat → Int32} (hr : h r = RO r k0 w0 n0 m0) (hk : k = 2 ∨ k = 3) (hw : 1 ≤ wd) (hw4 : wd ≤ 4) (hm : k ^ wd ≤ 27) (ht : h (r + 1) = io 27 f) (hg : h (r + 2) = io 27 g) (he : h (r + 3) = io 27 e) : ConN mX6_resize 1 (0, 0) w [.ref r, .int (nI k), .int (nI wd)] h (.inl none) (fun h' => h' = hu (hu (hu (hu h r (RO r k wd (k ^ (wd - 1)) (k ^ wd))) (r + 1) (io 27 (mix f (fun _ => nI 0) (k ^ wd)))) (r + 2) (io 27 (mix g (fun i => nI (i % k ^ (wd - 1))) (k ^ wd)))) (r + 3) (io 27 (mix e (fun i => nI (i / k ^ (wd - 1))) (k ^ wd)))) := by
  refine conI (by decide +kernel) ⟨fun _ => rfl, rfl, by simp⟩ (fun X C => ?_)
  change V X (0, 0) w h 0 [some (.ref r), some (.int (nI k)), some (.int (nI wd)), none, none, none] []
  refine v_aload_n C (oX6_resize.at 0 rfl) rfl ?_
  refine v_iload_n C (oX6_resize.at 1 rfl) rfl ?_
  refine v_putI C (oX6_resize.at 2 rfl) fX6_29 p6_0 hr rfl ?_
  refine v_aload_n C (oX6_resize.at 3 rfl) rfl ?_
  refine v_iload_n C (oX6_resize.at 4 rfl) rfl ?_
  refine v_putI C (oX6_resize.at 5 rfl) fX6_33 p6_1 (hu_s _ _ _) rfl ?_
  refine v_aload_n C (oX6_resize.at 6 rfl) rfl ?_
  refine v_aload_n C (oX6_resize.at 7 rfl) rfl ?_
  refine v_iload_n C (oX6_resize.at 8 rfl) rfl ?_
  refine v_iconst C (oX6_resize.at 9 rfl) (v := nI 1) rfl ?_
  refine v_isubN C (oX6_resize.at 10 rfl) (by omega) ?_
  refine v_callV C (oX6_resize.at 11 rfl) cX6_36 (hu_s _ _ _) (k_countOfWords (r := r) (k := k) (wd := wd) (n := n0) (m := m0) (hu_s _ _ _) (by omega)) rfl rfl rfl ⟨rfl, rfl⟩ rfl rfl (fun _ => rfl) (fun h' hp => ?_)
  rw [show h' = _ from hp]
  dsimp only [Option.toList, List.cons_append, List.nil_append]
  refine v_putI C (oX6_resize.at 12 rfl) fX6_40 p6_2 (hu_s _ _ _) rfl ?_
  refine v_aload_n C (oX6_resize.at 13 rfl) rfl ?_
  refine v_aload_n C (oX6_resize.at 14 rfl) rfl ?_
  refine v_getf C (oX6_resize.at 15 rfl) fX6_40 (hu_s _ _ _) rfl ?_
  refine v_iload_n C (oX6_resize.at 16 rfl) rfl ?_
  refine v_imulN C (oX6_resize.at 17 rfl) ?_
  refine v_putI C (oX6_resize.at 18 rfl) fX6_43 p6_3 (hu_s _ _ _) rfl ?_
  refine v_iconst C (oX6_resize.at 19 rfl) (v := nI 0) rfl ?_
  refine v_istore_n C (oX6_resize.at 20 rfl) rfl ?_
  refine v_iconst C (oX6_resize.at 21 rfl) (v := nI 0) rfl ?_
  refine v_istore C (oX6_resize.at 22 rfl) rfl ?_
  refine v_iconst C (oX6_resize.at 23 rfl) (v := nI 0) rfl ?_
  refine v_istore C (oX6_resize.at 24 rfl) rfl ?_
  dsimp only [sto1, sto2, killL]
  simp only [hu_hu, List.set]
  have em : k ^ (wd - 1) * k = k ^ wd := by rw [← Nat.pow_succ]; congr 1; omega
  have hn0 : 0 < k ^ (wd - 1) := Nat.pow_pos (by omega)
  rw [em]
  generalize hnn : k ^ (wd - 1) = n at *
  generalize hmm : k ^ wd = m at *
  have hnm : n ≤ m := by rw [← em]; exact Nat.le_mul_of_pos_right n (by omega)
  suffices H : ∀ j i, i + j = m → V X (0, 0) w (hu (hu (hu (hu h r (RO r k wd n m)) (r + 1) (io 27 (mix f (fun _ => nI 0) i))) (r + 2) (io 27 (mix g (fun i => nI (i % n)) i))) (r + 3) (io 27 (mix e (fun i => nI (i / n)) i))) 39 [some (.ref r), some (.int (nI k)), some (.int (nI wd)), some (.int (nI (i % n))), some (.int (nI (i / n))), some (.int (nI i))] [] by
    have := H m 0 (by omega)
    rw [mix_0, mix_0, mix_0, Nat.zero_mod, Nat.zero_div] at this
    rw [hu_id (hu h r (RO r k wd n m)) ((hu_n _ _ (by omega)).trans ht), hu_id (hu h r (RO r k wd n m)) ((hu_n _ _ (by omega)).trans hg), hu_id (hu h r (RO r k wd n m)) ((hu_n _ _ (by omega)).trans he)] at this
    exact this
  intro j
  induction j with
  | zero =>
    intro i hi
    have hr1 : (hu (hu (hu (hu h r (RO r k wd n m)) (r + 1) (io 27 (mix f (fun _ => nI 0) i))) (r + 2) (io 27 (mix g (fun i => nI (i % n)) i))) (r + 3) (io 27 (mix e (fun i => nI (i / n)) i))) r = RO r k wd n m := by rw [hu_n _ _ (by omega), hu_n _ _ (by omega), hu_n _ _ (by omega), hu_s]
    refine v_iload C (oX6_resize.at 25 rfl) rfl ?_
    refine v_aload_n C (oX6_resize.at 26 rfl) rfl ?_
    refine v_getf C (oX6_resize.at 27 rfl) fX6_43 hr1 rfl ?_
    refine v_icmp_geN C (oX6_resize.at 28 rfl) (tgt := 95) (by decide) (by omega) (by omega) (fun hc => ?_) (fun hc => ?_)
    · have e1 : i = m := by omega
      subst e1
      exact v_vret C (oX6_resize.at 54 rfl) rfl rfl ⟨Nat.le_refl _, Nat.le_refl _⟩ ⟨rfl, rfl⟩
    · exact absurd hc (by omega)
  | succ j ih =>
    intro i hi
    have hr1 : (hu (hu (hu (hu h r (RO r k wd n m)) (r + 1) (io 27 (mix f (fun _ => nI 0) i))) (r + 2) (io 27 (mix g (fun i => nI (i % n)) i))) (r + 3) (io 27 (mix e (fun i => nI (i / n)) i))) r = RO r k wd n m := by rw [hu_n _ _ (by omega), hu_n _ _ (by omega), hu_n _ _ (by omega), hu_s]
    have ha1 : (hu (hu (hu (hu h r (RO r k wd n m)) (r + 1) (io 27 (mix f (fun _ => nI 0) i))) (r + 2) (io 27 (mix g (fun i => nI (i % n)) i))) (r + 3) (io 27 (mix e (fun i => nI (i / n)) i))) (r + 1) = io 27 (mix f (fun _ => nI 0) i) := by rw [hu_n _ _ (by omega), hu_n _ _ (by omega), hu_s]
    have hb1 : (hu (hu (hu (hu h r (RO r k wd n m)) (r + 1) (io 27 (mix f (fun _ => nI 0) i))) (r + 2) (io 27 (mix g (fun i => nI (i % n)) i))) (r + 3) (io 27 (mix e (fun i => nI (i / n)) i))) (r + 2) = io 27 (mix g (fun i => nI (i % n)) i) := by rw [hu_n _ _ (by omega), hu_s]
    refine v_iload C (oX6_resize.at 25 rfl) rfl ?_
    refine v_aload_n C (oX6_resize.at 26 rfl) rfl ?_
    refine v_getf C (oX6_resize.at 27 rfl) fX6_43 hr1 rfl ?_
    refine v_icmp_geN C (oX6_resize.at 28 rfl) (tgt := 95) (by decide) (by omega) (by omega) (fun hc => ?_) (fun hc => ?_)
    · exact absurd hc (by omega)
    · refine v_aload_n C (oX6_resize.at 29 rfl) rfl ?_
      refine v_getf C (oX6_resize.at 30 rfl) fX6_9 hr1 rfl ?_
      refine v_iload C (oX6_resize.at 31 rfl) rfl ?_
      refine v_iconst C (oX6_resize.at 32 rfl) (v := nI 0) rfl ?_
      refine v_iast C (oX6_resize.at 33 rfl) ha1 (by decide) rfl (by omega) ?_
      refine v_aload_n C (oX6_resize.at 34 rfl) rfl ?_
      refine v_getf C (oX6_resize.at 35 rfl) fX6_13 ((hu_n _ _ (by omega)).trans hr1) rfl ?_
      refine v_iload C (oX6_resize.at 36 rfl) rfl ?_
      refine v_iload_n C (oX6_resize.at 37 rfl) rfl ?_
      refine v_iast C (oX6_resize.at 38 rfl) ((hu_n _ _ (by omega)).trans hb1) (by decide) rfl (by omega) ?_
      refine v_aload_n C (oX6_resize.at 39 rfl) rfl ?_
      refine v_getf C (oX6_resize.at 40 rfl) fX6_16 ((hu_n _ _ (by omega)).trans ((hu_n _ _ (by omega)).trans hr1)) rfl ?_
      refine v_iload C (oX6_resize.at 41 rfl) rfl ?_
      refine v_iload C (oX6_resize.at 42 rfl) rfl ?_
      refine v_iast C (oX6_resize.at 43 rfl) ((hu_n _ _ (by omega)).trans ((hu_n _ _ (by omega)).trans (hu_s _ _ _))) (by decide) rfl (by omega) ?_
      rw [hu3 _ _ _ _ _ _ _ (by omega) (by omega) (by omega), mix_s _ _ _ _ rfl, mix_s _ _ _ _ rfl, mix_s _ _ _ _ rfl]
      have hr2 : (hu (hu (hu (hu h r (RO r k wd n m)) (r + 1) (io 27 (mix f (fun _ => nI 0) (i + 1)))) (r + 2) (io 27 (mix g (fun i => nI (i % n)) (i + 1)))) (r + 3) (io 27 (mix e (fun i => nI (i / n)) (i + 1)))) r = RO r k wd n m := by rw [hu_n _ _ (by omega), hu_n _ _ (by omega), hu_n _ _ (by omega), hu_s]
      have hmod : i % n < n := Nat.mod_lt _ hn0
      have hdm := Nat.div_add_mod i n
      refine v_iincN C (oX6_resize.at 44 rfl) rfl ?_
      refine v_iload_n C (oX6_resize.at 45 rfl) rfl ?_
      refine v_aload_n C (oX6_resize.at 46 rfl) rfl ?_
      refine v_getf C (oX6_resize.at 47 rfl) fX6_40 hr2 rfl ?_
      dsimp only [sto1, sto2, killL]
      refine v_icmp_neN C (oX6_resize.at 48 rfl) (tgt := 89) (by decide) (by omega) (by omega) (fun hc => ?_) (fun hc => ?_)
      · refine v_iincN C (oX6_resize.at 52 rfl) rfl ?_
        refine v_goto C (oX6_resize.at 53 rfl) (tgt := 39) (by decide) ?_
        dsimp only [sto1, sto2, killL]
        have e1 : (i + 1) % n = i % n + 1 := by
          rw [Nat.add_mod, Nat.mod_eq_of_lt (a := 1) (by omega), Nat.mod_eq_of_lt (by omega)]
        have e2 : (i + 1) / n = i / n := by
          have := Nat.div_add_mod (i + 1) n
          rw [e1] at this
          have h3 : n * ((i + 1) / n) = n * (i / n) := by omega
          exact Nat.eq_of_mul_eq_mul_left hn0 h3
        have := ih (i + 1) (by omega)
        rw [e1, e2] at this
        exact this
      · refine v_iconst C (oX6_resize.at 49 rfl) (v := nI 0) rfl ?_
        refine v_istore_n C (oX6_resize.at 50 rfl) rfl ?_
        refine v_iincN C (oX6_resize.at 51 rfl) rfl ?_
        refine v_iincN C (oX6_resize.at 52 rfl) rfl ?_
        refine v_goto C (oX6_resize.at 53 rfl) (tgt := 39) (by decide) ?_
        dsimp only [sto1, sto2, killL]
        have e0 : i + 1 = n * (i / n + 1) := by rw [Nat.mul_add]; omega
        have e1 : (i + 1) % n = 0 := by rw [e0]; exact Nat.mul_mod_right _ _
        have e2 : (i + 1) / n = i / n + 1 := by
          conv => lhs; rw [e0]
          exact Nat.mul_div_cancel_left _ hn0
        have := ih (i + 1) (by omega)
        rw [e1, e2] at this
        exact this
