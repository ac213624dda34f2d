/-! ===== Rule: tables ===== -/
theorem k_takeTable {w : Wt} {h : Hp} {r k wd n m q : Nat} {f g : Nat → Int32} (hr : h r = RO r k wd n m) (hm : m ≤ 27) (ht : h (r + 1) = io 27 f) (hq : h q = io 27 g) (hqr : q ≠ r + 1) : ConN mX6_takeTable 0 (0, 0) w [.ref r, .ref q] h (.inl (some (.int (nI (cnt (fun i => decide (f i ≠ g i)) m))))) (fun h' => h' = hu h (r + 1) (io 27 (mix f g m))) := by
  refine conI (by decide +kernel) ⟨fun _ => rfl, rfl, by simp⟩ (fun X C => ?_)
  change V X (0, 0) w h 0 [some (.ref r), some (.ref q), none, none] []
  refine v_iconst C (oX6_takeTable.at 0 rfl) (v := nI 0) rfl ?_
  refine v_istore_n C (oX6_takeTable.at 1 rfl) rfl ?_
  refine v_iconst C (oX6_takeTable.at 2 rfl) (v := nI 0) rfl ?_
  refine v_istore_n C (oX6_takeTable.at 3 rfl) rfl ?_
  dsimp only [sto1, sto2, killL]
  suffices H : ∀ j i, i + j = m → V X (0, 0) w (hu h (r + 1) (io 27 (mix f g i))) 4 [some (.ref r), some (.ref q), some (.int (nI (cnt (fun i => decide (f i ≠ g i)) i))), some (.int (nI i))] [] by
    have := H m 0 (by omega)
    rw [mix_0, hu_id h ht] at this
    exact this
  intro j
  induction j with
  | zero =>
    intro i hi
    refine v_iload_n C (oX6_takeTable.at 4 rfl) rfl ?_
    refine v_aload_n C (oX6_takeTable.at 5 rfl) rfl ?_
    refine v_getf C (oX6_takeTable.at 6 rfl) fX6_43 ((hu_n _ _ (by omega)).trans hr) rfl ?_
    refine v_icmp_geN C (oX6_takeTable.at 7 rfl) (tgt := 47) (by decide) (by omega) (by omega) (fun hc => ?_) (fun hc => ?_)
    · have e : i = m := by omega
      subst e
      refine v_iload_n C (oX6_takeTable.at 31 rfl) rfl ?_
      exact v_iret C (oX6_takeTable.at 32 rfl) rfl rfl ⟨Nat.le_refl _, Nat.le_refl _⟩ ⟨rfl, rfl⟩
    · exact absurd hc (by omega)
  | succ j ih =>
    intro i hi
    refine v_iload_n C (oX6_takeTable.at 4 rfl) rfl ?_
    refine v_aload_n C (oX6_takeTable.at 5 rfl) rfl ?_
    refine v_getf C (oX6_takeTable.at 6 rfl) fX6_43 ((hu_n _ _ (by omega)).trans hr) rfl ?_
    refine v_icmp_geN C (oX6_takeTable.at 7 rfl) (tgt := 47) (by decide) (by omega) (by omega) (fun hc => ?_) (fun hc => ?_)
    · exact absurd hc (by omega)
    · have key : ∀ c : Nat, c = (if decide (f i ≠ g i) then 1 else 0) → V X (0, 0) w (hu h (r + 1) (io 27 (mix f g i))) 30 [some (.ref r), some (.ref q), some (.int (nI (cnt (fun i => decide (f i ≠ g i)) i))), some (.int (nI i))] [.int (nI c), .int (nI (cnt (fun i => decide (f i ≠ g i)) i))] := by
        intro c hcc
        refine v_iaddN C (oX6_takeTable.at 20 rfl) ?_
        refine v_istore_n C (oX6_takeTable.at 21 rfl) rfl ?_
        refine v_aload_n C (oX6_takeTable.at 22 rfl) rfl ?_
        refine v_getf C (oX6_takeTable.at 23 rfl) fX6_9 ((hu_n _ _ (by omega)).trans hr) rfl ?_
        refine v_iload_n C (oX6_takeTable.at 24 rfl) rfl ?_
        refine v_aload_n C (oX6_takeTable.at 25 rfl) rfl ?_
        refine v_iload_n C (oX6_takeTable.at 26 rfl) rfl ?_
        refine v_iald C (oX6_takeTable.at 27 rfl) ((hu_n _ _ hqr).trans hq) (by decide) rfl (by omega) rfl ?_
        dsimp only [sto1, sto2, killL]
        refine v_iast C (oX6_takeTable.at 28 rfl) (hu_s _ _ _) (by decide) rfl (by omega) ?_
        rw [hu_hu, mix_s _ _ _ _ rfl]
        refine v_iincN C (oX6_takeTable.at 29 rfl) rfl ?_
        refine v_goto C (oX6_takeTable.at 30 rfl) (tgt := 4) (by decide) ?_
        dsimp only [sto1, sto2, killL]
        have := ih (i + 1) (by omega)
        rw [hcc]
        exact this
      refine v_iload_n C (oX6_takeTable.at 8 rfl) rfl ?_
      refine v_aload_n C (oX6_takeTable.at 9 rfl) rfl ?_
      refine v_getf C (oX6_takeTable.at 10 rfl) fX6_9 ((hu_n _ _ (by omega)).trans hr) rfl ?_
      refine v_iload_n C (oX6_takeTable.at 11 rfl) rfl ?_
      refine v_iald C (oX6_takeTable.at 12 rfl) (hu_s _ _ _) (by decide) rfl (by omega) (mix_ge (by omega)) ?_
      refine v_aload_n C (oX6_takeTable.at 13 rfl) rfl ?_
      refine v_iload_n C (oX6_takeTable.at 14 rfl) rfl ?_
      refine v_iald C (oX6_takeTable.at 15 rfl) ((hu_n _ _ hqr).trans hq) (by decide) rfl (by omega) rfl ?_
      refine v_icmp_ne C (oX6_takeTable.at 16 rfl) (tgt := 29) (by decide) (fun hc => ?_) (fun hc => ?_)
      · refine v_iconst C (oX6_takeTable.at 19 rfl) (v := nI 1) rfl ?_
        exact key 1 (by simp [hc])
      · refine v_iconst C (oX6_takeTable.at 17 rfl) (v := nI 0) rfl ?_
        refine v_goto C (oX6_takeTable.at 18 rfl) (tgt := 30) (by decide) ?_
        exact key 0 (by simp [hc])
def hor (k : Nat) (T : Nat → Nat) : Nat → Nat → Nat
  | _, 0 => 0
  | i, j + 1 => hor k T (i + 1) j * k + T i
theorem k_numberOf {w : Wt} {h : Hp} {r k wd n m q : Nat} {f : Nat → Int32} {T : Nat → Nat} (hr : h r = RO r k wd n m) (hk : k ≤ 3) (hm : m ≤ 27) (hq : h q = io 27 f) (hT : ∀ i, i < m → f i = nI (T i) ∧ T i < 3) : ConN mX6_numberOf 0 (0, 0) w [.ref r, .ref q] h (.inl (some (.long (lN (hor k T 0 m))))) (fun h' => h' = h) := by
  refine conI (by decide +kernel) ⟨fun _ => rfl, rfl, by simp⟩ (fun X C => ?_)
  change V X (0, 0) w h 0 [some (.ref r), some (.ref q), none, none, none] []
  refine v_lconst C (oX6_numberOf.at 0 rfl) (v := lN 0) rfl ?_
  refine v_lstore_n C (oX6_numberOf.at 1 rfl) rfl ?_
  refine v_aload_n C (oX6_numberOf.at 2 rfl) rfl ?_
  refine v_getf C (oX6_numberOf.at 3 rfl) fX6_43 hr rfl ?_
  refine v_iconst C (oX6_numberOf.at 4 rfl) (v := nI 1) rfl ?_
  refine v_isubP C (oX6_numberOf.at 5 rfl) ?_
  refine v_istore C (oX6_numberOf.at 6 rfl) rfl ?_
  dsimp only [sto1, sto2, killL]
  suffices H : ∀ a, a ≤ m → V X (0, 0) w h 10 [some (.ref r), some (.ref q), some (.long (lN (hor k T a (m - a)))), none, some (.int (pI a))] [] by
    have := H m (Nat.le_refl _)
    rw [Nat.sub_self] at this
    exact this
  intro a
  induction a with
  | zero =>
    intro ha
    refine v_iload C (oX6_numberOf.at 7 rfl) rfl ?_
    refine v_if_ltP C (oX6_numberOf.at 8 rfl) (tgt := 35) (by decide) (by omega) (fun hc => ?_) (fun b hc => ?_)
    · refine v_lload_n C (oX6_numberOf.at 22 rfl) rfl ?_
      exact v_lret C (oX6_numberOf.at 23 rfl) rfl rfl ⟨Nat.le_refl _, Nat.le_refl _⟩ ⟨rfl, rfl⟩
    · cases hc
  | succ a ih =>
    intro ha
    refine v_iload C (oX6_numberOf.at 7 rfl) rfl ?_
    refine v_if_ltP C (oX6_numberOf.at 8 rfl) (tgt := 35) (by decide) (by omega) (fun hc => ?_) (fun b hc => ?_)
    · cases hc
    · cases hc
      rw [pI_succ]
      have hTa := (hT a (by omega)).2
      refine v_lload_n C (oX6_numberOf.at 9 rfl) rfl ?_
      refine v_aload_n C (oX6_numberOf.at 10 rfl) rfl ?_
      refine v_getf C (oX6_numberOf.at 11 rfl) fX6_29 hr rfl ?_
      refine v_i2lN C (oX6_numberOf.at 12 rfl) (by omega) ?_
      refine v_lmulN C (oX6_numberOf.at 13 rfl) ?_
      refine v_aload_n C (oX6_numberOf.at 14 rfl) rfl ?_
      refine v_iload C (oX6_numberOf.at 15 rfl) rfl ?_
      refine v_iald C (oX6_numberOf.at 16 rfl) hq (by decide) rfl (by omega) (hT _ (by omega)).1 ?_
      refine v_i2lN C (oX6_numberOf.at 17 rfl) (by omega) ?_
      refine v_laddN C (oX6_numberOf.at 18 rfl) ?_
      refine v_lstore_n C (oX6_numberOf.at 19 rfl) rfl ?_
      refine v_idecP C (oX6_numberOf.at 20 rfl) rfl ?_
      refine v_goto C (oX6_numberOf.at 21 rfl) (tgt := 10) (by decide) ?_
      dsimp only [sto1, sto2, killL]
      have := ih (by omega)
      rw [show m - a = (m - (a + 1)) + 1 by omega] at this
      exact this
theorem k_complementTable {w : Wt} {h : Hp} {r k wd n m q p : Nat} {f g : Nat → Int32} {T : Nat → Nat} (hr : h r = RO r k wd n m) (hk1 : 0 < k) (hk : k ≤ 3) (hm : m ≤ 27) (hq : h q = io 27 f) (hp : h p = io 27 g) (hqp : q ≠ p) (hpr : p ≠ r) (hT : ∀ i, i < m → f i = nI (T i) ∧ T i < k) : ConN mX6_complementTable 0 (0, 0) w [.ref r, .ref q, .ref p] h (.inl none) (fun h' => h' = hu h p (io 27 (mix g (fun i => nI (k - 1 - T (m - 1 - i))) m))) := by
  refine conI (by decide +kernel) ⟨fun _ => rfl, rfl, by simp⟩ (fun X C => ?_)
  change V X (0, 0) w h 0 [some (.ref r), some (.ref q), some (.ref p), none] []
  refine v_iconst C (oX6_complementTable.at 0 rfl) (v := nI 0) rfl ?_
  refine v_istore_n C (oX6_complementTable.at 1 rfl) rfl ?_
  dsimp only [sto1, sto2, killL]
  suffices H : ∀ j i, i + j = m → V X (0, 0) w (hu h p (io 27 (mix g (fun i => nI (k - 1 - T (m - 1 - i))) i))) 2 [some (.ref r), some (.ref q), some (.ref p), some (.int (nI i))] [] by
    have := H m 0 (by omega)
    rw [mix_0, hu_id h hp] at this
    exact this
  intro j
  induction j with
  | zero =>
    intro i hi
    refine v_iload_n C (oX6_complementTable.at 2 rfl) rfl ?_
    refine v_aload_n C (oX6_complementTable.at 3 rfl) rfl ?_
    refine v_getf C (oX6_complementTable.at 4 rfl) fX6_43 ((hu_n _ _ (Ne.symm hpr)).trans hr) rfl ?_
    refine v_icmp_geN C (oX6_complementTable.at 5 rfl) (tgt := 36) (by decide) (by omega) (by omega) (fun hc => ?_) (fun hc => ?_)
    · have e : i = m := by omega
      subst e
      exact v_vret C (oX6_complementTable.at 24 rfl) rfl rfl ⟨Nat.le_refl _, Nat.le_refl _⟩ ⟨rfl, rfl⟩
    · exact absurd hc (by omega)
  | succ j ih =>
    intro i hi
    have hTi := (hT (m - 1 - i) (by omega)).2
    refine v_iload_n C (oX6_complementTable.at 2 rfl) rfl ?_
    refine v_aload_n C (oX6_complementTable.at 3 rfl) rfl ?_
    refine v_getf C (oX6_complementTable.at 4 rfl) fX6_43 ((hu_n _ _ (Ne.symm hpr)).trans hr) rfl ?_
    refine v_icmp_geN C (oX6_complementTable.at 5 rfl) (tgt := 36) (by decide) (by omega) (by omega) (fun hc => ?_) (fun hc => ?_)
    · exact absurd hc (by omega)
    · refine v_aload_n C (oX6_complementTable.at 6 rfl) rfl ?_
      refine v_iload_n C (oX6_complementTable.at 7 rfl) rfl ?_
      refine v_aload_n C (oX6_complementTable.at 8 rfl) rfl ?_
      refine v_getf C (oX6_complementTable.at 9 rfl) fX6_29 ((hu_n _ _ (Ne.symm hpr)).trans hr) rfl ?_
      refine v_iconst C (oX6_complementTable.at 10 rfl) (v := nI 1) rfl ?_
      refine v_isubN C (oX6_complementTable.at 11 rfl) (by omega) ?_
      refine v_aload_n C (oX6_complementTable.at 12 rfl) rfl ?_
      refine v_aload_n C (oX6_complementTable.at 13 rfl) rfl ?_
      refine v_getf C (oX6_complementTable.at 14 rfl) fX6_43 ((hu_n _ _ (Ne.symm hpr)).trans hr) rfl ?_
      refine v_iconst C (oX6_complementTable.at 15 rfl) (v := nI 1) rfl ?_
      refine v_isubN C (oX6_complementTable.at 16 rfl) (by omega) ?_
      refine v_iload_n C (oX6_complementTable.at 17 rfl) rfl ?_
      refine v_isubN C (oX6_complementTable.at 18 rfl) (by omega) ?_
      refine v_iald C (oX6_complementTable.at 19 rfl) ((hu_n _ _ hqp).trans hq) (by decide) rfl (by omega) (hT _ (by omega)).1 ?_
      refine v_isubN C (oX6_complementTable.at 20 rfl) (by omega) ?_
      refine v_iast C (oX6_complementTable.at 21 rfl) (hu_s _ _ _) (by decide) rfl (by omega) ?_
      rw [hu_hu, mix_s _ _ _ _ rfl]
      refine v_iincN C (oX6_complementTable.at 22 rfl) rfl ?_
      refine v_goto C (oX6_complementTable.at 23 rfl) (tgt := 2) (by decide) ?_
      dsimp only [sto1, sto2, killL]
      exact ih (i + 1) (by omega)
/-- the number of the word turned round -/
def rvw (k x : Nat) : Nat → Nat
  | 0 => 0
  | t + 1 => rvw k x t * k + x / k ^ t % k
theorem rvw_lt {k : Nat} (hk : 0 < k) (x : Nat) : ∀ t, rvw k x t < k ^ t
  | 0 => by simp [rvw]
  | t + 1 => by
    have h1 := rvw_lt hk x t
    have h2 := Nat.mod_lt (x / k ^ t) hk
    have h3 : (rvw k x t + 1) * k ≤ k ^ t * k := Nat.mul_le_mul_right k h1
    rw [Nat.pow_succ, rvw]
    rw [Nat.add_mul, Nat.one_mul] at h3
    omega
theorem k_mirrorTable {w : Wt} {h : Hp} {r k wd n m q p : Nat} {f g e : Nat → Int32} (hr : h r = RO r k wd n m) (hk : k = 2 ∨ k = 3) (hw : wd ≤ 4) (hm : m = k ^ wd) (hm27 : m ≤ 27) (hq : h q = io 27 f) (hp : h p = io 27 g) (he : h (r + 4) = io 4 e) (hqp : q ≠ p) (hpr : p ≠ r) (hpe : p ≠ r + 4) (hqe : q ≠ r + 4) : ConN mX6_mirrorTable 2 (0, 0) w [.ref r, .ref q, .ref p] h (.inl none) (fun h' => ∃ e', h' = hu (hu h (r + 4) (io 4 e')) p (io 27 (mix g (fun i => f (rvw k i wd)) m))) := by
  refine conI (by decide +kernel) ⟨fun _ => rfl, rfl, by simp⟩ (fun X C => ?_)
  change V X (0, 0) w h 0 [some (.ref r), some (.ref q), some (.ref p), none, none, none] []
  refine v_iconst C (oX6_mirrorTable.at 0 rfl) (v := nI 0) rfl ?_
  refine v_istore_n C (oX6_mirrorTable.at 1 rfl) rfl ?_
  dsimp only [sto1, sto2, killL]
  suffices H : ∀ j i e' l4 l5, i + j = m → V X (0, 0) w (hu (hu h (r + 4) (io 4 e')) p (io 27 (mix g (fun i => f (rvw k i wd)) i))) 2 [some (.ref r), some (.ref q), some (.ref p), some (.int (nI i)), l4, l5] [] by
    have := H m 0 e none none (by omega)
    rw [mix_0, hu_id h he, hu_id h hp] at this
    exact this
  intro j
  have hk0 : 0 < k := by omega
  induction j with
  | zero =>
    intro i e' l4 l5 hi
    have hr1 : (hu (hu h (r + 4) (io 4 e')) p (io 27 (mix g (fun i => f (rvw k i wd)) i))) r = RO r k wd n m := by rw [hu_n _ _ (Ne.symm hpr), hu_n _ _ (by omega)]; exact hr
    refine v_iload_n C (oX6_mirrorTable.at 2 rfl) rfl ?_
    refine v_aload_n C (oX6_mirrorTable.at 3 rfl) rfl ?_
    refine v_getf C (oX6_mirrorTable.at 4 rfl) fX6_43 hr1 rfl ?_
    refine v_icmp_geN C (oX6_mirrorTable.at 5 rfl) (tgt := 75) (by decide) (by omega) (by omega) (fun hc => ?_) (fun hc => ?_)
    · have e1 : i = m := by omega
      subst e1
      exact v_vret C (oX6_mirrorTable.at 42 rfl) rfl rfl ⟨Nat.le_refl _, Nat.le_refl _⟩ ⟨rfl, e', rfl⟩
    · exact absurd hc (by omega)
  | succ j ih =>
    intro i e' l4 l5 hi
    have hr1 : (hu (hu h (r + 4) (io 4 e')) p (io 27 (mix g (fun i => f (rvw k i wd)) i))) r = RO r k wd n m := by rw [hu_n _ _ (Ne.symm hpr), hu_n _ _ (by omega)]; exact hr
    refine v_iload_n C (oX6_mirrorTable.at 2 rfl) rfl ?_
    refine v_aload_n C (oX6_mirrorTable.at 3 rfl) rfl ?_
    refine v_getf C (oX6_mirrorTable.at 4 rfl) fX6_43 hr1 rfl ?_
    refine v_icmp_geN C (oX6_mirrorTable.at 5 rfl) (tgt := 75) (by decide) (by omega) (by omega) (fun hc => ?_) (fun hc => ?_)
    · exact absurd hc (by omega)
    · have h4 : (hu (hu h (r + 4) (io 4 e')) p (io 27 (mix g (fun i => f (rvw k i wd)) i))) (r + 4) = io 4 e' := by rw [hu_n _ _ (Ne.symm hpe), hu_s]
      refine v_aload_n C (oX6_mirrorTable.at 6 rfl) rfl ?_
      refine v_iload_n C (oX6_mirrorTable.at 7 rfl) rfl ?_
      refine v_aload_n C (oX6_mirrorTable.at 8 rfl) rfl ?_
      refine v_getf C (oX6_mirrorTable.at 9 rfl) fX6_33 hr1 rfl ?_
      refine v_aload_n C (oX6_mirrorTable.at 10 rfl) rfl ?_
      refine v_getf C (oX6_mirrorTable.at 11 rfl) fX6_19 hr1 rfl ?_
      refine v_callV C (oX6_mirrorTable.at 12 rfl) cX6_62 hr1 (k_spreadWord hr1 hk (by omega) hw (by decide) h4 (by omega)) rfl rfl rfl ⟨rfl, rfl⟩ rfl rfl (fun _ => rfl) (fun h' hp => ?_)
      rw [show h' = _ from hp]
      dsimp only [Option.toList, List.cons_append, List.nil_append]
      rw [show hu (hu (hu h (r + 4) (io 4 e')) p (io 27 (mix g (fun i => f (rvw k i wd)) i))) (r + 4) (io 4 (spw k wd i e' 0)) = hu (hu h (r + 4) (io 4 (spw k wd i e' 0))) p (io 27 (mix g (fun i => f (rvw k i wd)) i)) by
        funext j; simp only [hu]; split <;> split <;> first | rfl | omega]
      have hr1 : (hu (hu h (r + 4) (io 4 (spw k wd i e' 0))) p (io 27 (mix g (fun i => f (rvw k i wd)) i))) r = RO r k wd n m := by rw [hu_n _ _ (Ne.symm hpr), hu_n _ _ (by omega)]; exact hr
      have h4 : (hu (hu h (r + 4) (io 4 (spw k wd i e' 0))) p (io 27 (mix g (fun i => f (rvw k i wd)) i))) (r + 4) = io 4 (spw k wd i e' 0) := by rw [hu_n _ _ (Ne.symm hpe), hu_s]
      have h2 : (hu (hu h (r + 4) (io 4 (spw k wd i e' 0))) p (io 27 (mix g (fun i => f (rvw k i wd)) i))) q = io 27 f := by rw [hu_n _ _ hqp, hu_n _ _ hqe]; exact hq
      refine v_iconst C (oX6_mirrorTable.at 13 rfl) (v := nI 0) rfl ?_
      refine v_istore C (oX6_mirrorTable.at 14 rfl) rfl ?_
      refine v_aload_n C (oX6_mirrorTable.at 15 rfl) rfl ?_
      refine v_getf C (oX6_mirrorTable.at 16 rfl) fX6_33 hr1 rfl ?_
      refine v_iconst C (oX6_mirrorTable.at 17 rfl) (v := nI 1) rfl ?_
      refine v_isubP C (oX6_mirrorTable.at 18 rfl) ?_
      refine v_istore C (oX6_mirrorTable.at 19 rfl) rfl ?_
      dsimp only [sto1, sto2, killL]
      have inner : ∀ a t, t + a = wd → V X (0, 0) w (hu (hu h (r + 4) (io 4 (spw k wd i e' 0))) p (io 27 (mix g (fun i => f (rvw k i wd)) i))) 34 [some (.ref r), some (.ref q), some (.ref p), some (.int (nI i)), some (.int (nI (rvw k i t))), some (.int (pI a))] [] := by
        intro a
        induction a with
        | zero =>
          intro t ht
          have e1 : t = wd := by omega
          subst e1
          have rl := rvw_lt hk0 i t
          rw [← hm] at rl
          have h3 := hu_s (hu h (r + 4) (io 4 (spw k t i e' 0))) p (io 27 (mix g (fun i => f (rvw k i t)) i))
          refine v_iload C (oX6_mirrorTable.at 20 rfl) rfl ?_
          refine v_if_ltP C (oX6_mirrorTable.at 21 rfl) (tgt := 62) (by decide) (by omega) (fun hc => ?_) (fun b hc => ?_)
          · refine v_aload_n C (oX6_mirrorTable.at 34 rfl) rfl ?_
            refine v_iload_n C (oX6_mirrorTable.at 35 rfl) rfl ?_
            refine v_aload_n C (oX6_mirrorTable.at 36 rfl) rfl ?_
            refine v_iload C (oX6_mirrorTable.at 37 rfl) rfl ?_
            refine v_iald C (oX6_mirrorTable.at 38 rfl) h2 (by decide) rfl (Nat.lt_of_lt_of_le rl hm27) rfl ?_
            refine v_iast C (oX6_mirrorTable.at 39 rfl) h3 (by decide) rfl (by omega) ?_
            rw [hu_hu, mix_s _ _ _ _ rfl]
            refine v_iincN C (oX6_mirrorTable.at 40 rfl) rfl ?_
            refine v_goto C (oX6_mirrorTable.at 41 rfl) (tgt := 2) (by decide) ?_
            dsimp only [sto1, sto2, killL]
            exact ih (i + 1) _ _ _ (by omega)
          · cases hc
        | succ a iha =>
          intro t ht
          refine v_iload C (oX6_mirrorTable.at 20 rfl) rfl ?_
          refine v_if_ltP C (oX6_mirrorTable.at 21 rfl) (tgt := 62) (by decide) (by omega) (fun hc => ?_) (fun b hc => ?_)
          · cases hc
          · cases hc
            rw [pI_succ]
            have hv : spw k wd i e' 0 a = nI (i / k ^ t % k) := by
              unfold spw cel; rw [if_pos (by omega)]; congr 4; omega
            refine v_iload C (oX6_mirrorTable.at 22 rfl) rfl ?_
            refine v_aload_n C (oX6_mirrorTable.at 23 rfl) rfl ?_
            refine v_getf C (oX6_mirrorTable.at 24 rfl) fX6_29 hr1 rfl ?_
            refine v_imulN C (oX6_mirrorTable.at 25 rfl) ?_
            refine v_aload_n C (oX6_mirrorTable.at 26 rfl) rfl ?_
            refine v_getf C (oX6_mirrorTable.at 27 rfl) fX6_19 hr1 rfl ?_
            refine v_iload C (oX6_mirrorTable.at 28 rfl) rfl ?_
            refine v_iald C (oX6_mirrorTable.at 29 rfl) h4 (by decide) rfl (by omega) hv ?_
            refine v_iaddN C (oX6_mirrorTable.at 30 rfl) ?_
            refine v_istore C (oX6_mirrorTable.at 31 rfl) rfl ?_
            refine v_idecP C (oX6_mirrorTable.at 32 rfl) rfl ?_
            refine v_goto C (oX6_mirrorTable.at 33 rfl) (tgt := 34) (by decide) ?_
            dsimp only [sto1, sto2, killL]
            exact iha (t + 1) (by omega)
      exact inner wd 0 (by omega)
