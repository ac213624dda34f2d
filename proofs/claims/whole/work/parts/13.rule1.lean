/-! ===== Rule: words ===== -/
abbrev RO (r k wd n m : Nat) : PE := ob 6 [.int (nI k), .int (nI wd), .int (nI n), .int (nI m), .ref (r + 1), .ref (r + 2), .ref (r + 3), .ref (r + 4), .ref (r + 5)]
theorem k_countOfWords {w : Wt} {h : Hp} {r k wd n m len : Nat} (hr : h r = RO r k wd n m) (hl : len < 2 ^ 31) : ConN mX6_countOfWords 0 (0, 0) w [.ref r, .int (nI len)] h (.inl (some (.int (nI (k ^ len))))) (fun h' => h' = h) := by
  refine conI (by decide +kernel) ⟨fun _ => rfl, rfl, by simp⟩ (fun X C => ?_)
  change V X (0, 0) w h 0 [some (.ref r), some (.int (nI len)), none, none] []
  refine v_iconst C (oX6_countOfWords.at 0 rfl) (v := nI 1) rfl ?_
  refine v_istore_n C (oX6_countOfWords.at 1 rfl) rfl ?_
  refine v_iconst C (oX6_countOfWords.at 2 rfl) (v := nI 0) rfl ?_
  refine v_istore_n C (oX6_countOfWords.at 3 rfl) rfl ?_
  dsimp only [sto1, sto2, killL]
  suffices H : ∀ j i, i + j = len → V X (0, 0) w h 4 [some (.ref r), some (.int (nI len)), some (.int (nI (k ^ i))), some (.int (nI i))] [] from H len 0 (by omega)
  intro j
  induction j with
  | zero =>
    intro i hi
    refine v_iload_n C (oX6_countOfWords.at 4 rfl) rfl ?_
    refine v_iload_n C (oX6_countOfWords.at 5 rfl) rfl ?_
    refine v_icmp_geN C (oX6_countOfWords.at 6 rfl) (tgt := 22) (by decide) (by omega) (by omega) (fun hc => ?_) (fun hc => ?_)
    · have e : i = len := by omega
      subst e
      refine v_iload_n C (oX6_countOfWords.at 14 rfl) rfl ?_
      exact v_iret C (oX6_countOfWords.at 15 rfl) rfl rfl ⟨Nat.le_refl _, Nat.le_refl _⟩ ⟨rfl, rfl⟩
    · exact absurd hc (by omega)
  | succ j ih =>
    intro i hi
    refine v_iload_n C (oX6_countOfWords.at 4 rfl) rfl ?_
    refine v_iload_n C (oX6_countOfWords.at 5 rfl) rfl ?_
    refine v_icmp_geN C (oX6_countOfWords.at 6 rfl) (tgt := 22) (by decide) (by omega) (by omega) (fun hc => ?_) (fun hc => ?_)
    · exact absurd hc (by omega)
    · refine v_iload_n C (oX6_countOfWords.at 7 rfl) rfl ?_
      refine v_aload_n C (oX6_countOfWords.at 8 rfl) rfl ?_
      refine v_getf C (oX6_countOfWords.at 9 rfl) fX6_29 hr rfl ?_
      refine v_imulN C (oX6_countOfWords.at 10 rfl) ?_
      refine v_istore_n C (oX6_countOfWords.at 11 rfl) rfl ?_
      refine v_iincN C (oX6_countOfWords.at 12 rfl) rfl ?_
      refine v_goto C (oX6_countOfWords.at 13 rfl) (tgt := 4) (by decide) ?_
      dsimp only [sto1, sto2, killL]
      rw [← Nat.pow_succ]
      exact ih (i + 1) (by omega)
theorem k_lastCell {w : Wt} {h : Hp} {r k wd n m x : Nat} (hr : h r = RO r k wd n m) (hk : k = 2 ∨ k = 3) (hx : x < 2 ^ 31) : ConN mX6_lastCell 0 (0, 0) w [.ref r, .int (nI x)] h (.inl (some (.int (nI (x % k))))) (fun h' => h' = h) := by
  refine conI (by decide +kernel) ⟨fun _ => rfl, rfl, by simp⟩ (fun X C => ?_)
  change V X (0, 0) w h 0 [some (.ref r), some (.int (nI x))] []
  refine v_aload_n C (oX6_lastCell.at 0 rfl) rfl ?_
  refine v_getf C (oX6_lastCell.at 1 rfl) fX6_29 hr rfl ?_
  refine v_iconst C (oX6_lastCell.at 2 rfl) (v := nI 2) rfl ?_
  refine v_icmp_neN C (oX6_lastCell.at 3 rfl) (tgt := 14) (by decide) (by omega) (by omega) (fun hc => ?_) (fun hc => ?_)
  · have e : k = 3 := by omega
    subst e
    refine v_iload_n C (oX6_lastCell.at 8 rfl) rfl ?_
    refine v_iconst C (oX6_lastCell.at 9 rfl) (v := nI 3) rfl ?_
    refine v_iremN C (oX6_lastCell.at 10 rfl) (by omega) (by omega) (by omega) ?_
    exact v_iret C (oX6_lastCell.at 11 rfl) rfl rfl ⟨Nat.le_refl _, Nat.le_refl _⟩ ⟨rfl, rfl⟩
  · subst hc
    refine v_iload_n C (oX6_lastCell.at 4 rfl) rfl ?_
    refine v_iconst C (oX6_lastCell.at 5 rfl) (v := nI 2) rfl ?_
    refine v_iremN C (oX6_lastCell.at 6 rfl) (by omega) (by omega) (by omega) ?_
    refine v_goto C (oX6_lastCell.at 7 rfl) (tgt := 17) (by decide) ?_
    exact v_iret C (oX6_lastCell.at 11 rfl) rfl rfl ⟨Nat.le_refl _, Nat.le_refl _⟩ ⟨rfl, rfl⟩
theorem k_withoutLastCell {w : Wt} {h : Hp} {r k wd n m x : Nat} (hr : h r = RO r k wd n m) (hk : k = 2 ∨ k = 3) (hx : x < 2 ^ 31) : ConN mX6_withoutLastCell 0 (0, 0) w [.ref r, .int (nI x)] h (.inl (some (.int (nI (x / k))))) (fun h' => h' = h) := by
  refine conI (by decide +kernel) ⟨fun _ => rfl, rfl, by simp⟩ (fun X C => ?_)
  change V X (0, 0) w h 0 [some (.ref r), some (.int (nI x))] []
  refine v_aload_n C (oX6_withoutLastCell.at 0 rfl) rfl ?_
  refine v_getf C (oX6_withoutLastCell.at 1 rfl) fX6_29 hr rfl ?_
  refine v_iconst C (oX6_withoutLastCell.at 2 rfl) (v := nI 2) rfl ?_
  refine v_icmp_neN C (oX6_withoutLastCell.at 3 rfl) (tgt := 14) (by decide) (by omega) (by omega) (fun hc => ?_) (fun hc => ?_)
  · have e : k = 3 := by omega
    subst e
    refine v_iload_n C (oX6_withoutLastCell.at 8 rfl) rfl ?_
    refine v_iconst C (oX6_withoutLastCell.at 9 rfl) (v := nI 3) rfl ?_
    refine v_idivN C (oX6_withoutLastCell.at 10 rfl) (by omega) (by omega) (by omega) ?_
    exact v_iret C (oX6_withoutLastCell.at 11 rfl) rfl rfl ⟨Nat.le_refl _, Nat.le_refl _⟩ ⟨rfl, rfl⟩
  · subst hc
    refine v_iload_n C (oX6_withoutLastCell.at 4 rfl) rfl ?_
    refine v_iconst C (oX6_withoutLastCell.at 5 rfl) (v := nI 2) rfl ?_
    refine v_idivN C (oX6_withoutLastCell.at 6 rfl) (by omega) (by omega) (by omega) ?_
    refine v_goto C (oX6_withoutLastCell.at 7 rfl) (tgt := 17) (by decide) ?_
    exact v_iret C (oX6_withoutLastCell.at 11 rfl) rfl rfl ⟨Nat.le_refl _, Nat.le_refl _⟩ ⟨rfl, rfl⟩
theorem ndiv_lt {x y b : Nat} (h : x < b) : x / y < b := Nat.lt_of_le_of_lt (Nat.div_le_self _ _) h
theorem ndiv_s (x k j : Nat) : x / k ^ j / k = x / k ^ (j + 1) := by rw [Nat.div_div_eq_div_mul, Nat.pow_succ]
theorem k_cellOf {w : Wt} {h : Hp} {r k wd n m x len c : Nat} (hr : h r = RO r k wd n m) (hk : k = 2 ∨ k = 3) (hx : x < 2 ^ 31) (hl : len < 2 ^ 31) (hcl : c < len) : ConN mX6_cellOf 1 (0, 0) w [.ref r, .int (nI x), .int (nI len), .int (nI c)] h (.inl (some (.int (nI (x / k ^ (len - 1 - c) % k))))) (fun h' => h' = h) := by
  refine conI (by decide +kernel) ⟨fun _ => rfl, rfl, by simp⟩ (fun X C => ?_)
  change V X (0, 0) w h 0 [some (.ref r), some (.int (nI x)), some (.int (nI len)), some (.int (nI c)), none, none] []
  refine v_iload_n C (oX6_cellOf.at 0 rfl) rfl ?_
  refine v_istore C (oX6_cellOf.at 1 rfl) rfl ?_
  refine v_iload_n C (oX6_cellOf.at 2 rfl) rfl ?_
  refine v_iconst C (oX6_cellOf.at 3 rfl) (v := nI 1) rfl ?_
  refine v_isubN C (oX6_cellOf.at 4 rfl) (by omega) ?_
  refine v_istore C (oX6_cellOf.at 5 rfl) rfl ?_
  dsimp only [sto1, sto2, killL]
  suffices H : ∀ i j, j + i = len - 1 → c ≤ i → V X (0, 0) w h 8 [some (.ref r), some (.int (nI x)), some (.int (nI len)), some (.int (nI c)), some (.int (nI (x / k ^ j))), some (.int (nI i))] [] by
    have := H (len - 1) 0 (by omega) (by omega)
    simpa using this
  intro i
  induction i with
  | zero =>
    intro j hj hci
    refine v_iload C (oX6_cellOf.at 6 rfl) rfl ?_
    refine v_iload_n C (oX6_cellOf.at 7 rfl) rfl ?_
    refine v_icmp_leN C (oX6_cellOf.at 8 rfl) (tgt := 28) (by decide) (by omega) (by omega) (fun hc => ?_) (fun hc => ?_)
    · have e : j = len - 1 - c := by omega
      subst e
      refine v_aload_n C (oX6_cellOf.at 15 rfl) rfl ?_
      refine v_iload C (oX6_cellOf.at 16 rfl) rfl ?_
      refine v_callV C (oX6_cellOf.at 17 rfl) cX6_59 hr (k_lastCell hr hk (ndiv_lt hx)) rfl rfl rfl ⟨rfl, rfl⟩ rfl rfl (fun _ => rfl) (fun h' hp => ?_)
      rw [show h' = _ from hp]
      dsimp only [Option.toList, List.cons_append, List.nil_append]
      exact v_iret C (oX6_cellOf.at 18 rfl) rfl rfl ⟨Nat.le_refl _, Nat.le_refl _⟩ ⟨rfl, rfl⟩
    · exact absurd hc (by omega)
  | succ i ih =>
    intro j hj hci
    refine v_iload C (oX6_cellOf.at 6 rfl) rfl ?_
    refine v_iload_n C (oX6_cellOf.at 7 rfl) rfl ?_
    refine v_icmp_leN C (oX6_cellOf.at 8 rfl) (tgt := 28) (by decide) (by omega) (by omega) (fun hc => ?_) (fun hc => ?_)
    · have e : j = len - 1 - c := by omega
      subst e
      refine v_aload_n C (oX6_cellOf.at 15 rfl) rfl ?_
      refine v_iload C (oX6_cellOf.at 16 rfl) rfl ?_
      refine v_callV C (oX6_cellOf.at 17 rfl) cX6_59 hr (k_lastCell hr hk (ndiv_lt hx)) rfl rfl rfl ⟨rfl, rfl⟩ rfl rfl (fun _ => rfl) (fun h' hp => ?_)
      rw [show h' = _ from hp]
      dsimp only [Option.toList, List.cons_append, List.nil_append]
      exact v_iret C (oX6_cellOf.at 18 rfl) rfl rfl ⟨Nat.le_refl _, Nat.le_refl _⟩ ⟨rfl, rfl⟩
    · refine v_aload_n C (oX6_cellOf.at 9 rfl) rfl ?_
      refine v_iload C (oX6_cellOf.at 10 rfl) rfl ?_
      refine v_callV C (oX6_cellOf.at 11 rfl) cX6_56 hr (k_withoutLastCell hr hk (ndiv_lt hx)) rfl rfl rfl ⟨rfl, rfl⟩ rfl rfl (fun _ => rfl) (fun h' hp => ?_)
      rw [show h' = _ from hp]
      dsimp only [Option.toList, List.cons_append, List.nil_append]
      refine v_istore C (oX6_cellOf.at 12 rfl) rfl ?_
      refine v_idecN C (oX6_cellOf.at 13 rfl) rfl ?_
      refine v_goto C (oX6_cellOf.at 14 rfl) (tgt := 8) (by decide) ?_
      dsimp only [sto1, sto2, killL]
      rw [ndiv_s]
      exact ih (j + 1) (by omega) (by omega)
/-- the cells of the word x of length len -/
def cel (k len x : Nat) (i : Nat) : Nat := x / k ^ (len - 1 - i) % k
def spw (k len x : Nat) (f : Nat → Int32) (a : Nat) : Nat → Int32 := fun i => if a ≤ i ∧ i < len then nI (cel k len x i) else f i
theorem spw_s {k len x : Nat} {f : Nat → Int32} {a : Nat} (ha : a < len) : upd (spw k len x f (a + 1)) a (nI (cel k len x a)) = spw k len x f a := by
  funext i; unfold upd spw
  by_cases e : i = a
  · subst e; simp [ha]
  · have : (a + 1 ≤ i ∧ i < len) ↔ (a ≤ i ∧ i < len) := by omega
    simp [e, this]
theorem spw_0 (k len x : Nat) (f : Nat → Int32) : spw k len x f len = f := by
  funext i; unfold spw; rw [if_neg (by omega)]
theorem k_spreadWord {w : Wt} {h : Hp} {r k wd n m x len q nq : Nat} {f : Nat → Int32} (hr : h r = RO r k wd n m) (hk : k = 2 ∨ k = 3) (hx : x < 2 ^ 31) (hl : len ≤ nq) (hnq : nq < 2 ^ 31) (hq : h q = io nq f) (hqr : q ≠ r) : ConN mX6_spreadWord 1 (0, 0) w [.ref r, .int (nI x), .int (nI len), .ref q] h (.inl none) (fun h' => h' = hu h q (io nq (spw k len x f 0))) := by
  refine conI (by decide +kernel) ⟨fun _ => rfl, rfl, by simp⟩ (fun X C => ?_)
  change V X (0, 0) w h 0 [some (.ref r), some (.int (nI x)), some (.int (nI len)), some (.ref q), none, none] []
  refine v_iload_n C (oX6_spreadWord.at 0 rfl) rfl ?_
  refine v_istore C (oX6_spreadWord.at 1 rfl) rfl ?_
  refine v_iload_n C (oX6_spreadWord.at 2 rfl) rfl ?_
  refine v_iconst C (oX6_spreadWord.at 3 rfl) (v := nI 1) rfl ?_
  refine v_isubP C (oX6_spreadWord.at 4 rfl) ?_
  refine v_istore C (oX6_spreadWord.at 5 rfl) rfl ?_
  dsimp only [sto1, sto2, killL]
  suffices H : ∀ a j, j + a = len → V X (0, 0) w (hu h q (io nq (spw k len x f a))) 8 [some (.ref r), some (.int (nI x)), some (.int (nI len)), some (.ref q), some (.int (nI (x / k ^ j))), some (.int (pI a))] [] by
    have := H len 0 (by omega)
    rw [spw_0, hu_id h hq] at this
    simpa using this
  intro a
  induction a with
  | zero =>
    intro j hj
    refine v_iload C (oX6_spreadWord.at 6 rfl) rfl ?_
    refine v_if_ltP C (oX6_spreadWord.at 7 rfl) (tgt := 37) (by decide) (by omega) (fun hc => ?_) (fun b hc => ?_)
    · exact v_vret C (oX6_spreadWord.at 20 rfl) rfl rfl ⟨Nat.le_refl _, Nat.le_refl _⟩ ⟨rfl, rfl⟩
    · cases hc
  | succ a ih =>
    intro j hj
    refine v_iload C (oX6_spreadWord.at 6 rfl) rfl ?_
    refine v_if_ltP C (oX6_spreadWord.at 7 rfl) (tgt := 37) (by decide) (by omega) (fun hc => ?_) (fun b hc => ?_)
    · cases hc
    · cases hc
      rw [pI_succ]
      have e : x / k ^ j % k = cel k len x a := by unfold cel; congr 3; omega
      refine v_aload_n C (oX6_spreadWord.at 8 rfl) rfl ?_
      refine v_iload C (oX6_spreadWord.at 9 rfl) rfl ?_
      refine v_aload_n C (oX6_spreadWord.at 10 rfl) rfl ?_
      refine v_iload C (oX6_spreadWord.at 11 rfl) rfl ?_
      refine v_callV C (oX6_spreadWord.at 12 rfl) cX6_59 ((hu_n _ _ (Ne.symm hqr)).trans hr) (k_lastCell ((hu_n _ _ (Ne.symm hqr)).trans hr) hk (ndiv_lt hx)) rfl rfl rfl ⟨rfl, rfl⟩ rfl rfl (fun _ => rfl) (fun h' hp => ?_)
      rw [show h' = _ from hp]
      dsimp only [Option.toList, List.cons_append, List.nil_append]
      refine v_iast C (oX6_spreadWord.at 13 rfl) (hu_s _ _ _) hnq rfl (by omega) ?_
      rw [e, hu_hu, spw_s (by omega)]
      refine v_aload_n C (oX6_spreadWord.at 14 rfl) rfl ?_
      refine v_iload C (oX6_spreadWord.at 15 rfl) rfl ?_
      refine v_callV C (oX6_spreadWord.at 16 rfl) cX6_56 ((hu_n _ _ (Ne.symm hqr)).trans hr) (k_withoutLastCell ((hu_n _ _ (Ne.symm hqr)).trans hr) hk (ndiv_lt hx)) rfl rfl rfl ⟨rfl, rfl⟩ rfl rfl (fun _ => rfl) (fun h' hp => ?_)
      rw [show h' = _ from hp]
      dsimp only [Option.toList, List.cons_append, List.nil_append]
      refine v_istore C (oX6_spreadWord.at 17 rfl) rfl ?_
      refine v_idecP C (oX6_spreadWord.at 18 rfl) rfl ?_
      refine v_goto C (oX6_spreadWord.at 19 rfl) (tgt := 8) (by decide) ?_
      dsimp only [sto1, sto2, killL]
      rw [ndiv_s]
      exact ih (j + 1) (by omega)
