/-! ===== the program's methods: numbers, mirror, complement ===== -/
def chg (T T' : Nat → Nat) (m : Nat) : Nat := cnt (fun i => decide (T i ≠ T' i)) m
theorem k_take {w : Wt} {h : Hp} {k wd q : Nat} {T T' : Nat → Nat} {g : Nat → Int32} (hR : RuleOK h 1 k wd T) (hs : SZ k wd) (hq : h q = io 27 g) (hq2 : q ≠ 2) (hg : ∀ i, i < k ^ wd → g i = nI (T' i) ∧ T' i < k) : ∃ f, ConN mX6_takeTable 0 (0, 0) w [.ref 1, .ref q] h (.inl (some (.int (nI (chg T T' (k ^ wd)))))) (fun h' => h' = hu h 2 (io 27 (mix f g (k ^ wd)))) ∧ RuleOK (hu h 2 (io 27 (mix f g (k ^ wd)))) 1 k wd T' := by
  have hm := hs.m
  have hk := hs.k
  obtain ⟨f, gg, e, v, t, a0, a1, a2, -⟩ := id hR
  have e1 : cnt (fun i => decide (f i ≠ g i)) (k ^ wd) = chg T T' (k ^ wd) := by
    refine cnt_congr _ (fun i hi => ?_)
    have h1 := a2 i hi
    have h2 := hg i hi
    rw [h1.1, h2.1]
    by_cases e9 : T i = T' i
    · rw [e9]; simp
    · have e10 : nI (T i) ≠ nI (T' i) := fun z => e9 ((nI_eq (by omega) (by omega)).mp z)
      rw [decide_eq_true e10, decide_eq_true e9]
  have kt := k_takeTable (w := w) a0 hm a1 hq (by omega)
  rw [e1] at kt
  exact ⟨f, kt, rule_tab hR (fun i hi => by rw [mix_lt hi]; exact hg i hi)⟩
theorem k8_complement {w : Wt} {G h : Hp} {S Z : Sc} {sv : Bool} {F : Sf} (hP : PA G h S sv Z F) : ConN mX8_complement 1 (0, 0) w [.ref 0] h (.inl (some (.int (nI (chg S.2.2.1 (fun i => S.1 - 1 - S.2.2.1 (S.1 ^ S.2.1 - 1 - i)) (S.1 ^ S.2.1)))))) (fun h' => PA G h' (withT S (fun i => S.1 - 1 - S.2.2.1 (S.1 ^ S.2.1 - 1 - i))) sv Z F) := by
  have hk := hP.sz.k
  have hm := hP.sz.m
  obtain ⟨f, ht, hT⟩ := hP.tb
  obtain ⟨g, hd⟩ := hP.dr
  have kc := k_complementTable (w := w) (T := S.2.2.1) hP.ru.ro (by omega) (by omega) hm ht hd (by decide) (by decide) hT
  refine conI (by decide +kernel) ⟨fun _ => rfl, rfl, by simp⟩ (fun X C => ?_)
  change V X (0, 0) w h 0 [some (.ref 0)] []
  refine v_aload_n C (oX8_complement.at 0 rfl) rfl ?_
  refine v_getf C (oX8_complement.at 1 rfl) fX8_10 hP.ob rfl ?_
  refine v_aload_n C (oX8_complement.at 2 rfl) rfl ?_
  refine v_getf C (oX8_complement.at 3 rfl) fX8_10 hP.ob rfl ?_
  refine v_getf C (oX8_complement.at 4 rfl) fX8_124 hP.ru.ro rfl ?_
  refine v_aload_n C (oX8_complement.at 5 rfl) rfl ?_
  refine v_getf C (oX8_complement.at 6 rfl) fX8_75 hP.ob rfl ?_
  refine v_callV C (oX8_complement.at 7 rfl) cX8_189 hP.ru.ro (kc) rfl rfl rfl ⟨rfl, rfl⟩ rfl rfl (fun _ => rfl) (fun h' hp => ?_)
  dsimp only [Option.toList, List.cons_append, List.nil_append]
  have hP1 : PA G h' S sv Z F := by
    rw [show h' = _ from hp]
    exact hP.set_dr (fun j hj => hu_n _ _ (by omega)) ⟨_, hu_s _ _ _⟩
  have hd1 : h' 60 = io 27 (mix g (fun i => nI (S.1 - 1 - S.2.2.1 (S.1 ^ S.2.1 - 1 - i))) (S.1 ^ S.2.1)) := by rw [show h' = _ from hp]; exact hu_s _ _ _
  clear hp kc
  obtain ⟨h1, rfl⟩ : ∃ x, x = h' := ⟨h', rfl⟩
  obtain ⟨f1, kt, hR1⟩ := k_take (w := w) (T' := fun i => S.1 - 1 - S.2.2.1 (S.1 ^ S.2.1 - 1 - i)) hP1.ru hP.sz hd1 (by decide) (fun i hi => ⟨mix_lt hi, by show S.1 - 1 - _ < S.1; omega⟩)
  refine v_aload_n C (oX8_complement.at 8 rfl) rfl ?_
  refine v_getf C (oX8_complement.at 9 rfl) fX8_10 hP1.ob rfl ?_
  refine v_aload_n C (oX8_complement.at 10 rfl) rfl ?_
  refine v_getf C (oX8_complement.at 11 rfl) fX8_75 hP1.ob rfl ?_
  refine v_callV C (oX8_complement.at 12 rfl) cX8_137 hP1.ru.ro (kt) rfl rfl rfl ⟨rfl, rfl⟩ rfl rfl (fun _ => rfl) (fun h' hp => ?_)
  dsimp only [Option.toList, List.cons_append, List.nil_append]
  rw [show h' = _ from hp]
  exact v_iret C (oX8_complement.at 13 rfl) rfl rfl ⟨Nat.le_refl _, Nat.le_refl _⟩ ⟨rfl, hP1.set_ru (S' := withT S _) (hP.so.withT _) ⟨rfl, rfl⟩ (fun j hj => hu_n _ _ (by omega)) hR1⟩
theorem k8_mirror {w : Wt} {G h : Hp} {S Z : Sc} {sv : Bool} {F : Sf} (hP : PA G h S sv Z F) : ConN mX8_mirror 3 (0, 0) w [.ref 0] h (.inl (some (.int (nI (chg S.2.2.1 (fun i => S.2.2.1 (rvw S.1 i S.2.1)) (S.1 ^ S.2.1)))))) (fun h' => PA G h' (withT S (fun i => S.2.2.1 (rvw S.1 i S.2.1))) sv Z F) := by
  have hk := hP.sz.k
  have hm := hP.sz.m
  have hw := hP.sz.w
  obtain ⟨f, gg, e, v, t, a0, a1, a2, a3, a4, a5, a6, a7, a8⟩ := id hP.ru
  obtain ⟨g, hd⟩ := hP.dr
  have kc := k_mirrorTable (w := w) a0 hk (by omega) rfl hm a1 hd a7 (by decide) (by decide) (by decide) (by decide)
  refine conI (by decide +kernel) ⟨fun _ => rfl, rfl, by simp⟩ (fun X C => ?_)
  change V X (0, 0) w h 0 [some (.ref 0)] []
  refine v_aload_n C (oX8_mirror.at 0 rfl) rfl ?_
  refine v_getf C (oX8_mirror.at 1 rfl) fX8_10 hP.ob rfl ?_
  refine v_aload_n C (oX8_mirror.at 2 rfl) rfl ?_
  refine v_getf C (oX8_mirror.at 3 rfl) fX8_10 hP.ob rfl ?_
  refine v_getf C (oX8_mirror.at 4 rfl) fX8_124 a0 rfl ?_
  refine v_aload_n C (oX8_mirror.at 5 rfl) rfl ?_
  refine v_getf C (oX8_mirror.at 6 rfl) fX8_75 hP.ob rfl ?_
  refine v_callV C (oX8_mirror.at 7 rfl) cX8_185 a0 (kc) rfl rfl rfl ⟨rfl, rfl⟩ rfl rfl (fun _ => rfl) (fun h' hp => ?_)
  dsimp only [Option.toList, List.cons_append, List.nil_append]
  obtain ⟨e', hp⟩ := hp
  have hRm : RuleOK h' 1 S.1 S.2.1 S.2.2.1 := by
    rw [hp]
    exact ⟨f, gg, e, e', t, (hu_n _ _ (by omega)).trans ((hu_n _ _ (by omega)).trans a0), (hu_n _ _ (by omega)).trans ((hu_n _ _ (by omega)).trans a1), a2, (hu_n _ _ (by omega)).trans ((hu_n _ _ (by omega)).trans a3), a4, (hu_n _ _ (by omega)).trans ((hu_n _ _ (by omega)).trans a5), a6, (hu_n _ _ (by omega)).trans (hu_s _ _ _), (hu_n _ _ (by omega)).trans ((hu_n _ _ (by omega)).trans a8)⟩
  have hfr : ∀ j, (j < 1 ∨ 6 < j) → j ≠ 60 → h' j = h j := fun j a b => by rw [hp, hu_n _ _ b, hu_n _ _ (by omega)]
  have hd1 : h' 60 = io 27 (mix g (fun i => f (rvw S.1 i S.2.1)) (S.1 ^ S.2.1)) := by rw [hp]; exact hu_s _ _ _
  clear hp kc
  obtain ⟨h1, rfl⟩ : ∃ x, x = h' := ⟨h', rfl⟩
  have hP1 : PA G h1 S sv Z F := by
    have hQ : PA G (hu h 60 (io 27 (mix g (fun i => f (rvw S.1 i S.2.1)) (S.1 ^ S.2.1)))) S sv Z F := hP.set_dr (fun j hj => hu_n _ _ (by omega)) ⟨_, hu_s _ _ _⟩
    refine hQ.set_ru (S' := S) hP.so ⟨rfl, rfl⟩ (fun j hj => ?_) hRm
    by_cases e9 : j = 60
    · rw [e9, hu_s, hd1]
    · rw [hu_n _ _ e9, hfr j hj e9]
  obtain ⟨f1, kt, hR1⟩ := k_take (w := w) (T' := fun i => S.2.2.1 (rvw S.1 i S.2.1)) hP1.ru hP.sz hd1 (by decide) (fun i hi => by rw [mix_lt hi]; exact a2 _ (rvw_lt (by omega) _ _))
  refine v_aload_n C (oX8_mirror.at 8 rfl) rfl ?_
  refine v_getf C (oX8_mirror.at 9 rfl) fX8_10 hP1.ob rfl ?_
  refine v_aload_n C (oX8_mirror.at 10 rfl) rfl ?_
  refine v_getf C (oX8_mirror.at 11 rfl) fX8_75 hP1.ob rfl ?_
  refine v_callV C (oX8_mirror.at 12 rfl) cX8_137 hP1.ru.ro (kt) rfl rfl rfl ⟨rfl, rfl⟩ rfl rfl (fun _ => rfl) (fun h' hp => ?_)
  dsimp only [Option.toList, List.cons_append, List.nil_append]
  rw [show h' = _ from hp]
  exact v_iret C (oX8_mirror.at 13 rfl) rfl rfl ⟨Nat.le_refl _, Nat.le_refl _⟩ ⟨rfl, hP1.set_ru (S' := withT S _) (hP.so.withT _) ⟨rfl, rfl⟩ (fun j hj => hu_n _ _ (by omega)) hR1⟩
theorem cmp_lt {a b : Nat} (ha : a < 2 ^ 63) (hb : b < 2 ^ 63) : (lg_cmp (lN a) (lN b) < 0) ↔ a < b := by
  unfold lg_cmp
  by_cases h1 : b < a
  · rw [if_pos ((pk_lLT hb ha).mpr h1)]; exact ⟨fun q => absurd q (by decide), fun q => absurd q (by omega)⟩
  · rw [if_neg (fun e => h1 ((pk_lLT hb ha).mp e))]
    by_cases h2 : a = b
    · rw [if_pos (by rw [h2])]; exact ⟨fun q => absurd q (by decide), fun q => absurd q (by omega)⟩
    · rw [if_neg (fun e => h2 ((pk_lEQ ha hb).mp e))]; exact ⟨fun _ => by omega, fun _ => by decide⟩
theorem k8_setNumber {w : Wt} {G h : Hp} {S Z : Sc} {sv : Bool} {F : Sf} {a : Nat} (hP : PA G h S sv Z F) (ha : a < S.1 ^ (S.1 ^ S.2.1)) : ConN mX8_setNumber 1 (0, 0) w [.ref 0, .long (lN a)] h (.inl (some (.int (nI (chg S.2.2.1 (fun i => a / S.1 ^ i % S.1) (S.1 ^ S.2.1)))))) (fun h' => PA G h' (withT S (fun i => a / S.1 ^ i % S.1)) sv Z F) := by
  have hk := hP.sz.k
  have hm := hP.sz.m
  have hb : S.1 ^ (S.1 ^ S.2.1) < 2 ^ 63 := by
    have h1 : S.1 ^ (S.1 ^ S.2.1) ≤ 3 ^ (S.1 ^ S.2.1) := Nat.pow_le_pow_left (by omega) _
    have h2 : 3 ^ (S.1 ^ S.2.1) ≤ 3 ^ 27 := Nat.pow_le_pow_right (by decide) hm
    have h3 : (3 : Nat) ^ 27 < 2 ^ 63 := by decide
    omega
  obtain ⟨g, hd⟩ := hP.dr
  have ks := k_spreadNumber (w := w) (a := a) hP.ru.ro hk hm (by omega) hd (by decide)
  refine conI (by decide +kernel) ⟨fun _ => rfl, rfl, by simp⟩ (fun X C => ?_)
  change V X (0, 0) w h 0 [some (.ref 0), some (.long (lN a)), none] []
  refine v_lload_n C (oX8_setNumber.at 0 rfl) rfl ?_
  refine v_lconst C (oX8_setNumber.at 1 rfl) (v := lN 0) rfl ?_
  refine v_lcmp C (oX8_setNumber.at 2 rfl) ?_
  have c1 : ¬ lg_cmp (lN a) (lN 0) < 0 := fun z => by
    have := (cmp_lt (a := a) (b := 0) (by omega) (by decide)).mp z
    omega
  have c2 : lg_cmp (lN a) (lN (S.1 ^ (S.1 ^ S.2.1))) < 0 := (cmp_lt (by omega) hb).mpr ha
  refine v_if_lt C (oX8_setNumber.at 3 rfl) (tgt := 18) (by decide) (fun hc => absurd hc c1) (fun hc => ?_)
  refine v_lload_n C (oX8_setNumber.at 4 rfl) rfl ?_
  refine v_aload_n C (oX8_setNumber.at 5 rfl) rfl ?_
  refine v_getf C (oX8_setNumber.at 6 rfl) fX8_10 hP.ob rfl ?_
  refine v_callV C (oX8_setNumber.at 7 rfl) cX8_127 hP.ru.ro (k_countOfRules hP.ru.ro (by omega) hm) rfl rfl rfl ⟨rfl, rfl⟩ rfl rfl (fun _ => rfl) (fun h' hp => ?_)
  rw [show h' = _ from hp]
  dsimp only [Option.toList, List.cons_append, List.nil_append]
  refine v_lcmp C (oX8_setNumber.at 8 rfl) ?_
  refine v_if_lt C (oX8_setNumber.at 9 rfl) (tgt := 28) (by decide) (fun hc => ?_) (fun hc => absurd c2 hc)
  refine v_aload_n C (oX8_setNumber.at 15 rfl) rfl ?_
  refine v_getf C (oX8_setNumber.at 16 rfl) fX8_10 hP.ob rfl ?_
  refine v_lload_n C (oX8_setNumber.at 17 rfl) rfl ?_
  refine v_aload_n C (oX8_setNumber.at 18 rfl) rfl ?_
  refine v_getf C (oX8_setNumber.at 19 rfl) fX8_75 hP.ob rfl ?_
  refine v_callV C (oX8_setNumber.at 20 rfl) cX8_133 hP.ru.ro (ks) rfl rfl rfl ⟨rfl, rfl⟩ rfl rfl (fun _ => rfl) (fun h' hp => ?_)
  dsimp only [Option.toList, List.cons_append, List.nil_append]
  have hP1 : PA G h' S sv Z F := by
    rw [show h' = _ from hp]
    exact hP.set_dr (fun j hj => hu_n _ _ (by omega)) ⟨_, hu_s _ _ _⟩
  have hd1 : h' 60 = io 27 (mix g (fun i => nI (a / S.1 ^ i % S.1)) (S.1 ^ S.2.1)) := by rw [show h' = _ from hp]; exact hu_s _ _ _
  clear hp ks
  obtain ⟨h1, rfl⟩ : ∃ x, x = h' := ⟨h', rfl⟩
  obtain ⟨f1, kt, hR1⟩ := k_take (w := w) (T' := fun i => a / S.1 ^ i % S.1) hP1.ru hP.sz hd1 (by decide) (fun i hi => ⟨mix_lt hi, Nat.mod_lt _ (by omega)⟩)
  refine v_aload_n C (oX8_setNumber.at 21 rfl) rfl ?_
  refine v_getf C (oX8_setNumber.at 22 rfl) fX8_10 hP1.ob rfl ?_
  refine v_aload_n C (oX8_setNumber.at 23 rfl) rfl ?_
  refine v_getf C (oX8_setNumber.at 24 rfl) fX8_75 hP1.ob rfl ?_
  refine v_callV C (oX8_setNumber.at 25 rfl) cX8_137 hP1.ru.ro (kt) rfl rfl rfl ⟨rfl, rfl⟩ rfl rfl (fun _ => rfl) (fun h' hp => ?_)
  dsimp only [Option.toList, List.cons_append, List.nil_append]
  rw [show h' = _ from hp]
  exact v_iret C (oX8_setNumber.at 26 rfl) rfl rfl ⟨Nat.le_refl _, Nat.le_refl _⟩ ⟨rfl, hP1.set_ru (S' := withT S _) (hP.so.withT _) ⟨rfl, rfl⟩ (fun j hj => hu_n _ _ (by omega)) hR1⟩
