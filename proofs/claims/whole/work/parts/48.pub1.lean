/-! ===== the program's methods, first part ===== -/
def szv (S : Sc) (x : Nat) : Nat := if x = 0 then S.1 else if x = 1 then S.2.1 else if x = 2 then S.1 ^ S.2.1 else S.1 ^ (S.2.1 - 1)
theorem k8_size {w : Wt} {G h : Hp} {S Z : Sc} {sv : Bool} {F : Sf} {x : Nat} (hP : PA G h S sv Z F) (hx : x < 4) : ConN mX8_size 0 (0, 0) w [.ref 0, .int (nI x)] h (.inl (some (.int (nI (szv S x))))) (fun h' => h' = h) := by
  refine conI (by decide +kernel) ⟨fun _ => rfl, rfl, by simp⟩ (fun X C => ?_)
  change V X (0, 0) w h 0 [some (.ref 0), some (.int (nI x))] []
  refine v_iload_n C (oX8_size.at 0 rfl) rfl ?_
  have hcs : x = 0 ∨ x = 1 ∨ x = 2 ∨ x = 3 := by omega
  rcases hcs with rfl | rfl | rfl | rfl
  · refine v_tableIn C (oX8_size.at 1 rfl) (by decide) (by decide) (off := 31) (tgt := 32) (by decide) (by decide) ?_
    refine v_aload_n C (oX8_size.at 2 rfl) rfl ?_
    refine v_getf C (oX8_size.at 3 rfl) fX8_10 hP.ob rfl ?_
    refine v_getf C (oX8_size.at 4 rfl) fX8_104 hP.ru.ro rfl ?_
    exact v_iret C (oX8_size.at 5 rfl) rfl rfl ⟨Nat.le_refl _, Nat.le_refl _⟩ ⟨rfl, rfl⟩
  · refine v_tableIn C (oX8_size.at 1 rfl) (by decide) (by decide) (off := 39) (tgt := 40) (by decide) (by decide) ?_
    refine v_aload_n C (oX8_size.at 6 rfl) rfl ?_
    refine v_getf C (oX8_size.at 7 rfl) fX8_10 hP.ob rfl ?_
    refine v_getf C (oX8_size.at 8 rfl) fX8_107 hP.ru.ro rfl ?_
    exact v_iret C (oX8_size.at 9 rfl) rfl rfl ⟨Nat.le_refl _, Nat.le_refl _⟩ ⟨rfl, rfl⟩
  · refine v_tableIn C (oX8_size.at 1 rfl) (by decide) (by decide) (off := 47) (tgt := 48) (by decide) (by decide) ?_
    refine v_aload_n C (oX8_size.at 10 rfl) rfl ?_
    refine v_getf C (oX8_size.at 11 rfl) fX8_10 hP.ob rfl ?_
    refine v_getf C (oX8_size.at 12 rfl) fX8_100 hP.ru.ro rfl ?_
    exact v_iret C (oX8_size.at 13 rfl) rfl rfl ⟨Nat.le_refl _, Nat.le_refl _⟩ ⟨rfl, rfl⟩
  · refine v_tableIn C (oX8_size.at 1 rfl) (by decide) (by decide) (off := 55) (tgt := 56) (by decide) (by decide) ?_
    refine v_aload_n C (oX8_size.at 14 rfl) rfl ?_
    refine v_getf C (oX8_size.at 15 rfl) fX8_10 hP.ob rfl ?_
    refine v_getf C (oX8_size.at 16 rfl) fX8_110 hP.ru.ro rfl ?_
    exact v_iret C (oX8_size.at 17 rfl) rfl rfl ⟨Nat.le_refl _, Nat.le_refl _⟩ ⟨rfl, rfl⟩
theorem nInB {x : Int32} {b : Nat} (hb : b < 2 ^ 31) (hx : ¬ InB x b) : x.toInt < 0 ∨ (b : Int) ≤ x.toInt := by
  have h0 : (0 : Int32).toInt = 0 := by decide
  apply Decidable.byContradiction
  intro q
  apply hx
  refine ⟨fun z => ?_, ?_⟩
  · rw [Int32.lt_iff_toInt_lt] at z; omega
  · rw [Int32.lt_iff_toInt_lt, nI_toInt hb]; omega
theorem k8_sizeX {w : Wt} {h : Hp} {x : Int32} (hx : ¬ InB x 4) : ConN mX8_size 0 (1, 6) w [.ref 0, .int x] h (.inr EIOO) (fun h' => h' = h) := by
  have hn := nInB (by decide) hx
  refine conI (by decide +kernel) ⟨fun _ => rfl, rfl, by simp⟩ (fun X C => ?_)
  change V X (0, 0) w h 0 [some (.ref 0), some (.int x)] []
  refine v_iload_n C (oX8_size.at 0 rfl) rfl ?_
  refine v_tableOut C (oX8_size.at 1 rfl) (by omega) (tgt := 64) (by decide) ?_
  exact v_throwS C rfl tIOO sr115 (oX8_size.at 18 rfl) (oX8_size.at 19 rfl) (oX8_size.at 20 rfl) (oX8_size.at 21 rfl) (oX8_size.at 22 rfl) rfl rfl ⟨rfl, rfl⟩
theorem PA.tb {G h : Hp} {S : Sc} {sv : Bool} {Z : Sc} {F : Sf} (hP : PA G h S sv Z F) : ∃ f, h 2 = io 27 f ∧ ∀ i, i < S.1 ^ S.2.1 → f i = nI (S.2.2.1 i) ∧ S.2.2.1 i < S.1 := by
  obtain ⟨f, gg, e, v, t, hr, ht, hT, -⟩ := hP.ru
  exact ⟨f, ht, hT⟩
theorem k8_output {w : Wt} {G h : Hp} {S Z : Sc} {sv : Bool} {F : Sf} {x : Nat} (hP : PA G h S sv Z F) (hx : x < S.1 ^ S.2.1) : ConN mX8_output 1 (0, 0) w [.ref 0, .int (nI x)] h (.inl (some (.int (nI (S.2.2.1 x))))) (fun h' => h' = h) := by
  have hm := hP.sz.m
  obtain ⟨f, ht, hT⟩ := hP.tb
  refine conI (by decide +kernel) ⟨fun _ => rfl, rfl, by simp⟩ (fun X C => ?_)
  change V X (0, 0) w h 0 [some (.ref 0), some (.int (nI x))] []
  refine v_aload_n C (oX8_output.at 0 rfl) rfl ?_
  refine v_iload_n C (oX8_output.at 1 rfl) rfl ?_
  refine v_callV C (oX8_output.at 2 rfl) cX8_118 hP.ob (k_needNb hP.ob hP.ru.ro (InB.of hx (by omega))) rfl rfl rfl ⟨rfl, rfl⟩ rfl rfl (fun _ => rfl) (fun h' hp => ?_)
  rw [show h' = _ from hp]
  dsimp only [Option.toList, List.cons_append, List.nil_append]
  refine v_aload_n C (oX8_output.at 3 rfl) rfl ?_
  refine v_getf C (oX8_output.at 4 rfl) fX8_10 hP.ob rfl ?_
  refine v_getf C (oX8_output.at 5 rfl) fX8_124 hP.ru.ro rfl ?_
  refine v_iload_n C (oX8_output.at 6 rfl) rfl ?_
  refine v_iald C (oX8_output.at 7 rfl) ht (by decide) rfl (by omega) (hT x hx).1 ?_
  exact v_iret C (oX8_output.at 8 rfl) rfl rfl ⟨Nat.le_refl _, Nat.le_refl _⟩ ⟨rfl, rfl⟩
theorem k8_outputX {w : Wt} {G h : Hp} {S Z : Sc} {sv : Bool} {F : Sf} {x : Int32} (hP : PA G h S sv Z F) (hx : ¬ InB x (S.1 ^ S.2.1)) : ConN mX8_output 1 (1, 6) w [.ref 0, .int x] h (.inr EIOO) (fun h' => h' = h) := by
  refine conI (by decide +kernel) ⟨fun _ => rfl, rfl, by simp⟩ (fun X C => ?_)
  change V X (0, 0) w h 0 [some (.ref 0), some (.int x)] []
  refine v_aload_n C (oX8_output.at 0 rfl) rfl ?_
  refine v_iload_n C (oX8_output.at 1 rfl) rfl ?_
  exact v_callVT C (oX8_output.at 2 rfl) cX8_118 hP.ob (k_needNbX hP.ob hP.ru.ro hx) rfl rfl rfl rfl rfl (fun h' hp => ⟨rfl, hp⟩)
theorem k8_number {w : Wt} {G h : Hp} {S Z : Sc} {sv : Bool} {F : Sf} (hP : PA G h S sv Z F) : ConN mX8_number 1 (0, 0) w [.ref 0] h (.inl (some (.long (lN (hor S.1 S.2.2.1 0 (S.1 ^ S.2.1)))))) (fun h' => h' = h) := by
  have hm := hP.sz.m
  have hk := hP.sz.k
  obtain ⟨f, ht, hT⟩ := hP.tb
  refine conI (by decide +kernel) ⟨fun _ => rfl, rfl, by simp⟩ (fun X C => ?_)
  change V X (0, 0) w h 0 [some (.ref 0)] []
  refine v_aload_n C (oX8_number.at 0 rfl) rfl ?_
  refine v_getf C (oX8_number.at 1 rfl) fX8_10 hP.ob rfl ?_
  refine v_aload_n C (oX8_number.at 2 rfl) rfl ?_
  refine v_getf C (oX8_number.at 3 rfl) fX8_10 hP.ob rfl ?_
  refine v_getf C (oX8_number.at 4 rfl) fX8_124 hP.ru.ro rfl ?_
  refine v_callV C (oX8_number.at 5 rfl) cX8_141 hP.ru.ro (k_numberOf hP.ru.ro (by omega) hm ht (fun i hi => ⟨(hT i hi).1, by have := (hT i hi).2; omega⟩)) rfl rfl rfl ⟨rfl, rfl⟩ rfl rfl (fun _ => rfl) (fun h' hp => ?_)
  rw [show h' = _ from hp]
  dsimp only [Option.toList, List.cons_append, List.nil_append]
  exact v_lret C (oX8_number.at 6 rfl) rfl rfl ⟨Nat.le_refl _, Nat.le_refl _⟩ ⟨rfl, rfl⟩
theorem k8_wordLength {w : Wt} {G h : Hp} {S Z : Sc} {sv : Bool} {F : Sf} {x : Nat} (hP : PA G h S sv Z F) (hx : x < 4) : ConN mX8_wordLength 1 (0, 0) w [.ref 0, .int (nI x)] h (.inl (some (.int (nI (S.2.2.2.1 x))))) (fun h' => h' = h) := by
  obtain ⟨f, e, g0, g1, g2, g3, g4⟩ := hP.rg
  refine conI (by decide +kernel) ⟨fun _ => rfl, rfl, by simp⟩ (fun X C => ?_)
  change V X (0, 0) w h 0 [some (.ref 0), some (.int (nI x))] []
  refine v_iload_n C (oX8_wordLength.at 0 rfl) rfl ?_
  refine v_callS C (oX8_wordLength.at 1 rfl) cX8_210 (k_needReg (InB.of hx (by decide))) rfl rfl rfl ⟨rfl, rfl⟩ rfl rfl (fun _ => rfl) (fun h' hp => ?_)
  rw [show h' = _ from hp]
  dsimp only [Option.toList, List.cons_append, List.nil_append]
  refine v_aload_n C (oX8_wordLength.at 2 rfl) rfl ?_
  refine v_getf C (oX8_wordLength.at 3 rfl) fX8_22 hP.ob rfl ?_
  refine v_getf C (oX8_wordLength.at 4 rfl) fX8_217 g0 rfl ?_
  refine v_iload_n C (oX8_wordLength.at 5 rfl) rfl ?_
  refine v_iald C (oX8_wordLength.at 6 rfl) g1 (by decide) rfl (by omega) (g2 x hx) ?_
  exact v_iret C (oX8_wordLength.at 7 rfl) rfl rfl ⟨Nat.le_refl _, Nat.le_refl _⟩ ⟨rfl, rfl⟩
theorem k8_wordLengthX {w : Wt} {h : Hp} {x : Int32} (hx : ¬ InB x 4) : ConN mX8_wordLength 1 (1, 6) w [.ref 0, .int x] h (.inr EIOO) (fun h' => h' = h) := by
  refine conI (by decide +kernel) ⟨fun _ => rfl, rfl, by simp⟩ (fun X C => ?_)
  change V X (0, 0) w h 0 [some (.ref 0), some (.int x)] []
  refine v_iload_n C (oX8_wordLength.at 0 rfl) rfl ?_
  exact v_callST C (oX8_wordLength.at 1 rfl) cX8_210 (k_needRegX hx) rfl rfl rfl rfl rfl (fun h' hp => ⟨rfl, hp⟩)
theorem k8_wordIndex {w : Wt} {G h : Hp} {S Z : Sc} {sv : Bool} {F : Sf} {x : Nat} (hP : PA G h S sv Z F) (hx : x < 4) : ConN mX8_wordIndex 1 (0, 0) w [.ref 0, .int (nI x)] h (.inl (some (.int (nI (S.2.2.2.2 x))))) (fun h' => h' = h) := by
  obtain ⟨f, e, g0, g1, g2, g3, g4⟩ := hP.rg
  refine conI (by decide +kernel) ⟨fun _ => rfl, rfl, by simp⟩ (fun X C => ?_)
  change V X (0, 0) w h 0 [some (.ref 0), some (.int (nI x))] []
  refine v_iload_n C (oX8_wordIndex.at 0 rfl) rfl ?_
  refine v_callS C (oX8_wordIndex.at 1 rfl) cX8_210 (k_needReg (InB.of hx (by decide))) rfl rfl rfl ⟨rfl, rfl⟩ rfl rfl (fun _ => rfl) (fun h' hp => ?_)
  rw [show h' = _ from hp]
  dsimp only [Option.toList, List.cons_append, List.nil_append]
  refine v_aload_n C (oX8_wordIndex.at 2 rfl) rfl ?_
  refine v_getf C (oX8_wordIndex.at 3 rfl) fX8_22 hP.ob rfl ?_
  refine v_getf C (oX8_wordIndex.at 4 rfl) fX8_224 g0 rfl ?_
  refine v_iload_n C (oX8_wordIndex.at 5 rfl) rfl ?_
  refine v_iald C (oX8_wordIndex.at 6 rfl) g3 (by decide) rfl (by omega) (g4 x hx) ?_
  exact v_iret C (oX8_wordIndex.at 7 rfl) rfl rfl ⟨Nat.le_refl _, Nat.le_refl _⟩ ⟨rfl, rfl⟩
theorem k8_wordIndexX {w : Wt} {h : Hp} {x : Int32} (hx : ¬ InB x 4) : ConN mX8_wordIndex 1 (1, 6) w [.ref 0, .int x] h (.inr EIOO) (fun h' => h' = h) := by
  refine conI (by decide +kernel) ⟨fun _ => rfl, rfl, by simp⟩ (fun X C => ?_)
  change V X (0, 0) w h 0 [some (.ref 0), some (.int x)] []
  refine v_iload_n C (oX8_wordIndex.at 0 rfl) rfl ?_
  exact v_callST C (oX8_wordIndex.at 1 rfl) cX8_210 (k_needRegX hx) rfl rfl rfl rfl rfl (fun h' hp => ⟨rfl, hp⟩)
theorem k8_cyclicPairs {w : Wt} {G h : Hp} {S Z : Sc} {sv : Bool} {F : Sf} (hP : PA G h S sv Z F) : ConN mX8_cyclicPairs 5 (0, 0) w [.ref 0] h (.inl (some (.int (nI (cycN S.1 (S.1 ^ (S.2.1 - 1)) S.2.2.1))))) (fun h' => PA G h' S sv Z F) := by
  refine conI (by decide +kernel) ⟨fun _ => rfl, rfl, by simp⟩ (fun X C => ?_)
  change V X (0, 0) w h 0 [some (.ref 0)] []
  refine v_aload_n C (oX8_cyclicPairs.at 0 rfl) rfl ?_
  refine v_getf C (oX8_cyclicPairs.at 1 rfl) fX8_64 hP.ob rfl ?_
  refine v_aload_n C (oX8_cyclicPairs.at 2 rfl) rfl ?_
  refine v_getf C (oX8_cyclicPairs.at 3 rfl) fX8_10 hP.ob rfl ?_
  refine v_callV C (oX8_cyclicPairs.at 4 rfl) cX8_325 hP.pr.1 (k_countOnCycles hP.ru hP.sz hP.pr (by decide)) rfl rfl rfl ⟨rfl, rfl⟩ rfl rfl (fun _ => rfl) (fun h' hp => ?_)
  dsimp only [Option.toList, List.cons_append, List.nil_append]
  obtain ⟨g, rfl⟩ := hp
  refine v_iret C (oX8_cyclicPairs.at 5 rfl) rfl rfl ⟨Nat.le_refl _, Nat.le_refl _⟩ ⟨rfl, hP.set_pr (fun j hj => hu_n _ _ (by omega)) ⟨(hu_n _ _ (by omega)).trans hP.pr.1, g, hu_s _ _ _⟩⟩
