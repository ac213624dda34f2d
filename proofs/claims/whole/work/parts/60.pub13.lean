/-! ===== has 5 and 6, leastNumber, setNumber that throws ===== -/
theorem PA.tk {G h : Hp} {S : Sc} {sv : Bool} {Z : Sc} {F : Sf} (hP : PA G h S sv Z F) : ∃ f, h 2 = io 27 f ∧ TOK S f S.2.2.1 := hP.tb
def hN (S : Sc) (T0 : Nat → Nat) : Nat := hor S.1 T0 0 (S.1 ^ S.2.1)
theorem hN_lt {S : Sc} {f : Nat → Int32} {T0 : Nat → Nat} (hs : SZ S.1 S.2.1) (hT : TOK S f T0) : hN S T0 < 2 ^ 63 := by
  have hk := hs.k
  have h0 : hN S T0 < S.1 ^ (S.1 ^ S.2.1) := hor_lt (by omega) _ _ (fun i _ h2 => (hT i (by omega)).2)
  have h1 : S.1 ^ (S.1 ^ S.2.1) ≤ 3 ^ (S.1 ^ S.2.1) := Nat.pow_le_pow_left (by omega) _
  have h2 : 3 ^ (S.1 ^ S.2.1) ≤ 3 ^ 27 := Nat.pow_le_pow_right (by decide) hs.m
  have h3 : (3 : Nat) ^ 27 < 2 ^ 63 := by decide
  omega
theorem k8_has6 {w : Wt} {G h : Hp} {S Z : Sc} {sv : Bool} {F : Sf} (hP : PA G h S sv Z F) : ConN mX8_has 3 (0, 0) w [.ref 0, .int (nI 6)] h (.inl (some (.int (bI (decide (hN S (cmT S S.2.2.1) = hN S S.2.2.1)))))) (fun h' => PA G h' S sv Z F) := by
  obtain ⟨f, hf, hT⟩ := hP.tk
  obtain ⟨g, kc, hg, hP1⟩ := com_to (w := w) (d := 60) hP hf hT (Or.inl rfl) (by decide)
  have b1 := hN_lt hP.sz hg
  have b2 := hN_lt hP.sz hT
  refine conI (by decide +kernel) ⟨fun _ => rfl, rfl, by simp⟩ (fun X C => ?_)
  change V X (0, 0) w h 0 [some (.ref 0), some (.int (nI 6))] []
  refine v_iload_n C (oX8_has.at 0 rfl) rfl ?_
  refine v_tableIn C (oX8_has.at 1 rfl) (by decide) (by decide) (off := 159) (tgt := 160) (by decide) (by decide) ?_
  refine v_aload_n C (oX8_has.at 58 rfl) rfl ?_
  refine v_getf C (oX8_has.at 59 rfl) fX8_10 hP.ob rfl ?_
  refine v_aload_n C (oX8_has.at 60 rfl) rfl ?_
  refine v_getf C (oX8_has.at 61 rfl) fX8_10 hP.ob rfl ?_
  refine v_getf C (oX8_has.at 62 rfl) fX8_124 hP.ru.ro rfl ?_
  refine v_aload_n C (oX8_has.at 63 rfl) rfl ?_
  refine v_getf C (oX8_has.at 64 rfl) fX8_75 hP.ob rfl ?_
  refine v_callV C (oX8_has.at 65 rfl) cX8_189 hP.ru.ro (kc) rfl rfl rfl ⟨rfl, rfl⟩ rfl rfl (fun _ => rfl) (fun h' hp => ?_)
  dsimp only [Option.toList, List.cons_append, List.nil_append]
  rw [show h' = _ from hp]
  have hf1 : hu h 60 (io 27 g) 2 = io 27 f := (hu_n _ _ (by decide)).trans hf
  have hg1 : hu h 60 (io 27 g) 60 = io 27 g := hu_s _ _ _
  generalize hu h 60 (io 27 g) = h1 at *
  refine v_aload_n C (oX8_has.at 66 rfl) rfl ?_
  refine v_getf C (oX8_has.at 67 rfl) fX8_10 hP1.ob rfl ?_
  refine v_aload_n C (oX8_has.at 68 rfl) rfl ?_
  refine v_getf C (oX8_has.at 69 rfl) fX8_75 hP1.ob rfl ?_
  refine v_callV C (oX8_has.at 70 rfl) cX8_141 hP1.ru.ro (num_of hP1 hg1 hg) rfl rfl rfl ⟨rfl, rfl⟩ rfl rfl (fun _ => rfl) (fun h' hp => ?_)
  rw [show h' = _ from hp]
  dsimp only [Option.toList, List.cons_append, List.nil_append]
  refine v_aload_n C (oX8_has.at 71 rfl) rfl ?_
  refine v_getf C (oX8_has.at 72 rfl) fX8_10 hP1.ob rfl ?_
  refine v_aload_n C (oX8_has.at 73 rfl) rfl ?_
  refine v_getf C (oX8_has.at 74 rfl) fX8_10 hP1.ob rfl ?_
  refine v_getf C (oX8_has.at 75 rfl) fX8_124 hP1.ru.ro rfl ?_
  refine v_callV C (oX8_has.at 76 rfl) cX8_141 hP1.ru.ro (num_of hP1 hf1 hT) rfl rfl rfl ⟨rfl, rfl⟩ rfl rfl (fun _ => rfl) (fun h' hp => ?_)
  rw [show h' = _ from hp]
  dsimp only [Option.toList, List.cons_append, List.nil_append]
  refine v_lcmp C (oX8_has.at 77 rfl) ?_
  have hce := cmp_eq0 b1 b2
  unfold hN at hce
  refine v_if_ne C (oX8_has.at 78 rfl) (tgt := 211) (by decide) (fun hc => ?_) (fun hc => ?_)
  · rw [decide_eq_false (show ¬ hN S (cmT S S.2.2.1) = hN S S.2.2.1 from fun z => hc (hce.mpr z))] at C
    refine v_iconst C (oX8_has.at 81 rfl) (v := nI 0) rfl ?_
    exact v_zret0 C (oX8_has.at 82 rfl) rfl rfl ⟨Nat.le_refl _, Nat.le_refl _⟩ ⟨rfl, hP1⟩
  · rw [decide_eq_true (show hN S (cmT S S.2.2.1) = hN S S.2.2.1 from hce.mp hc)] at C
    refine v_iconst C (oX8_has.at 79 rfl) (v := nI 1) rfl ?_
    refine v_goto C (oX8_has.at 80 rfl) (tgt := 212) (by decide) ?_
    exact v_zret1 C (oX8_has.at 82 rfl) rfl rfl ⟨Nat.le_refl _, Nat.le_refl _⟩ ⟨rfl, hP1⟩
theorem k8_has5 {w : Wt} {G h : Hp} {S Z : Sc} {sv : Bool} {F : Sf} (hP : PA G h S sv Z F) : ConN mX8_has 3 (0, 0) w [.ref 0, .int (nI 5)] h (.inl (some (.int (bI (decide (hN S (mrT S S.2.2.1) = hN S S.2.2.1)))))) (fun h' => PA G h' S sv Z F) := by
  obtain ⟨f, hf, hT⟩ := hP.tk
  obtain ⟨g, kc, hg, hP1⟩ := mir_to (w := w) (d := 60) hP hf hT (Or.inl rfl)
  have b1 := hN_lt hP.sz hg
  have b2 := hN_lt hP.sz hT
  refine conI (by decide +kernel) ⟨fun _ => rfl, rfl, by simp⟩ (fun X C => ?_)
  change V X (0, 0) w h 0 [some (.ref 0), some (.int (nI 5))] []
  refine v_iload_n C (oX8_has.at 0 rfl) rfl ?_
  refine v_tableIn C (oX8_has.at 1 rfl) (by decide) (by decide) (off := 106) (tgt := 107) (by decide) (by decide) ?_
  refine v_aload_n C (oX8_has.at 33 rfl) rfl ?_
  refine v_getf C (oX8_has.at 34 rfl) fX8_10 hP.ob rfl ?_
  refine v_aload_n C (oX8_has.at 35 rfl) rfl ?_
  refine v_getf C (oX8_has.at 36 rfl) fX8_10 hP.ob rfl ?_
  refine v_getf C (oX8_has.at 37 rfl) fX8_124 hP.ru.ro rfl ?_
  refine v_aload_n C (oX8_has.at 38 rfl) rfl ?_
  refine v_getf C (oX8_has.at 39 rfl) fX8_75 hP.ob rfl ?_
  refine v_callV C (oX8_has.at 40 rfl) cX8_185 hP.ru.ro (kc) rfl rfl rfl ⟨rfl, rfl⟩ rfl rfl (fun _ => rfl) (fun h' hp => ?_)
  dsimp only [Option.toList, List.cons_append, List.nil_append]
  obtain ⟨e', rfl⟩ := hp
  replace hP1 := hP1 e'
  have hf1 : hu (hu h 5 (io 4 e')) 60 (io 27 g) 2 = io 27 f := (hu_n _ _ (by decide)).trans ((hu_n _ _ (by decide)).trans hf)
  have hg1 : hu (hu h 5 (io 4 e')) 60 (io 27 g) 60 = io 27 g := hu_s _ _ _
  generalize hu (hu h 5 (io 4 e')) 60 (io 27 g) = h1 at *
  refine v_aload_n C (oX8_has.at 41 rfl) rfl ?_
  refine v_getf C (oX8_has.at 42 rfl) fX8_10 hP1.ob rfl ?_
  refine v_aload_n C (oX8_has.at 43 rfl) rfl ?_
  refine v_getf C (oX8_has.at 44 rfl) fX8_75 hP1.ob rfl ?_
  refine v_callV C (oX8_has.at 45 rfl) cX8_141 hP1.ru.ro (num_of hP1 hg1 hg) rfl rfl rfl ⟨rfl, rfl⟩ rfl rfl (fun _ => rfl) (fun h' hp => ?_)
  rw [show h' = _ from hp]
  dsimp only [Option.toList, List.cons_append, List.nil_append]
  refine v_aload_n C (oX8_has.at 46 rfl) rfl ?_
  refine v_getf C (oX8_has.at 47 rfl) fX8_10 hP1.ob rfl ?_
  refine v_aload_n C (oX8_has.at 48 rfl) rfl ?_
  refine v_getf C (oX8_has.at 49 rfl) fX8_10 hP1.ob rfl ?_
  refine v_getf C (oX8_has.at 50 rfl) fX8_124 hP1.ru.ro rfl ?_
  refine v_callV C (oX8_has.at 51 rfl) cX8_141 hP1.ru.ro (num_of hP1 hf1 hT) rfl rfl rfl ⟨rfl, rfl⟩ rfl rfl (fun _ => rfl) (fun h' hp => ?_)
  rw [show h' = _ from hp]
  dsimp only [Option.toList, List.cons_append, List.nil_append]
  refine v_lcmp C (oX8_has.at 52 rfl) ?_
  have hce := cmp_eq0 b1 b2
  unfold hN at hce
  refine v_if_ne C (oX8_has.at 53 rfl) (tgt := 158) (by decide) (fun hc => ?_) (fun hc => ?_)
  · rw [decide_eq_false (show ¬ hN S (mrT S S.2.2.1) = hN S S.2.2.1 from fun z => hc (hce.mpr z))] at C
    refine v_iconst C (oX8_has.at 56 rfl) (v := nI 0) rfl ?_
    exact v_zret0 C (oX8_has.at 57 rfl) rfl rfl ⟨Nat.le_refl _, Nat.le_refl _⟩ ⟨rfl, hP1⟩
  · rw [decide_eq_true (show hN S (mrT S S.2.2.1) = hN S S.2.2.1 from hce.mp hc)] at C
    refine v_iconst C (oX8_has.at 54 rfl) (v := nI 1) rfl ?_
    refine v_goto C (oX8_has.at 55 rfl) (tgt := 159) (by decide) ?_
    exact v_zret1 C (oX8_has.at 57 rfl) rfl rfl ⟨Nat.le_refl _, Nat.le_refl _⟩ ⟨rfl, hP1⟩
/-- the least number of the four like rules -/
def lsN (S : Sc) : Nat := min (min (min (hN S S.2.2.1) (hN S (cmT S S.2.2.1))) (hN S (mrT S S.2.2.1))) (hN S (cmT S (mrT S S.2.2.1)))
theorem k8_leastNumber {w : Wt} {G h : Hp} {S Z : Sc} {sv : Bool} {F : Sf} (hP : PA G h S sv Z F) : ConN mX8_leastNumber 3 (0, 0) w [.ref 0] h (.inl (some (.long (lN (lsN S))))) (fun h' => PA G h' S sv Z F) := by
  obtain ⟨f, hf, hT⟩ := hP.tk
  have b0 := hN_lt hP.sz hT
  have kn0 := num_of (w := w) hP hf hT
  obtain ⟨g, kc, hg, hP1⟩ := com_to (w := w) (d := 60) hP hf hT (Or.inl rfl) (by decide)
  have b1 := hN_lt hP.sz hg
  refine conI (by decide +kernel) ⟨fun _ => rfl, rfl, by simp⟩ (fun X C => ?_)
  change V X (0, 0) w h 0 [some (.ref 0), none, none] []
  refine v_aload_n C (oX8_leastNumber.at 0 rfl) rfl ?_
  refine v_getf C (oX8_leastNumber.at 1 rfl) fX8_10 hP.ob rfl ?_
  refine v_aload_n C (oX8_leastNumber.at 2 rfl) rfl ?_
  refine v_getf C (oX8_leastNumber.at 3 rfl) fX8_10 hP.ob rfl ?_
  refine v_getf C (oX8_leastNumber.at 4 rfl) fX8_124 hP.ru.ro rfl ?_
  refine v_callV C (oX8_leastNumber.at 5 rfl) cX8_141 hP.ru.ro (kn0) rfl rfl rfl ⟨rfl, rfl⟩ rfl rfl (fun _ => rfl) (fun h' hp => ?_)
  rw [show h' = _ from hp]
  dsimp only [Option.toList, List.cons_append, List.nil_append]
  refine v_lstore_n C (oX8_leastNumber.at 6 rfl) rfl ?_
  dsimp only [sto1, sto2, killL]
  refine v_aload_n C (oX8_leastNumber.at 7 rfl) rfl ?_
  refine v_getf C (oX8_leastNumber.at 8 rfl) fX8_10 hP.ob rfl ?_
  refine v_aload_n C (oX8_leastNumber.at 9 rfl) rfl ?_
  refine v_getf C (oX8_leastNumber.at 10 rfl) fX8_10 hP.ob rfl ?_
  refine v_getf C (oX8_leastNumber.at 11 rfl) fX8_124 hP.ru.ro rfl ?_
  refine v_aload_n C (oX8_leastNumber.at 12 rfl) rfl ?_
  refine v_getf C (oX8_leastNumber.at 13 rfl) fX8_75 hP.ob rfl ?_
  refine v_callV C (oX8_leastNumber.at 14 rfl) cX8_189 hP.ru.ro (kc) rfl rfl rfl ⟨rfl, rfl⟩ rfl rfl (fun _ => rfl) (fun h' hp => ?_)
  dsimp only [Option.toList, List.cons_append, List.nil_append]
  rw [show h' = _ from hp]
  have hf1 : hu h 60 (io 27 g) 2 = io 27 f := (hu_n _ _ (by decide)).trans hf
  have hg1 : hu h 60 (io 27 g) 60 = io 27 g := hu_s _ _ _
  generalize hu h 60 (io 27 g) = h1 at *
  obtain ⟨g2, km, hg2, hP2⟩ := mir_to (w := w) (d := 61) hP1 hf1 hT (Or.inr rfl)
  have b2 := hN_lt hP.sz hg2
  refine v_lload_n C (oX8_leastNumber.at 15 rfl) rfl ?_
  refine v_aload_n C (oX8_leastNumber.at 16 rfl) rfl ?_
  refine v_getf C (oX8_leastNumber.at 17 rfl) fX8_10 hP1.ob rfl ?_
  refine v_aload_n C (oX8_leastNumber.at 18 rfl) rfl ?_
  refine v_getf C (oX8_leastNumber.at 19 rfl) fX8_75 hP1.ob rfl ?_
  refine v_callV C (oX8_leastNumber.at 20 rfl) cX8_141 hP1.ru.ro (num_of hP1 hg1 hg) rfl rfl rfl ⟨rfl, rfl⟩ rfl rfl (fun _ => rfl) (fun h' hp => ?_)
  rw [show h' = _ from hp]
  dsimp only [Option.toList, List.cons_append, List.nil_append]
  refine v_callS C (oX8_leastNumber.at 21 rfl) cX8_192 (k_minL b0 b1) rfl rfl rfl ⟨rfl, rfl⟩ rfl rfl (fun _ => rfl) (fun h' hp => ?_)
  rw [show h' = _ from hp]
  dsimp only [Option.toList, List.cons_append, List.nil_append]
  refine v_lstore_n C (oX8_leastNumber.at 22 rfl) rfl ?_
  dsimp only [sto1, sto2, killL]
  have b3 : min (hN S S.2.2.1) (hN S (cmT S S.2.2.1)) < 2 ^ 63 := by omega
  refine v_aload_n C (oX8_leastNumber.at 23 rfl) rfl ?_
  refine v_getf C (oX8_leastNumber.at 24 rfl) fX8_10 hP1.ob rfl ?_
  refine v_aload_n C (oX8_leastNumber.at 25 rfl) rfl ?_
  refine v_getf C (oX8_leastNumber.at 26 rfl) fX8_10 hP1.ob rfl ?_
  refine v_getf C (oX8_leastNumber.at 27 rfl) fX8_124 hP1.ru.ro rfl ?_
  refine v_aload_n C (oX8_leastNumber.at 28 rfl) rfl ?_
  refine v_getf C (oX8_leastNumber.at 29 rfl) fX8_79 hP1.ob rfl ?_
  refine v_callV C (oX8_leastNumber.at 30 rfl) cX8_185 hP1.ru.ro (km) rfl rfl rfl ⟨rfl, rfl⟩ rfl rfl (fun _ => rfl) (fun h' hp => ?_)
  dsimp only [Option.toList, List.cons_append, List.nil_append]
  obtain ⟨e', rfl⟩ := hp
  replace hP2 := hP2 e'
  have hg3 : hu (hu h1 5 (io 4 e')) 61 (io 27 g2) 61 = io 27 g2 := hu_s _ _ _
  generalize hu (hu h1 5 (io 4 e')) 61 (io 27 g2) = h2 at *
  obtain ⟨g4, kc4, hg4, hP4⟩ := com_to (w := w) (d := 60) hP2 hg3 hg2 (Or.inl rfl) (by decide)
  have b4 := hN_lt hP.sz hg4
  have b5 : min (min (hN S S.2.2.1) (hN S (cmT S S.2.2.1))) (hN S (mrT S S.2.2.1)) < 2 ^ 63 := by omega
  refine v_lload_n C (oX8_leastNumber.at 31 rfl) rfl ?_
  refine v_aload_n C (oX8_leastNumber.at 32 rfl) rfl ?_
  refine v_getf C (oX8_leastNumber.at 33 rfl) fX8_10 hP2.ob rfl ?_
  refine v_aload_n C (oX8_leastNumber.at 34 rfl) rfl ?_
  refine v_getf C (oX8_leastNumber.at 35 rfl) fX8_79 hP2.ob rfl ?_
  refine v_callV C (oX8_leastNumber.at 36 rfl) cX8_141 hP2.ru.ro (num_of hP2 hg3 hg2) rfl rfl rfl ⟨rfl, rfl⟩ rfl rfl (fun _ => rfl) (fun h' hp => ?_)
  rw [show h' = _ from hp]
  dsimp only [Option.toList, List.cons_append, List.nil_append]
  refine v_callS C (oX8_leastNumber.at 37 rfl) cX8_192 (k_minL b3 b2) rfl rfl rfl ⟨rfl, rfl⟩ rfl rfl (fun _ => rfl) (fun h' hp => ?_)
  rw [show h' = _ from hp]
  dsimp only [Option.toList, List.cons_append, List.nil_append]
  refine v_lstore_n C (oX8_leastNumber.at 38 rfl) rfl ?_
  dsimp only [sto1, sto2, killL]
  refine v_aload_n C (oX8_leastNumber.at 39 rfl) rfl ?_
  refine v_getf C (oX8_leastNumber.at 40 rfl) fX8_10 hP2.ob rfl ?_
  refine v_aload_n C (oX8_leastNumber.at 41 rfl) rfl ?_
  refine v_getf C (oX8_leastNumber.at 42 rfl) fX8_79 hP2.ob rfl ?_
  refine v_aload_n C (oX8_leastNumber.at 43 rfl) rfl ?_
  refine v_getf C (oX8_leastNumber.at 44 rfl) fX8_75 hP2.ob rfl ?_
  refine v_callV C (oX8_leastNumber.at 45 rfl) cX8_189 hP2.ru.ro (kc4) rfl rfl rfl ⟨rfl, rfl⟩ rfl rfl (fun _ => rfl) (fun h' hp => ?_)
  dsimp only [Option.toList, List.cons_append, List.nil_append]
  rw [show h' = _ from hp]
  have hg5 : hu h2 60 (io 27 g4) 60 = io 27 g4 := hu_s _ _ _
  generalize hu h2 60 (io 27 g4) = h3 at *
  refine v_lload_n C (oX8_leastNumber.at 46 rfl) rfl ?_
  refine v_aload_n C (oX8_leastNumber.at 47 rfl) rfl ?_
  refine v_getf C (oX8_leastNumber.at 48 rfl) fX8_10 hP4.ob rfl ?_
  refine v_aload_n C (oX8_leastNumber.at 49 rfl) rfl ?_
  refine v_getf C (oX8_leastNumber.at 50 rfl) fX8_75 hP4.ob rfl ?_
  refine v_callV C (oX8_leastNumber.at 51 rfl) cX8_141 hP4.ru.ro (num_of hP4 hg5 hg4) rfl rfl rfl ⟨rfl, rfl⟩ rfl rfl (fun _ => rfl) (fun h' hp => ?_)
  rw [show h' = _ from hp]
  dsimp only [Option.toList, List.cons_append, List.nil_append]
  refine v_callS C (oX8_leastNumber.at 52 rfl) cX8_192 (k_minL b5 b4) rfl rfl rfl ⟨rfl, rfl⟩ rfl rfl (fun _ => rfl) (fun h' hp => ?_)
  rw [show h' = _ from hp]
  dsimp only [Option.toList, List.cons_append, List.nil_append]
  exact v_lret C (oX8_leastNumber.at 53 rfl) rfl rfl ⟨Nat.le_refl _, Nat.le_refl _⟩ ⟨rfl, hP4⟩
theorem k8_setNumberN {w : Wt} {h : Hp} {a : Int64} (ha : a < 0) : ConN mX8_setNumber 1 (1, 6) w [.ref 0, .long a] h (.inr EIAE) (fun h' => h' = h) := by
  have hc1 : lg_cmp a (lN 0) < 0 := by
    unfold lg_cmp
    have e0 : lN 0 = 0 := rfl
    rw [e0, if_neg (fun z => Int64.lt_irrefl (Int64.lt_trans z ha)), if_neg (fun z => by rw [z] at ha; exact Int64.lt_irrefl ha)]
    decide
  refine conI (by decide +kernel) ⟨fun _ => rfl, rfl, by simp⟩ (fun X C => ?_)
  change V X (0, 0) w h 0 [some (.ref 0), some (.long a), none] []
  refine v_lload_n C (oX8_setNumber.at 0 rfl) rfl ?_
  refine v_lconst C (oX8_setNumber.at 1 rfl) (v := lN 0) rfl ?_
  refine v_lcmp C (oX8_setNumber.at 2 rfl) ?_
  refine v_if_lt C (oX8_setNumber.at 3 rfl) (tgt := 18) (by decide) (fun hc => ?_) (fun hc => absurd hc1 hc)
  exact v_throwS C rfl tIAE sr131 (oX8_setNumber.at 10 rfl) (oX8_setNumber.at 11 rfl) (oX8_setNumber.at 12 rfl) (oX8_setNumber.at 13 rfl) (oX8_setNumber.at 14 rfl) rfl rfl ⟨rfl, rfl⟩
theorem k8_setNumberX {w : Wt} {G h : Hp} {S Z : Sc} {sv : Bool} {F : Sf} {a : Nat} (hP : PA G h S sv Z F) (ha : S.1 ^ (S.1 ^ S.2.1) ≤ a) (ha2 : a < 2 ^ 63) : ConN mX8_setNumber 1 (1, 6) w [.ref 0, .long (lN a)] h (.inr EIAE) (fun h' => h' = h) := by
  have hk := hP.sz.k
  have hm := hP.sz.m
  refine conI (by decide +kernel) ⟨fun _ => rfl, rfl, by simp⟩ (fun X C => ?_)
  change V X (0, 0) w h 0 [some (.ref 0), some (.long (lN a)), none] []
  refine v_lload_n C (oX8_setNumber.at 0 rfl) rfl ?_
  refine v_lconst C (oX8_setNumber.at 1 rfl) (v := lN 0) rfl ?_
  refine v_lcmp C (oX8_setNumber.at 2 rfl) ?_
  have thr : V X (0, 0) w h 18 [some (.ref 0), some (.long (lN a)), none] [] := v_throwS C rfl tIAE sr131 (oX8_setNumber.at 10 rfl) (oX8_setNumber.at 11 rfl) (oX8_setNumber.at 12 rfl) (oX8_setNumber.at 13 rfl) (oX8_setNumber.at 14 rfl) rfl rfl ⟨rfl, rfl⟩
  refine v_if_lt C (oX8_setNumber.at 3 rfl) (tgt := 18) (by decide) (fun hc => thr) (fun hc => ?_)
  refine v_lload_n C (oX8_setNumber.at 4 rfl) rfl ?_
  refine v_aload_n C (oX8_setNumber.at 5 rfl) rfl ?_
  refine v_getf C (oX8_setNumber.at 6 rfl) fX8_10 hP.ob rfl ?_
  refine v_callV C (oX8_setNumber.at 7 rfl) cX8_127 hP.ru.ro (k_countOfRules hP.ru.ro (by omega) hm) rfl rfl rfl ⟨rfl, rfl⟩ rfl rfl (fun _ => rfl) (fun h' hp => ?_)
  rw [show h' = _ from hp]
  dsimp only [Option.toList, List.cons_append, List.nil_append]
  refine v_lcmp C (oX8_setNumber.at 8 rfl) ?_
  refine v_if_lt C (oX8_setNumber.at 9 rfl) (tgt := 28) (by decide) (fun hc => absurd ((cmp_lt ha2 (by omega)).mp hc) (by omega)) (fun hc => thr)
