/-! ===== the program's methods: preimages ===== -/
theorem ScOK.ix {S : Sc} (h : ScOK S) {r : Nat} (hr : r < 4) : S.2.2.2.2 r < 2 ^ 31 := by
  have hb := h.2 r hr
  have hk := h.1.k
  have h1 : S.1 ^ S.2.2.2.1 r ≤ 3 ^ S.2.2.2.1 r := Nat.pow_le_pow_left (by omega) _
  have h2 : 3 ^ S.2.2.2.1 r ≤ 3 ^ 14 := Nat.pow_le_pow_right (by decide) hb.1
  have h3 : (3 : Nat) ^ 14 < 2 ^ 31 := by decide
  omega
/-- the labels of a register's word -/
def rlb (S : Sc) (r : Nat) : Nat → Nat := cel S.1 (S.2.2.2.1 r) (S.2.2.2.2 r)
theorem k8_takeLabels {w : Wt} {G h : Hp} {S Z : Sc} {sv : Bool} {F : Sf} {x : Nat} (hP : PA G h S sv Z F) (hx : x < 4) : ConN mX8_takeLabels 3 (0, 0) w [.ref 0, .int (nI x)] h (.inl none) (fun h' => PA G h' S sv Z F ∧ ∃ a b lf Wf, PaOK h' 28 a b (S.2.2.2.1 x) lf Wf ∧ ∀ i, i < S.2.2.2.1 x → lf i = nI (rlb S x i) ∧ rlb S x i < 3) := by
  obtain ⟨f, e, g0, g1, g2, g3, g4⟩ := hP.rg
  obtain ⟨a, b, n, lf, Wf, hp4⟩ := hP.pt
  have hb := hP.so.2 x hx
  have hk := hP.sz.k
  have kt := k_takeLabels (w := w) (len := S.2.2.2.1 x) (x := S.2.2.2.2 x) hP.ru hP.sz hp4 (by decide) hb.1 (hP.so.ix hx)
  refine conI (by decide +kernel) ⟨fun _ => rfl, rfl, by simp⟩ (fun X C => ?_)
  change V X (0, 0) w h 0 [some (.ref 0), some (.int (nI x))] []
  refine v_aload_n C (oX8_takeLabels.at 0 rfl) rfl ?_
  refine v_getf C (oX8_takeLabels.at 1 rfl) fX8_50 hP.ob rfl ?_
  refine v_aload_n C (oX8_takeLabels.at 2 rfl) rfl ?_
  refine v_getf C (oX8_takeLabels.at 3 rfl) fX8_10 hP.ob rfl ?_
  refine v_aload_n C (oX8_takeLabels.at 4 rfl) rfl ?_
  refine v_getf C (oX8_takeLabels.at 5 rfl) fX8_22 hP.ob rfl ?_
  refine v_getf C (oX8_takeLabels.at 6 rfl) fX8_217 g0 rfl ?_
  refine v_iload_n C (oX8_takeLabels.at 7 rfl) rfl ?_
  refine v_iald C (oX8_takeLabels.at 8 rfl) g1 (by decide) rfl (by omega) (g2 x hx) ?_
  refine v_aload_n C (oX8_takeLabels.at 9 rfl) rfl ?_
  refine v_getf C (oX8_takeLabels.at 10 rfl) fX8_22 hP.ob rfl ?_
  refine v_getf C (oX8_takeLabels.at 11 rfl) fX8_224 g0 rfl ?_
  refine v_iload_n C (oX8_takeLabels.at 12 rfl) rfl ?_
  refine v_iald C (oX8_takeLabels.at 13 rfl) g3 (by decide) rfl (by omega) (g4 x hx) ?_
  refine v_callV C (oX8_takeLabels.at 14 rfl) cX8_372 hp4.1 (kt) rfl rfl rfl ⟨rfl, rfl⟩ rfl rfl (fun _ => rfl) (fun h' hp => ?_)
  dsimp only [Option.toList, List.cons_append, List.nil_append]
  refine v_vret C (oX8_takeLabels.at 15 rfl) rfl rfl ⟨Nat.le_refl _, Nat.le_refl _⟩ ⟨rfl, hP.set_pt (fun j hj => hp.2 j (by omega)) ⟨_, _, _, _, _, hp.1⟩, _, _, _, _, hp.1, fun i hi => ⟨if_pos ⟨Nat.zero_le _, hi⟩, ?_⟩⟩
  have := cel_lt (k := S.1) (len := S.2.2.2.1 x) (x := S.2.2.2.2 x) (i := i) (by omega)
  show cel _ _ _ _ < 3
  omega
/-- the numbers of preimages of a register's word -/
def pAll (S : Sc) (r : Nat) : Nat := sumN (wB S.1 (S.1 ^ (S.2.1 - 1)) S.2.2.1 (rlb S r) (S.2.2.2.1 r) baA (S.2.2.2.1 r)) (S.1 ^ (S.2.1 - 1))
def pClo (S : Sc) (r : Nat) : Nat := if S.2.2.2.1 r = 0 then 0 else sumN (fun v => wB S.1 (S.1 ^ (S.2.1 - 1)) S.2.2.1 (rlb S r) (S.2.2.2.1 r) (baT v) (S.2.2.2.1 r) v) (S.1 ^ (S.2.1 - 1))
theorem k8_preimageCountX {w : Wt} {h : Hp} {x c : Int32} (hx : ¬ InB x 4) : ConN mX8_preimageCount 1 (1, 6) w [.ref 0, .int x, .int c] h (.inr EIOO) (fun h' => h' = h) := by
  refine conI (by decide +kernel) ⟨fun _ => rfl, rfl, by simp⟩ (fun X C => ?_)
  change V X (0, 0) w h 0 [some (.ref 0), some (.int x), some (.int c)] []
  refine v_iload_n C (oX8_preimageCount.at 0 rfl) rfl ?_
  exact v_callST C (oX8_preimageCount.at 1 rfl) cX8_210 (k_needRegX hx) rfl rfl rfl rfl rfl (fun h' hp => ⟨rfl, hp⟩)
theorem k8_preimageCount {w : Wt} {G h : Hp} {S Z : Sc} {sv : Bool} {F : Sf} {x : Nat} {c : Bool} (hP : PA G h S sv Z F) (hx : x < 4) : ConN mX8_preimageCount 5 (0, 0) w [.ref 0, .int (nI x), .int (bI c)] h (.inl (some (.int (nI (if c then pClo S x else pAll S x))))) (fun h' => PA G h' S sv Z F) := by
  have hb := hP.so.2 x hx
  refine conI (by decide +kernel) ⟨fun _ => rfl, rfl, by simp⟩ (fun X C => ?_)
  change V X (0, 0) w h 0 [some (.ref 0), some (.int (nI x)), some (.int (bI c))] []
  refine v_iload_n C (oX8_preimageCount.at 0 rfl) rfl ?_
  refine v_callS C (oX8_preimageCount.at 1 rfl) cX8_210 (k_needReg (InB.of hx (by decide))) rfl rfl rfl ⟨rfl, rfl⟩ rfl rfl (fun _ => rfl) (fun h' hp => ?_)
  rw [show h' = _ from hp]
  dsimp only [Option.toList, List.cons_append, List.nil_append]
  refine v_aload_n C (oX8_preimageCount.at 2 rfl) rfl ?_
  refine v_iload_n C (oX8_preimageCount.at 3 rfl) rfl ?_
  refine v_callV C (oX8_preimageCount.at 4 rfl) cX8_250 hP.ob (k8_takeLabels hP hx) rfl rfl rfl ⟨rfl, rfl⟩ rfl rfl (fun _ => rfl) (fun h' hp => ?_)
  dsimp only [Option.toList, List.cons_append, List.nil_append]
  obtain ⟨hP1, a, b, lf, Wf, hp4, hlb⟩ := hp
  obtain ⟨h1, rfl⟩ : ∃ q, q = h' := ⟨h', rfl⟩
  have ka := k_countAll (w := w) hP1.ru hP.sz hp4 (by decide) hb.1 hlb
  have kc := k_countClosed (w := w) hP1.ru hP.sz hp4 (by decide) hb.1 hlb
  refine v_iload_n C (oX8_preimageCount.at 5 rfl) rfl ?_
  refine v_if_eqB C (oX8_preimageCount.at 6 rfl) (tgt := 27) (by decide) (fun hc => ?_) (fun hc => ?_)
  · rw [hc] at C
    refine v_aload_n C (oX8_preimageCount.at 13 rfl) rfl ?_
    refine v_getf C (oX8_preimageCount.at 14 rfl) fX8_50 hP1.ob rfl ?_
    refine v_aload_n C (oX8_preimageCount.at 15 rfl) rfl ?_
    refine v_getf C (oX8_preimageCount.at 16 rfl) fX8_10 hP1.ob rfl ?_
    refine v_callV C (oX8_preimageCount.at 17 rfl) cX8_257 hp4.1 (ka) rfl rfl rfl ⟨rfl, rfl⟩ rfl rfl (fun _ => rfl) (fun h' hp => ?_)
    dsimp only [Option.toList, List.cons_append, List.nil_append]
    obtain ⟨⟨Wf', hq, -⟩, hfr⟩ := hp
    exact v_iret C (oX8_preimageCount.at 18 rfl) rfl rfl ⟨Nat.le_refl _, Nat.le_refl _⟩ ⟨rfl, hP1.set_pt (fun j hj => hfr j (by omega)) ⟨_, _, _, _, _, hq⟩⟩
  · rw [hc] at C
    refine v_aload_n C (oX8_preimageCount.at 7 rfl) rfl ?_
    refine v_getf C (oX8_preimageCount.at 8 rfl) fX8_50 hP1.ob rfl ?_
    refine v_aload_n C (oX8_preimageCount.at 9 rfl) rfl ?_
    refine v_getf C (oX8_preimageCount.at 10 rfl) fX8_10 hP1.ob rfl ?_
    refine v_callV C (oX8_preimageCount.at 11 rfl) cX8_253 hp4.1 (kc) rfl rfl rfl ⟨rfl, rfl⟩ rfl rfl (fun _ => rfl) (fun h' hp => ?_)
    dsimp only [Option.toList, List.cons_append, List.nil_append]
    obtain ⟨⟨Wf', hq⟩, hfr⟩ := hp
    refine v_goto C (oX8_preimageCount.at 12 rfl) (tgt := 38) (by decide) ?_
    exact v_iret C (oX8_preimageCount.at 18 rfl) rfl rfl ⟨Nat.le_refl _, Nat.le_refl _⟩ ⟨rfl, hP1.set_pt (fun j hj => hfr j (by omega)) ⟨_, _, _, _, _, hq⟩⟩
theorem k8_betweenR {w : Wt} {h : Hp} {x y v : Int32} (hx : ¬ InB x 4) : ConN mX8_preimagesBetween 1 (1, 6) w [.ref 0, .int x, .int y, .int v] h (.inr EIOO) (fun h' => h' = h) := by
  refine conI (by decide +kernel) ⟨fun _ => rfl, rfl, by simp⟩ (fun X C => ?_)
  change V X (0, 0) w h 0 [some (.ref 0), some (.int x), some (.int y), some (.int v)] []
  refine v_iload_n C (oX8_preimagesBetween.at 0 rfl) rfl ?_
  exact v_callST C (oX8_preimagesBetween.at 1 rfl) cX8_210 (k_needRegX hx) rfl rfl rfl rfl rfl (fun h' hp => ⟨rfl, hp⟩)
theorem k8_betweenF {w : Wt} {G h : Hp} {S Z : Sc} {sv : Bool} {F : Sf} {x : Nat} {y v : Int32} (hP : PA G h S sv Z F) (hx : x < 4) (hy : ¬ InB y (S.1 ^ (S.2.1 - 1))) : ConN mX8_preimagesBetween 1 (1, 6) w [.ref 0, .int (nI x), .int y, .int v] h (.inr EIOO) (fun h' => h' = h) := by
  refine conI (by decide +kernel) ⟨fun _ => rfl, rfl, by simp⟩ (fun X C => ?_)
  change V X (0, 0) w h 0 [some (.ref 0), some (.int (nI x)), some (.int y), some (.int v)] []
  refine v_iload_n C (oX8_preimagesBetween.at 0 rfl) rfl ?_
  refine v_callS C (oX8_preimagesBetween.at 1 rfl) cX8_210 (k_needReg (InB.of hx (by decide))) rfl rfl rfl ⟨rfl, rfl⟩ rfl rfl (fun _ => rfl) (fun h' hp => ?_)
  rw [show h' = _ from hp]
  dsimp only [Option.toList, List.cons_append, List.nil_append]
  refine v_aload_n C (oX8_preimagesBetween.at 2 rfl) rfl ?_
  refine v_iload_n C (oX8_preimagesBetween.at 3 rfl) rfl ?_
  exact v_callVT C (oX8_preimagesBetween.at 4 rfl) cX8_274 hP.ob (k_needNodeX hP.ob hP.ru.ro hy) rfl rfl rfl rfl rfl (fun h' hp => ⟨rfl, hp⟩)
theorem k8_betweenL {w : Wt} {G h : Hp} {S Z : Sc} {sv : Bool} {F : Sf} {x y : Nat} {v : Int32} (hP : PA G h S sv Z F) (hx : x < 4) (hy : y < S.1 ^ (S.2.1 - 1)) (hv : ¬ InB v (S.1 ^ (S.2.1 - 1))) : ConN mX8_preimagesBetween 1 (1, 6) w [.ref 0, .int (nI x), .int (nI y), .int v] h (.inr EIOO) (fun h' => h' = h) := by
  have hn := hP.sz.n
  refine conI (by decide +kernel) ⟨fun _ => rfl, rfl, by simp⟩ (fun X C => ?_)
  change V X (0, 0) w h 0 [some (.ref 0), some (.int (nI x)), some (.int (nI y)), some (.int v)] []
  refine v_iload_n C (oX8_preimagesBetween.at 0 rfl) rfl ?_
  refine v_callS C (oX8_preimagesBetween.at 1 rfl) cX8_210 (k_needReg (InB.of hx (by decide))) rfl rfl rfl ⟨rfl, rfl⟩ rfl rfl (fun _ => rfl) (fun h' hp => ?_)
  rw [show h' = _ from hp]
  dsimp only [Option.toList, List.cons_append, List.nil_append]
  refine v_aload_n C (oX8_preimagesBetween.at 2 rfl) rfl ?_
  refine v_iload_n C (oX8_preimagesBetween.at 3 rfl) rfl ?_
  refine v_callV C (oX8_preimagesBetween.at 4 rfl) cX8_274 hP.ob (k_needNode hP.ob hP.ru.ro (InB.of hy (by omega))) rfl rfl rfl ⟨rfl, rfl⟩ rfl rfl (fun _ => rfl) (fun h' hp => ?_)
  rw [show h' = _ from hp]
  dsimp only [Option.toList, List.cons_append, List.nil_append]
  refine v_aload_n C (oX8_preimagesBetween.at 5 rfl) rfl ?_
  refine v_iload_n C (oX8_preimagesBetween.at 6 rfl) rfl ?_
  exact v_callVT C (oX8_preimagesBetween.at 7 rfl) cX8_274 hP.ob (k_needNodeX hP.ob hP.ru.ro hv) rfl rfl rfl rfl rfl (fun h' hp => ⟨rfl, hp⟩)
theorem k8_between {w : Wt} {G h : Hp} {S Z : Sc} {sv : Bool} {F : Sf} {x y v : Nat} (hP : PA G h S sv Z F) (hx : x < 4) (hy : y < S.1 ^ (S.2.1 - 1)) (hv : v < S.1 ^ (S.2.1 - 1)) : ConN mX8_preimagesBetween 5 (0, 0) w [.ref 0, .int (nI x), .int (nI y), .int (nI v)] h (.inl (some (.int (nI (wB S.1 (S.1 ^ (S.2.1 - 1)) S.2.2.1 (rlb S x) (S.2.2.2.1 x) (baT v) (S.2.2.2.1 x) y))))) (fun h' => PA G h' S sv Z F) := by
  have hn := hP.sz.n
  have hb := hP.so.2 x hx
  refine conI (by decide +kernel) ⟨fun _ => rfl, rfl, by simp⟩ (fun X C => ?_)
  change V X (0, 0) w h 0 [some (.ref 0), some (.int (nI x)), some (.int (nI y)), some (.int (nI v))] []
  refine v_iload_n C (oX8_preimagesBetween.at 0 rfl) rfl ?_
  refine v_callS C (oX8_preimagesBetween.at 1 rfl) cX8_210 (k_needReg (InB.of hx (by decide))) rfl rfl rfl ⟨rfl, rfl⟩ rfl rfl (fun _ => rfl) (fun h' hp => ?_)
  rw [show h' = _ from hp]
  dsimp only [Option.toList, List.cons_append, List.nil_append]
  refine v_aload_n C (oX8_preimagesBetween.at 2 rfl) rfl ?_
  refine v_iload_n C (oX8_preimagesBetween.at 3 rfl) rfl ?_
  refine v_callV C (oX8_preimagesBetween.at 4 rfl) cX8_274 hP.ob (k_needNode hP.ob hP.ru.ro (InB.of hy (by omega))) rfl rfl rfl ⟨rfl, rfl⟩ rfl rfl (fun _ => rfl) (fun h' hp => ?_)
  rw [show h' = _ from hp]
  dsimp only [Option.toList, List.cons_append, List.nil_append]
  refine v_aload_n C (oX8_preimagesBetween.at 5 rfl) rfl ?_
  refine v_iload_n C (oX8_preimagesBetween.at 6 rfl) rfl ?_
  refine v_callV C (oX8_preimagesBetween.at 7 rfl) cX8_274 hP.ob (k_needNode hP.ob hP.ru.ro (InB.of hv (by omega))) rfl rfl rfl ⟨rfl, rfl⟩ rfl rfl (fun _ => rfl) (fun h' hp => ?_)
  rw [show h' = _ from hp]
  dsimp only [Option.toList, List.cons_append, List.nil_append]
  refine v_aload_n C (oX8_preimagesBetween.at 8 rfl) rfl ?_
  refine v_iload_n C (oX8_preimagesBetween.at 9 rfl) rfl ?_
  refine v_callV C (oX8_preimagesBetween.at 10 rfl) cX8_250 hP.ob (k8_takeLabels hP hx) rfl rfl rfl ⟨rfl, rfl⟩ rfl rfl (fun _ => rfl) (fun h' hp => ?_)
  dsimp only [Option.toList, List.cons_append, List.nil_append]
  obtain ⟨hP1, a, b, lf, Wf, hp4, hlb⟩ := hp
  obtain ⟨h1, rfl⟩ : ∃ q, q = h' := ⟨h', rfl⟩
  have kb := k_countBetween (w := w) (first := y) (last := v) hP1.ru hP.sz hp4 (by decide) hb.1 hlb hy hv
  refine v_aload_n C (oX8_preimagesBetween.at 11 rfl) rfl ?_
  refine v_getf C (oX8_preimagesBetween.at 12 rfl) fX8_50 hP1.ob rfl ?_
  refine v_aload_n C (oX8_preimagesBetween.at 13 rfl) rfl ?_
  refine v_getf C (oX8_preimagesBetween.at 14 rfl) fX8_10 hP1.ob rfl ?_
  refine v_iload_n C (oX8_preimagesBetween.at 15 rfl) rfl ?_
  refine v_iload_n C (oX8_preimagesBetween.at 16 rfl) rfl ?_
  refine v_callV C (oX8_preimagesBetween.at 17 rfl) cX8_277 hp4.1 (kb) rfl rfl rfl ⟨rfl, rfl⟩ rfl rfl (fun _ => rfl) (fun h' hp => ?_)
  dsimp only [Option.toList, List.cons_append, List.nil_append]
  obtain ⟨⟨Wf', hq, -⟩, hfr⟩ := hp
  exact v_iret C (oX8_preimagesBetween.at 18 rfl) rfl rfl ⟨Nat.le_refl _, Nat.le_refl _⟩ ⟨rfl, hP1.set_pt (fun j hj => hfr j (by omega)) ⟨_, _, _, _, _, hq⟩⟩
theorem le_of_n {x : Nat} {b : Nat} (h : x ≤ b) (hb : b < 2 ^ 31) : nI x ≤ nI b := by
  rw [Int32.le_iff_toInt_le, nI_toInt (by omega), nI_toInt hb]; omega
theorem nlt_of_n {x : Nat} {a : Nat} (h : a ≤ x) (hb : x < 2 ^ 31) : ¬ nI x < nI a := by
  rw [Int32.lt_iff_toInt_lt, nI_toInt hb, nI_toInt (by omega)]; omega
theorem k8_fixedWords {w : Wt} {G h : Hp} {S Z : Sc} {sv : Bool} {F : Sf} {x : Nat} (hP : PA G h S sv Z F) (hx1 : 1 ≤ x) (hx : x ≤ 8) : ConN mX8_fixedWords 3 (0, 0) w [.ref 0, .int (nI x)] h (.inl (some (.int (nI (sumN (fun v => fxW (S.1 ^ (S.2.1 - 1)) S.1 S.2.2.1 v x v) (S.1 ^ (S.2.1 - 1))))))) (fun h' => PA G h' S sv Z F) := by
  obtain ⟨a, b, n, lf, Wf, hp4⟩ := hP.pt
  have kf := k_countFixed (w := w) (L := x) hP.ru hP.sz hp4 (by decide) hx
  refine conI (by decide +kernel) ⟨fun _ => rfl, rfl, by simp⟩ (fun X C => ?_)
  change V X (0, 0) w h 0 [some (.ref 0), some (.int (nI x))] []
  refine v_iload_n C (oX8_fixedWords.at 0 rfl) rfl ?_
  refine v_iconst C (oX8_fixedWords.at 1 rfl) (v := nI 1) rfl ?_
  refine v_bipush C (oX8_fixedWords.at 2 rfl) (v := nI 8) rfl ?_
  refine v_callS C (oX8_fixedWords.at 3 rfl) cX8_280 (k_needLength (nlt_of_n hx1 (by omega)) (le_of_n hx (by decide))) rfl rfl rfl ⟨rfl, rfl⟩ rfl rfl (fun _ => rfl) (fun h' hp => ?_)
  rw [show h' = _ from hp]
  dsimp only [Option.toList, List.cons_append, List.nil_append]
  refine v_aload_n C (oX8_fixedWords.at 4 rfl) rfl ?_
  refine v_getf C (oX8_fixedWords.at 5 rfl) fX8_50 hP.ob rfl ?_
  refine v_aload_n C (oX8_fixedWords.at 6 rfl) rfl ?_
  refine v_getf C (oX8_fixedWords.at 7 rfl) fX8_10 hP.ob rfl ?_
  refine v_iload_n C (oX8_fixedWords.at 8 rfl) rfl ?_
  refine v_callV C (oX8_fixedWords.at 9 rfl) cX8_292 hp4.1 (kf) rfl rfl rfl ⟨rfl, rfl⟩ rfl rfl (fun _ => rfl) (fun h' hp => ?_)
  dsimp only [Option.toList, List.cons_append, List.nil_append]
  obtain ⟨⟨Wf', hq⟩, hfr⟩ := hp
  exact v_iret C (oX8_fixedWords.at 10 rfl) rfl rfl ⟨Nat.le_refl _, Nat.le_refl _⟩ ⟨rfl, hP.set_pt (fun j hj => hfr j (by omega)) ⟨_, _, _, _, _, hq⟩⟩
theorem k8_wordsWithX {w : Wt} {h : Hp} {x y : Int32} (hx : ¬ (¬ x < nI 0 ∧ x ≤ nI 7)) : ConN mX8_wordsWith 1 (1, 6) w [.ref 0, .int x, .int y] h (.inr EIAE) (fun h' => h' = h) := by
  refine conI (by decide +kernel) ⟨fun _ => rfl, rfl, by simp⟩ (fun X C => ?_)
  change V X (0, 0) w h 0 [some (.ref 0), some (.int x), some (.int y)] []
  refine v_iload_n C (oX8_wordsWith.at 0 rfl) rfl ?_
  refine v_iconst C (oX8_wordsWith.at 1 rfl) (v := nI 0) rfl ?_
  refine v_bipush C (oX8_wordsWith.at 2 rfl) (v := nI 7) rfl ?_
  exact v_callST C (oX8_wordsWith.at 3 rfl) cX8_280 (k_needLengthX hx) rfl rfl rfl rfl rfl (fun h' hp => ⟨rfl, hp⟩)
theorem k8_wordsWith {w : Wt} {G h : Hp} {S Z : Sc} {sv : Bool} {F : Sf} {x : Nat} {y : Int32} (hP : PA G h S sv Z F) (hx : x ≤ 7) : ConN mX8_wordsWith 3 (0, 0) w [.ref 0, .int (nI x), .int y] h (.inl (some (.int (nI (cnt (fun z => decide (nI (pcN (S.1 ^ (S.2.1 - 1)) S.1 S.2.2.1 x z) = y)) (S.1 ^ x)))))) (fun h' => PA G h' S sv Z F) := by
  obtain ⟨a, b, n, lf, Wf, hp4⟩ := hP.pt
  have ks := k_surveyWords (w := w) (L := x) (wt := y) hP.ru hP.sz hp4 (by decide) hx
  refine conI (by decide +kernel) ⟨fun _ => rfl, rfl, by simp⟩ (fun X C => ?_)
  change V X (0, 0) w h 0 [some (.ref 0), some (.int (nI x)), some (.int y)] []
  refine v_iload_n C (oX8_wordsWith.at 0 rfl) rfl ?_
  refine v_iconst C (oX8_wordsWith.at 1 rfl) (v := nI 0) rfl ?_
  refine v_bipush C (oX8_wordsWith.at 2 rfl) (v := nI 7) rfl ?_
  refine v_callS C (oX8_wordsWith.at 3 rfl) cX8_280 (k_needLength (nlt_of_n (Nat.zero_le _) (by omega)) (le_of_n hx (by decide))) rfl rfl rfl ⟨rfl, rfl⟩ rfl rfl (fun _ => rfl) (fun h' hp => ?_)
  rw [show h' = _ from hp]
  dsimp only [Option.toList, List.cons_append, List.nil_append]
  refine v_aload_n C (oX8_wordsWith.at 4 rfl) rfl ?_
  refine v_getf C (oX8_wordsWith.at 5 rfl) fX8_50 hP.ob rfl ?_
  refine v_aload_n C (oX8_wordsWith.at 6 rfl) rfl ?_
  refine v_getf C (oX8_wordsWith.at 7 rfl) fX8_10 hP.ob rfl ?_
  refine v_iload_n C (oX8_wordsWith.at 8 rfl) rfl ?_
  refine v_iload_n C (oX8_wordsWith.at 9 rfl) rfl ?_
  refine v_callV C (oX8_wordsWith.at 10 rfl) cX8_283 hp4.1 (ks) rfl rfl rfl ⟨rfl, rfl⟩ rfl rfl (fun _ => rfl) (fun h' hp => ?_)
  dsimp only [Option.toList, List.cons_append, List.nil_append]
  obtain ⟨⟨lf', Wf', hq⟩, hfr⟩ := hp
  have hP1 : PA G h' S sv Z F := hP.set_pt (fun j hj => hfr j (by omega)) ⟨_, _, _, _, _, hq⟩
  refine v_aload_n C (oX8_wordsWith.at 11 rfl) rfl ?_
  refine v_getf C (oX8_wordsWith.at 12 rfl) fX8_50 hP1.ob rfl ?_
  refine v_getf C (oX8_wordsWith.at 13 rfl) fX8_286 hq.1 rfl ?_
  exact v_iret C (oX8_wordsWith.at 14 rfl) rfl rfl ⟨Nat.le_refl _, Nat.le_refl _⟩ ⟨rfl, hP1⟩
theorem k8_mostPreimagesX {w : Wt} {h : Hp} {x : Int32} (hx : ¬ (¬ x < nI 0 ∧ x ≤ nI 7)) : ConN mX8_mostPreimages 1 (1, 6) w [.ref 0, .int x] h (.inr EIAE) (fun h' => h' = h) := by
  refine conI (by decide +kernel) ⟨fun _ => rfl, rfl, by simp⟩ (fun X C => ?_)
  change V X (0, 0) w h 0 [some (.ref 0), some (.int x)] []
  refine v_iload_n C (oX8_mostPreimages.at 0 rfl) rfl ?_
  refine v_iconst C (oX8_mostPreimages.at 1 rfl) (v := nI 0) rfl ?_
  refine v_bipush C (oX8_mostPreimages.at 2 rfl) (v := nI 7) rfl ?_
  exact v_callST C (oX8_mostPreimages.at 3 rfl) cX8_280 (k_needLengthX hx) rfl rfl rfl rfl rfl (fun h' hp => ⟨rfl, hp⟩)
theorem k8_mostPreimages {w : Wt} {G h : Hp} {S Z : Sc} {sv : Bool} {F : Sf} {x : Nat} (hP : PA G h S sv Z F) (hx : x ≤ 7) : ConN mX8_mostPreimages 3 (0, 0) w [.ref 0, .int (nI x)] h (.inl (some (.int (nI (maxN (pcN (S.1 ^ (S.2.1 - 1)) S.1 S.2.2.1 x) (S.1 ^ x)))))) (fun h' => PA G h' S sv Z F) := by
  obtain ⟨a, b, n, lf, Wf, hp4⟩ := hP.pt
  have ks := k_surveyWords (w := w) (L := x) (wt := nI 0) hP.ru hP.sz hp4 (by decide) hx
  refine conI (by decide +kernel) ⟨fun _ => rfl, rfl, by simp⟩ (fun X C => ?_)
  change V X (0, 0) w h 0 [some (.ref 0), some (.int (nI x))] []
  refine v_iload_n C (oX8_mostPreimages.at 0 rfl) rfl ?_
  refine v_iconst C (oX8_mostPreimages.at 1 rfl) (v := nI 0) rfl ?_
  refine v_bipush C (oX8_mostPreimages.at 2 rfl) (v := nI 7) rfl ?_
  refine v_callS C (oX8_mostPreimages.at 3 rfl) cX8_280 (k_needLength (nlt_of_n (Nat.zero_le _) (by omega)) (le_of_n hx (by decide))) rfl rfl rfl ⟨rfl, rfl⟩ rfl rfl (fun _ => rfl) (fun h' hp => ?_)
  rw [show h' = _ from hp]
  dsimp only [Option.toList, List.cons_append, List.nil_append]
  refine v_aload_n C (oX8_mostPreimages.at 4 rfl) rfl ?_
  refine v_getf C (oX8_mostPreimages.at 5 rfl) fX8_50 hP.ob rfl ?_
  refine v_aload_n C (oX8_mostPreimages.at 6 rfl) rfl ?_
  refine v_getf C (oX8_mostPreimages.at 7 rfl) fX8_10 hP.ob rfl ?_
  refine v_iload_n C (oX8_mostPreimages.at 8 rfl) rfl ?_
  refine v_iconst C (oX8_mostPreimages.at 9 rfl) (v := nI 0) rfl ?_
  refine v_callV C (oX8_mostPreimages.at 10 rfl) cX8_283 hp4.1 (ks) rfl rfl rfl ⟨rfl, rfl⟩ rfl rfl (fun _ => rfl) (fun h' hp => ?_)
  dsimp only [Option.toList, List.cons_append, List.nil_append]
  obtain ⟨⟨lf', Wf', hq⟩, hfr⟩ := hp
  have hP1 : PA G h' S sv Z F := hP.set_pt (fun j hj => hfr j (by omega)) ⟨_, _, _, _, _, hq⟩
  refine v_aload_n C (oX8_mostPreimages.at 11 rfl) rfl ?_
  refine v_getf C (oX8_mostPreimages.at 12 rfl) fX8_50 hP1.ob rfl ?_
  refine v_getf C (oX8_mostPreimages.at 13 rfl) fX8_289 hq.1 rfl ?_
  exact v_iret C (oX8_mostPreimages.at 14 rfl) rfl rfl ⟨Nat.le_refl _, Nat.le_refl _⟩ ⟨rfl, hP1⟩
