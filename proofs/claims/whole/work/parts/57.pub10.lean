/-! ===== the program's methods: properties ===== -/
theorem snB_congr {f g : Nat → Int32} {a st : Nat} : ∀ n, (∀ j, j < n → f (a + j * st) = g (a + j * st)) → snB f a st n = snB g a st n
  | 0, _ => rfl
  | n + 1, h => by rw [snB, snB, snB_congr n (fun j hj => h j (by omega)), h n (by omega)]
theorem dfB_congr {f g : Nat → Int32} {k a st : Nat} (h : ∀ j, j < k → f (a + j * st) = g (a + j * st)) : dfB f k a st = dfB g k a st := by unfold dfB; rw [snB_congr k h]
theorem allB_congr {p q : Nat → Bool} : ∀ n, (∀ i, i < n → p i = q i) → allB p n = allB q n
  | 0, _ => rfl
  | n + 1, h => by rw [allB, allB, allB_congr n (fun i hi => h i (by omega)), h n (by omega)]
def tI (T : Nat → Nat) : Nat → Int32 := fun i => nI (T i)
def lfP (S : Sc) : Bool := allB (fun i => dfB (tI S.2.2.1) S.1 i (S.1 ^ (S.2.1 - 1))) (S.1 ^ (S.2.1 - 1))
def rtP (S : Sc) : Bool := allB (fun i => dfB (tI S.2.2.1) S.1 (i * S.1) 1) (S.1 ^ (S.2.1 - 1))
def baP (S : Sc) : Bool := allB (fun c => decide (cntE S.2.2.1 c (S.1 ^ S.2.1) = S.1 ^ (S.2.1 - 1))) S.1
theorem k8_hasX {w : Wt} {h : Hp} {x : Int32} (hx : ¬ InB x 7) : ConN mX8_has 1 (1, 6) w [.ref 0, .int x] h (.inr EIOO) (fun h' => h' = h) := by
  have hn := nInB (by decide) hx
  refine conI (by decide +kernel) ⟨fun _ => rfl, rfl, by simp⟩ (fun X C => ?_)
  change V X (0, 0) w h 0 [some (.ref 0), some (.int x)] []
  refine v_iload_n C (oX8_has.at 0 rfl) rfl ?_
  refine v_tableOut C (oX8_has.at 1 rfl) (by omega) (tgt := 213) (by decide) ?_
  exact v_throwSW C rfl tIOO sr337 (oX8_has.at 83 rfl) (oX8_has.at 84 rfl) (oX8_has.at 85 rfl) (oX8_has.at 86 rfl) (oX8_has.at 87 rfl) rfl rfl ⟨rfl, rfl⟩
theorem k8_has0t {w : Wt} {G h : Hp} {S Z : Sc} {sv : Bool} {F : Sf} {e : Nat} (hP : PA G h S sv Z F) (he : Bend S.1 (S.1 ^ (S.2.1 - 1)) S.2.2.1 e) (h0 : ∀ j, j < e → Qs S e j ≠ 0) : ConN mX8_has 3 (0, 0) w [.ref 0, .int (nI 0)] h (.inl (some (.int (bI true)))) (fun h' => PA G h' S sv Z F) := by
  obtain ⟨fnd, A, hA⟩ := hP.au
  have ke := k_explore (w := w) hP.ru hP.sz hA (by decide) he
  refine conI (by decide +kernel) ⟨fun _ => rfl, rfl, by simp⟩ (fun X C => ?_)
  change V X (0, 0) w h 0 [some (.ref 0), some (.int (nI 0))] []
  refine v_iload_n C (oX8_has.at 0 rfl) rfl ?_
  refine v_tableIn C (oX8_has.at 1 rfl) (by decide) (by decide) (off := 43) (tgt := 44) (by decide) (by decide) ?_
  refine v_aload_n C (oX8_has.at 2 rfl) rfl ?_
  refine v_getf C (oX8_has.at 3 rfl) fX8_57 hP.ob rfl ?_
  refine v_aload_n C (oX8_has.at 4 rfl) rfl ?_
  refine v_getf C (oX8_has.at 5 rfl) fX8_10 hP.ob rfl ?_
  refine v_callV C (oX8_has.at 6 rfl) cX8_300 hA.1 (ke) rfl rfl rfl ⟨rfl, rfl⟩ rfl rfl (fun _ => rfl) (fun h' hp => ?_)
  dsimp only [Option.toList, List.cons_append, List.nil_append]
  obtain ⟨⟨A', hA', hI⟩, hfr⟩ := hp
  have hP1 : PA G h' S sv Z F := hP.set_au (fun j hj => hfr j (by omega)) ⟨e, A', hA'⟩
  refine v_aload_n C (oX8_has.at 7 rfl) rfl ?_
  refine v_getf C (oX8_has.at 8 rfl) fX8_57 hP1.ob rfl ?_
  refine v_callV C (oX8_has.at 9 rfl) cX8_310 hA'.1 (k_isWithout1 hA' (hI.no0 he h0)) rfl rfl rfl ⟨rfl, rfl⟩ rfl rfl (fun _ => rfl) (fun h' hp => ?_)
  rw [show h' = _ from hp]
  dsimp only [Option.toList, List.cons_append, List.nil_append]
  exact v_zret C (oX8_has.at 10 rfl) rfl rfl ⟨Nat.le_refl _, Nat.le_refl _⟩ ⟨rfl, hP1⟩
theorem k8_has0f {w : Wt} {G h : Hp} {S Z : Sc} {sv : Bool} {F : Sf} {e j0 : Nat} (hP : PA G h S sv Z F) (he : Bend S.1 (S.1 ^ (S.2.1 - 1)) S.2.2.1 e) (hj0 : j0 < e) (h0 : Qs S e j0 = 0) : ConN mX8_has 3 (0, 0) w [.ref 0, .int (nI 0)] h (.inl (some (.int (bI false)))) (fun h' => PA G h' S sv Z F) := by
  obtain ⟨fnd, A, hA⟩ := hP.au
  have hle := he.le hP.sz
  have ke := k_explore (w := w) hP.ru hP.sz hA (by decide) he
  refine conI (by decide +kernel) ⟨fun _ => rfl, rfl, by simp⟩ (fun X C => ?_)
  change V X (0, 0) w h 0 [some (.ref 0), some (.int (nI 0))] []
  refine v_iload_n C (oX8_has.at 0 rfl) rfl ?_
  refine v_tableIn C (oX8_has.at 1 rfl) (by decide) (by decide) (off := 43) (tgt := 44) (by decide) (by decide) ?_
  refine v_aload_n C (oX8_has.at 2 rfl) rfl ?_
  refine v_getf C (oX8_has.at 3 rfl) fX8_57 hP.ob rfl ?_
  refine v_aload_n C (oX8_has.at 4 rfl) rfl ?_
  refine v_getf C (oX8_has.at 5 rfl) fX8_10 hP.ob rfl ?_
  refine v_callV C (oX8_has.at 6 rfl) cX8_300 hA.1 (ke) rfl rfl rfl ⟨rfl, rfl⟩ rfl rfl (fun _ => rfl) (fun h' hp => ?_)
  dsimp only [Option.toList, List.cons_append, List.nil_append]
  obtain ⟨⟨A', hA', hI⟩, hfr⟩ := hp
  have hP1 : PA G h' S sv Z F := hP.set_au (fun j hj => hfr j (by omega)) ⟨e, A', hA'⟩
  refine v_aload_n C (oX8_has.at 7 rfl) rfl ?_
  refine v_getf C (oX8_has.at 8 rfl) fX8_57 hP1.ob rfl ?_
  refine v_callV C (oX8_has.at 9 rfl) cX8_310 hA'.1 (k_isWithout0 hA' (hI.at0 he hj0 h0) (by omega)) rfl rfl rfl ⟨rfl, rfl⟩ rfl rfl (fun _ => rfl) (fun h' hp => ?_)
  rw [show h' = _ from hp]
  dsimp only [Option.toList, List.cons_append, List.nil_append]
  exact v_zret C (oX8_has.at 10 rfl) rfl rfl ⟨Nat.le_refl _, Nat.le_refl _⟩ ⟨rfl, hP1⟩
theorem cycN_le {k n : Nat} {T : Nat → Nat} (hn : n ≤ 9) : cycN k n T ≤ 9 * 18 := by
  have h1 : ∀ a, a < n → sumN (cy1 k n T a) a ≤ 18 := fun a ha => by
    have h2 : sumN (cy1 k n T a) a ≤ a * 2 := sumN_le a (fun i _ => by unfold cy1; split <;> omega)
    omega
  have h3 : cycN k n T ≤ n * 18 := sumN_le n h1
  have h4 : n * 18 ≤ 9 * 18 := Nat.mul_le_mul_right _ hn
  omega
theorem k8_has1 {w : Wt} {G h : Hp} {S Z : Sc} {sv : Bool} {F : Sf} (hP : PA G h S sv Z F) : ConN mX8_has 5 (0, 0) w [.ref 0, .int (nI 1)] h (.inl (some (.int (bI (decide (cycN S.1 (S.1 ^ (S.2.1 - 1)) S.2.2.1 = 0)))))) (fun h' => PA G h' S sv Z F) := by
  have hcy := cycN_le (k := S.1) (T := S.2.2.1) hP.sz.n
  refine conI (by decide +kernel) ⟨fun _ => rfl, rfl, by simp⟩ (fun X C => ?_)
  change V X (0, 0) w h 0 [some (.ref 0), some (.int (nI 1))] []
  refine v_iload_n C (oX8_has.at 0 rfl) rfl ?_
  refine v_tableIn C (oX8_has.at 1 rfl) (by decide) (by decide) (off := 62) (tgt := 63) (by decide) (by decide) ?_
  refine v_aload_n C (oX8_has.at 11 rfl) rfl ?_
  refine v_getf C (oX8_has.at 12 rfl) fX8_64 hP.ob rfl ?_
  refine v_aload_n C (oX8_has.at 13 rfl) rfl ?_
  refine v_getf C (oX8_has.at 14 rfl) fX8_10 hP.ob rfl ?_
  refine v_callV C (oX8_has.at 15 rfl) cX8_325 hP.pr.1 (k_countOnCycles hP.ru hP.sz hP.pr (by decide)) rfl rfl rfl ⟨rfl, rfl⟩ rfl rfl (fun _ => rfl) (fun h' hp => ?_)
  dsimp only [Option.toList, List.cons_append, List.nil_append]
  obtain ⟨g, rfl⟩ := hp
  have hP1 : PA G (hu h 56 (jo 45 g)) S sv Z F := hP.set_pr (fun j hj => hu_n _ _ (by omega)) ⟨(hu_n _ _ (by omega)).trans hP.pr.1, g, hu_s _ _ _⟩
  refine v_if_neN C (oX8_has.at 16 rfl) (tgt := 81) (by decide) (by omega) (fun hc => ?_) (fun hc => ?_)
  · rw [decide_eq_false hc] at C
    refine v_iconst C (oX8_has.at 19 rfl) (v := nI 0) rfl ?_
    exact v_zret0 C (oX8_has.at 20 rfl) rfl rfl ⟨Nat.le_refl _, Nat.le_refl _⟩ ⟨rfl, hP1⟩
  · rw [decide_eq_true hc] at C
    refine v_iconst C (oX8_has.at 17 rfl) (v := nI 1) rfl ?_
    refine v_goto C (oX8_has.at 18 rfl) (tgt := 82) (by decide) ?_
    exact v_zret1 C (oX8_has.at 20 rfl) rfl rfl ⟨Nat.le_refl _, Nat.le_refl _⟩ ⟨rfl, hP1⟩
theorem k8_has2 {w : Wt} {G h : Hp} {S Z : Sc} {sv : Bool} {F : Sf} (hP : PA G h S sv Z F) : ConN mX8_has 2 (0, 0) w [.ref 0, .int (nI 2)] h (.inl (some (.int (bI (lfP S))))) (fun h' => h' = h) := by
  have hk := hP.sz.k
  have hn := hP.sz.n
  have hm := hP.sz.m
  have hnk := hP.sz.nk
  obtain ⟨f, ht, hT⟩ := hP.tb
  have kp := k_isLeftPermutive (w := w) hP.ru.ro (by omega) hn (by omega) ht
  rw [allB_congr (p := fun i => dfB f S.1 i (S.1 ^ (S.2.1 - 1))) (q := fun i => dfB (tI S.2.2.1) S.1 i (S.1 ^ (S.2.1 - 1))) _ (fun i hi => dfB_congr (fun j hj => (hT _ (by
    have h1 : (j + 1) * S.1 ^ (S.2.1 - 1) ≤ S.1 * S.1 ^ (S.2.1 - 1) := Nat.mul_le_mul_right _ hj
    rw [Nat.add_mul, Nat.one_mul, Nat.mul_comm S.1] at h1
    omega)).1))] at kp
  refine conI (by decide +kernel) ⟨fun _ => rfl, rfl, by simp⟩ (fun X C => ?_)
  change V X (0, 0) w h 0 [some (.ref 0), some (.int (nI 2))] []
  refine v_iload_n C (oX8_has.at 0 rfl) rfl ?_
  refine v_tableIn C (oX8_has.at 1 rfl) (by decide) (by decide) (off := 82) (tgt := 83) (by decide) (by decide) ?_
  refine v_aload_n C (oX8_has.at 21 rfl) rfl ?_
  refine v_getf C (oX8_has.at 22 rfl) fX8_10 hP.ob rfl ?_
  refine v_callV C (oX8_has.at 23 rfl) cX8_328 hP.ru.ro (kp) rfl rfl rfl ⟨rfl, rfl⟩ rfl rfl (fun _ => rfl) (fun h' hp => ?_)
  rw [show h' = _ from hp]
  dsimp only [Option.toList, List.cons_append, List.nil_append]
  exact v_zret C (oX8_has.at 24 rfl) rfl rfl ⟨Nat.le_refl _, Nat.le_refl _⟩ ⟨rfl, rfl⟩
theorem k8_has3 {w : Wt} {G h : Hp} {S Z : Sc} {sv : Bool} {F : Sf} (hP : PA G h S sv Z F) : ConN mX8_has 2 (0, 0) w [.ref 0, .int (nI 3)] h (.inl (some (.int (bI (rtP S))))) (fun h' => h' = h) := by
  have hk := hP.sz.k
  have hn := hP.sz.n
  have hm := hP.sz.m
  have hnk := hP.sz.nk
  obtain ⟨f, ht, hT⟩ := hP.tb
  have kp := k_isRightPermutive (w := w) hP.ru.ro (by omega) hn (by omega) ht
  rw [allB_congr (p := fun i => dfB f S.1 (i * S.1) 1) (q := fun i => dfB (tI S.2.2.1) S.1 (i * S.1) 1) _ (fun i hi => dfB_congr (fun j hj => (hT _ (by
    have h1 : (i + 1) * S.1 ≤ S.1 ^ (S.2.1 - 1) * S.1 := Nat.mul_le_mul_right _ hi
    rw [Nat.add_mul, Nat.one_mul] at h1
    omega)).1))] at kp
  refine conI (by decide +kernel) ⟨fun _ => rfl, rfl, by simp⟩ (fun X C => ?_)
  change V X (0, 0) w h 0 [some (.ref 0), some (.int (nI 3))] []
  refine v_iload_n C (oX8_has.at 0 rfl) rfl ?_
  refine v_tableIn C (oX8_has.at 1 rfl) (by decide) (by decide) (off := 90) (tgt := 91) (by decide) (by decide) ?_
  refine v_aload_n C (oX8_has.at 25 rfl) rfl ?_
  refine v_getf C (oX8_has.at 26 rfl) fX8_10 hP.ob rfl ?_
  refine v_callV C (oX8_has.at 27 rfl) cX8_331 hP.ru.ro (kp) rfl rfl rfl ⟨rfl, rfl⟩ rfl rfl (fun _ => rfl) (fun h' hp => ?_)
  rw [show h' = _ from hp]
  dsimp only [Option.toList, List.cons_append, List.nil_append]
  exact v_zret C (oX8_has.at 28 rfl) rfl rfl ⟨Nat.le_refl _, Nat.le_refl _⟩ ⟨rfl, rfl⟩
theorem k8_has4 {w : Wt} {G h : Hp} {S Z : Sc} {sv : Bool} {F : Sf} (hP : PA G h S sv Z F) : ConN mX8_has 2 (0, 0) w [.ref 0, .int (nI 4)] h (.inl (some (.int (bI (baP S))))) (fun h' => PA G h' S sv Z F) := by
  have hk := hP.sz.k
  have hn := hP.sz.n
  have hm := hP.sz.m
  obtain ⟨f, gg, e, v, t, a0, a1, a2, a3, a4, a5, a6, a7, a8⟩ := id hP.ru
  have kb := k_isBalanced (w := w) (T := S.2.2.1) a0 (by omega) hm hn a1 a8 a2
  refine conI (by decide +kernel) ⟨fun _ => rfl, rfl, by simp⟩ (fun X C => ?_)
  change V X (0, 0) w h 0 [some (.ref 0), some (.int (nI 4))] []
  refine v_iload_n C (oX8_has.at 0 rfl) rfl ?_
  refine v_tableIn C (oX8_has.at 1 rfl) (by decide) (by decide) (off := 98) (tgt := 99) (by decide) (by decide) ?_
  refine v_aload_n C (oX8_has.at 29 rfl) rfl ?_
  refine v_getf C (oX8_has.at 30 rfl) fX8_10 hP.ob rfl ?_
  refine v_callV C (oX8_has.at 31 rfl) cX8_334 a0 (kb) rfl rfl rfl ⟨rfl, rfl⟩ rfl rfl (fun _ => rfl) (fun h' hp => ?_)
  dsimp only [Option.toList, List.cons_append, List.nil_append]
  obtain ⟨e', rfl⟩ := hp
  exact v_zret C (oX8_has.at 32 rfl) rfl rfl ⟨Nat.le_refl _, Nat.le_refl _⟩ ⟨rfl, hP.set_ru (S' := S) hP.so ⟨rfl, rfl⟩ (fun j hj => hu_n _ _ (by omega)) ⟨f, gg, e, v, e', (hu_n _ _ (by omega)).trans a0, (hu_n _ _ (by omega)).trans a1, a2, (hu_n _ _ (by omega)).trans a3, a4, (hu_n _ _ (by omega)).trans a5, a6, (hu_n _ _ (by omega)).trans a7, hu_s _ _ _⟩⟩
