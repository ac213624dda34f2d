/-! ===== the program's methods that change the rule ===== -/
theorem PA.set_rr {G h : Hp} {S : Sc} {sv : Bool} {Z : Sc} {F : Sf} (hP : PA G h S sv Z F) {h' : Hp} {S' : Sc} (hS : ScOK S') (he : ∀ j, (j < 1 ∨ 6 < j) → (j < 13 ∨ 15 < j) → h' j = h j) (hb : RuleOK h' 1 S'.1 S'.2.1 S'.2.2.1) (hb2 : RegOK h' 13 S'.2.2.2.1 S'.2.2.2.2) : PA G h' S' sv Z F := by
  obtain ⟨p0, p1, p2, p3, p4, p5, p6, p7, p8, p9, p10, p11, p12, z1, z2, z3, z4⟩ := hP
  exact ⟨(he 0 (by omega) (by omega)).trans p0, hb, hb2, p3.eq (fun j _ _ => he j (by omega) (by omega)), p4.eq (fun j _ _ => he j (by omega) (by omega)), p5.imp (fun _ => Exists.imp (fun _ q => q.eq (fun j _ _ => he j (by omega) (by omega)))), p6.eq (fun j _ _ => he j (by omega) (by omega)), p7.imp (fun _ => Exists.imp (fun _ => Exists.imp (fun _ => Exists.imp (fun _ => Exists.imp (fun _ q => q.eq (fun j _ _ => he j (by omega) (by omega))))))), p8.imp (fun _ => Exists.imp (fun _ q => q.eq (fun j _ _ => he j (by omega) (by omega)))), p9.eq (fun j _ _ => he j (by omega) (by omega)), p10.imp (fun _ => Exists.imp (fun _ => Exists.imp (fun _ => Exists.imp (fun _ q => q.eq (fun j _ _ => he j (by omega) (by omega)))))), p11.imp (fun _ q => (he 60 (by omega) (by omega)).trans q), p12.imp (fun _ q => (he 61 (by omega) (by omega)).trans q), hS, z2, z3, fun j hj => (he j (by omega) (by omega)).trans (z4 j hj)⟩
theorem rule_tab {h : Hp} {r k wd : Nat} {T T' : Nat → Nat} {f' : Nat → Int32} (hR : RuleOK h r k wd T) (hf : ∀ i, i < k ^ wd → f' i = nI (T' i) ∧ T' i < k) : RuleOK (hu h (r + 1) (io 27 f')) r k wd T' := by
  obtain ⟨f, g, e, v, t, a0, a1, a2, a3, a4, a5, a6, a7, a8⟩ := hR
  exact ⟨f', g, e, v, t, (hu_n _ _ (by omega)).trans a0, hu_s _ _ _, hf, (hu_n _ _ (by omega)).trans a3, a4, (hu_n _ _ (by omega)).trans a5, a6, (hu_n _ _ (by omega)).trans a7, (hu_n _ _ (by omega)).trans a8⟩
def withT (S : Sc) (T : Nat → Nat) : Sc := (S.1, S.2.1, T, S.2.2.2.1, S.2.2.2.2)
theorem ScOK.withT {S : Sc} (h : ScOK S) (T : Nat → Nat) : ScOK (withT S T) := h
theorem k8_setOutput {w : Wt} {G h : Hp} {S Z : Sc} {sv : Bool} {F : Sf} {x y : Nat} (hP : PA G h S sv Z F) (hx : x < S.1 ^ S.2.1) (hy : y < S.1) : ConN mX8_setOutput 1 (0, 0) w [.ref 0, .int (nI x), .int (nI y)] h (.inl (some (.int (nI (S.2.2.1 x))))) (fun h' => PA G h' (withT S (updN S.2.2.1 x y)) sv Z F) := by
  have hm := hP.sz.m
  have hk := hP.sz.k
  obtain ⟨f, ht, hT⟩ := hP.tb
  refine conI (by decide +kernel) ⟨fun _ => rfl, rfl, by simp⟩ (fun X C => ?_)
  change V X (0, 0) w h 0 [some (.ref 0), some (.int (nI x)), some (.int (nI y)), none] []
  refine v_aload_n C (oX8_setOutput.at 0 rfl) rfl ?_
  refine v_iload_n C (oX8_setOutput.at 1 rfl) rfl ?_
  refine v_callV C (oX8_setOutput.at 2 rfl) cX8_118 hP.ob (k_needNb hP.ob hP.ru.ro (InB.of hx (by omega))) rfl rfl rfl ⟨rfl, rfl⟩ rfl rfl (fun _ => rfl) (fun h' hp => ?_)
  rw [show h' = _ from hp]
  dsimp only [Option.toList, List.cons_append, List.nil_append]
  refine v_iload_n C (oX8_setOutput.at 3 rfl) rfl ?_
  refine v_if_ltN C (oX8_setOutput.at 4 rfl) (tgt := 20) (by decide) (by omega) ?_
  refine v_iload_n C (oX8_setOutput.at 5 rfl) rfl ?_
  refine v_aload_n C (oX8_setOutput.at 6 rfl) rfl ?_
  refine v_getf C (oX8_setOutput.at 7 rfl) fX8_10 hP.ob rfl ?_
  refine v_getf C (oX8_setOutput.at 8 rfl) fX8_104 hP.ru.ro rfl ?_
  refine v_icmp_ltN C (oX8_setOutput.at 9 rfl) (tgt := 30) (by decide) (by omega) (by omega) (fun hc => ?_) (fun hc => absurd hc (by omega))
  refine v_aload_n C (oX8_setOutput.at 15 rfl) rfl ?_
  refine v_getf C (oX8_setOutput.at 16 rfl) fX8_10 hP.ob rfl ?_
  refine v_getf C (oX8_setOutput.at 17 rfl) fX8_124 hP.ru.ro rfl ?_
  refine v_iload_n C (oX8_setOutput.at 18 rfl) rfl ?_
  refine v_iald C (oX8_setOutput.at 19 rfl) ht (by decide) rfl (by omega) (hT x hx).1 ?_
  refine v_istore_n C (oX8_setOutput.at 20 rfl) rfl ?_
  refine v_aload_n C (oX8_setOutput.at 21 rfl) rfl ?_
  refine v_getf C (oX8_setOutput.at 22 rfl) fX8_10 hP.ob rfl ?_
  refine v_getf C (oX8_setOutput.at 23 rfl) fX8_124 hP.ru.ro rfl ?_
  refine v_iload_n C (oX8_setOutput.at 24 rfl) rfl ?_
  refine v_iload_n C (oX8_setOutput.at 25 rfl) rfl ?_
  refine v_iast C (oX8_setOutput.at 26 rfl) ht (by decide) rfl (by omega) ?_
  dsimp only [sto1, sto2, killL]
  refine v_iload_n C (oX8_setOutput.at 27 rfl) rfl ?_
  refine v_iret C (oX8_setOutput.at 28 rfl) rfl rfl ⟨Nat.le_refl _, Nat.le_refl _⟩ ⟨rfl, hP.set_ru (S' := withT S (updN S.2.2.1 x y)) (hP.so.withT _) ⟨rfl, rfl⟩ (fun j hj => hu_n _ _ (by omega)) (rule_tab (T' := updN S.2.2.1 x y) hP.ru (fun i hi => ?_))⟩
  unfold updN
  by_cases e : i = x
  · rw [e, pk_us, if_pos rfl]; exact ⟨rfl, hy⟩
  · rw [pk_un e, if_neg e]; exact hT i hi
theorem k8_setOutputX {w : Wt} {G h : Hp} {S Z : Sc} {sv : Bool} {F : Sf} {x y : Int32} (hP : PA G h S sv Z F) (hx : ¬ InB x (S.1 ^ S.2.1)) : ConN mX8_setOutput 1 (1, 6) w [.ref 0, .int x, .int y] h (.inr EIOO) (fun h' => h' = h) := by
  refine conI (by decide +kernel) ⟨fun _ => rfl, rfl, by simp⟩ (fun X C => ?_)
  change V X (0, 0) w h 0 [some (.ref 0), some (.int x), some (.int y), none] []
  refine v_aload_n C (oX8_setOutput.at 0 rfl) rfl ?_
  refine v_iload_n C (oX8_setOutput.at 1 rfl) rfl ?_
  exact v_callVT C (oX8_setOutput.at 2 rfl) cX8_118 hP.ob (k_needNbX hP.ob hP.ru.ro hx) rfl rfl rfl rfl rfl (fun h' hp => ⟨rfl, hp⟩)
theorem k8_setOutputY {w : Wt} {G h : Hp} {S Z : Sc} {sv : Bool} {F : Sf} {x : Nat} {y : Int32} (hP : PA G h S sv Z F) (hx : x < S.1 ^ S.2.1) (hy : ¬ InB y S.1) : ConN mX8_setOutput 1 (1, 6) w [.ref 0, .int (nI x), .int y] h (.inr EIAE) (fun h' => h' = h) := by
  have hm := hP.sz.m
  refine conI (by decide +kernel) ⟨fun _ => rfl, rfl, by simp⟩ (fun X C => ?_)
  change V X (0, 0) w h 0 [some (.ref 0), some (.int (nI x)), some (.int y), none] []
  refine v_aload_n C (oX8_setOutput.at 0 rfl) rfl ?_
  refine v_iload_n C (oX8_setOutput.at 1 rfl) rfl ?_
  refine v_callV C (oX8_setOutput.at 2 rfl) cX8_118 hP.ob (k_needNb hP.ob hP.ru.ro (InB.of hx (by omega))) rfl rfl rfl ⟨rfl, rfl⟩ rfl rfl (fun _ => rfl) (fun h' hp => ?_)
  rw [show h' = _ from hp]
  dsimp only [Option.toList, List.cons_append, List.nil_append]
  have thr : V X (0, 0) w h 20 [some (.ref 0), some (.int (nI x)), some (.int y), none] [] := v_throwS C rfl tIAE sr122 (oX8_setOutput.at 10 rfl) (oX8_setOutput.at 11 rfl) (oX8_setOutput.at 12 rfl) (oX8_setOutput.at 13 rfl) (oX8_setOutput.at 14 rfl) rfl rfl ⟨rfl, rfl⟩
  refine v_iload_n C (oX8_setOutput.at 3 rfl) rfl ?_
  refine v_if_lt C (oX8_setOutput.at 4 rfl) (tgt := 20) (by decide) (fun hc => ?_) (fun hc => ?_)
  · exact thr
  · refine v_iload_n C (oX8_setOutput.at 5 rfl) rfl ?_
    refine v_aload_n C (oX8_setOutput.at 6 rfl) rfl ?_
    refine v_getf C (oX8_setOutput.at 7 rfl) fX8_10 hP.ob rfl ?_
    refine v_getf C (oX8_setOutput.at 8 rfl) fX8_104 hP.ru.ro rfl ?_
    refine v_icmp_lt C (oX8_setOutput.at 9 rfl) (tgt := 30) (by decide) (fun hc => ?_) (fun hc => ?_)
    · exact absurd ⟨by assumption, hc⟩ hy
    · exact thr
theorem szB_ok {x y : Int32} (h : szB x y = true) : ∃ k wd, x = nI k ∧ y = nI wd ∧ SZ k wd := by
  unfold szB at h
  simp only [Bool.and_eq_true, Bool.or_eq_true, decide_eq_true_eq] at h
  obtain ⟨h2, h3⟩ := h
  have e2 : (2 : Int32).toInt = 2 := by decide
  have e3 : (3 : Int32).toInt = 3 := by decide
  have e4 : (4 : Int32).toInt = 4 := by decide
  rw [Int32.le_iff_toInt_le, e2] at h2
  have hy0 : ¬ y < 0 := fun q => by
    rw [Int32.lt_iff_toInt_lt] at q
    have : (0 : Int32).toInt = 0 := by decide
    omega
  obtain ⟨wd, hw1, rfl⟩ := nI_of hy0
  rw [nI_toInt hw1] at h2
  rcases h3 with ⟨rfl, h4⟩ | ⟨rfl, h4⟩
  · rw [Int32.le_iff_toInt_le, e4, nI_toInt hw1] at h4
    exact ⟨2, wd, rfl, rfl, Or.inl ⟨rfl, by omega, by omega⟩⟩
  · rw [Int32.le_iff_toInt_le, e3, nI_toInt hw1] at h4
    exact ⟨3, wd, rfl, rfl, Or.inr ⟨rfl, by omega, by omega⟩⟩
theorem szB_of {k wd : Nat} (h : SZ k wd) : szB (nI k) (nI wd) = true := h.cases (Q := fun k wd => szB (nI k) (nI wd) = true) (by decide) (by decide) (by decide) (by decide) (by decide)
def newS (k wd : Nat) : Sc := (k, wd, fun _ => 0, fun _ => 0, fun _ => 0)
theorem newS_ok {k wd : Nat} (h : SZ k wd) : ScOK (newS k wd) := ⟨h, fun r hr => ⟨Nat.zero_le _, by show 0 < k ^ 0; rw [Nat.pow_zero]; decide⟩⟩
theorem k8_setSizeX {w : Wt} {h : Hp} {x y : Int32} (hx : szB x y = false) : ConN mX8_setSize 1 (1, 6) w [.ref 0, .int x, .int y] h (.inr EIAE) (fun h' => h' = h) := by
  have ke := k_exists (w := w) (h := h) (x := x) (y := y)
  rw [hx] at ke
  refine conI (by decide +kernel) ⟨fun _ => rfl, rfl, by simp⟩ (fun X C => ?_)
  change V X (0, 0) w h 0 [some (.ref 0), some (.int x), some (.int y)] []
  refine v_iload_n C (oX8_setSize.at 0 rfl) rfl ?_
  refine v_iload_n C (oX8_setSize.at 1 rfl) rfl ?_
  refine v_callS C (oX8_setSize.at 2 rfl) cX8_82 (ke) rfl rfl rfl ⟨rfl, rfl⟩ rfl rfl (fun _ => rfl) (fun h' hp => ?_)
  rw [show h' = _ from hp]
  dsimp only [Option.toList, List.cons_append, List.nil_append]
  refine v_if_neB C (oX8_setSize.at 3 rfl) (tgt := 18) (by decide) (fun hc => ?_) (fun hc => ?_)
  · cases hc
  · exact v_throwS C rfl tIAE sr88 (oX8_setSize.at 4 rfl) (oX8_setSize.at 5 rfl) (oX8_setSize.at 6 rfl) (oX8_setSize.at 7 rfl) (oX8_setSize.at 8 rfl) rfl rfl ⟨rfl, rfl⟩
theorem k8_setSize {w : Wt} {G h : Hp} {S Z : Sc} {sv : Bool} {F : Sf} {k wd : Nat} (hP : PA G h S sv Z F) (hs : SZ k wd) : ConN mX8_setSize 2 (0, 0) w [.ref 0, .int (nI k), .int (nI wd)] h (.inl (some (.int (nI (k ^ wd))))) (fun h' => PA G h' (newS k wd) sv Z F) := by
  have hw := hs.w
  obtain ⟨f, gg, e, v, t, a0, a1, a2, a3, a4, a5, a6, a7, a8⟩ := id hP.ru
  have ke := k_exists (w := w) (h := h) (x := nI k) (y := nI wd)
  rw [szB_of hs] at ke
  have kr := k_resize (w := w) (k := k) (wd := wd) a0 hs.k (by omega) (by omega) hs.m a1 a3 a5
  refine conI (by decide +kernel) ⟨fun _ => rfl, rfl, by simp⟩ (fun X C => ?_)
  change V X (0, 0) w h 0 [some (.ref 0), some (.int (nI k)), some (.int (nI wd))] []
  refine v_iload_n C (oX8_setSize.at 0 rfl) rfl ?_
  refine v_iload_n C (oX8_setSize.at 1 rfl) rfl ?_
  refine v_callS C (oX8_setSize.at 2 rfl) cX8_82 (ke) rfl rfl rfl ⟨rfl, rfl⟩ rfl rfl (fun _ => rfl) (fun h' hp => ?_)
  rw [show h' = _ from hp]
  dsimp only [Option.toList, List.cons_append, List.nil_append]
  refine v_if_neB C (oX8_setSize.at 3 rfl) (tgt := 18) (by decide) (fun hc => ?_) (fun hc => ?_)
  · refine v_aload_n C (oX8_setSize.at 9 rfl) rfl ?_
    refine v_getf C (oX8_setSize.at 10 rfl) fX8_10 hP.ob rfl ?_
    refine v_iload_n C (oX8_setSize.at 11 rfl) rfl ?_
    refine v_iload_n C (oX8_setSize.at 12 rfl) rfl ?_
    refine v_callV C (oX8_setSize.at 13 rfl) cX8_93 a0 (kr) rfl rfl rfl ⟨rfl, rfl⟩ rfl rfl (fun _ => rfl) (fun h' hp => ?_)
    dsimp only [Option.toList, List.cons_append, List.nil_append]
    have hRu : RuleOK h' 1 k wd (fun _ => 0) := by
      rw [show h' = _ from hp]
      refine ⟨mix f (fun _ => nI 0) (k ^ wd), mix gg (fun i => nI (i % k ^ (wd - 1))) (k ^ wd), mix e (fun i => nI (i / k ^ (wd - 1))) (k ^ wd), v, t, ?_, ?_, fun i hi => ⟨mix_lt hi, show 0 < k from by have := hs.k; omega⟩, ?_, fun i hi => mix_lt hi, hu_s _ _ _, fun i hi => mix_lt hi, ?_, ?_⟩
      · rw [hu_n _ _ (by omega), hu_n _ _ (by omega), hu_n _ _ (by omega), hu_s]
      · rw [hu_n _ _ (by omega), hu_n _ _ (by omega), hu_s]
      · rw [hu_n _ _ (by omega), hu_s]
      · rw [hu_n _ _ (by omega), hu_n _ _ (by omega), hu_n _ _ (by omega), hu_n _ _ (by omega)]; exact a7
      · rw [hu_n _ _ (by omega), hu_n _ _ (by omega), hu_n _ _ (by omega), hu_n _ _ (by omega)]; exact a8
    have hfr : ∀ j, (j < 1 ∨ 4 < j) → h' j = h j := fun j hj => by
      rw [show h' = _ from hp, hu_n _ _ (by omega), hu_n _ _ (by omega), hu_n _ _ (by omega), hu_n _ _ (by omega)]
    have hob : h' 0 = AO sv := (hfr 0 (by omega)).trans hP.ob
    have hrg : RegOK h' 13 S.2.2.2.1 S.2.2.2.2 := hP.rg.eq (fun j _ _ => hfr j (by omega))
    clear hp
    obtain ⟨h1, rfl⟩ : ∃ x, x = h' := ⟨h', rfl⟩
    obtain ⟨rf, re, rg0, -⟩ := id hrg
    have krg := k_regEmpty (w := w) hrg
    refine v_aload_n C (oX8_setSize.at 14 rfl) rfl ?_
    refine v_getf C (oX8_setSize.at 15 rfl) fX8_22 hob rfl ?_
    refine v_callV C (oX8_setSize.at 16 rfl) cX8_97 rg0 (krg) rfl rfl rfl ⟨rfl, rfl⟩ rfl rfl (fun _ => rfl) (fun h' hp => ?_)
    dsimp only [Option.toList, List.cons_append, List.nil_append]
    obtain ⟨hE, hEf⟩ := hp
    have hR2 : RuleOK h' 1 k wd (fun _ => 0) := hRu.eq (fun j _ _ => hEf j (by omega))
    have hob2 : h' 0 = AO sv := (hEf 0 (by omega)).trans hob
    refine v_aload_n C (oX8_setSize.at 17 rfl) rfl ?_
    refine v_getf C (oX8_setSize.at 18 rfl) fX8_10 hob2 rfl ?_
    refine v_getf C (oX8_setSize.at 19 rfl) fX8_100 hR2.ro rfl ?_
    exact v_iret C (oX8_setSize.at 20 rfl) rfl rfl ⟨Nat.le_refl _, Nat.le_refl _⟩ ⟨rfl, hP.set_rr (S' := newS k wd) (newS_ok hs) (fun j a b => (hEf j (by omega)).trans (hfr j (by omega))) hR2 hE⟩
  · cases hc
