/-! ===== the program's methods: the inverse's outputs, words, images, snapshots ===== -/
theorem k8_inverseOutputN {w : Wt} {G h : Hp} {S Z : Sc} {sv : Bool} {F : Sf} {q : Nat} {x : Int32} (hP : PA G h S sv Z F) (hI : InR S.1 S.2.1 S.2.2.1 0 q) : ConN mX8_inverseOutput 5 (1, 6) w [.ref 0, .int x] h (.inr ENSE) (fun h' => PA G h' S sv Z F) := by
  refine conI (by decide +kernel) ⟨fun _ => rfl, rfl, by simp⟩ (fun X C => ?_)
  change V X (0, 0) w h 0 [some (.ref 0), some (.int x)] []
  refine v_aload_n C (oX8_inverseOutput.at 0 rfl) rfl ?_
  exact v_callVT C (oX8_inverseOutput.at 1 rfl) cX8_339 hP.ob (k8_needInverseX hP hI) rfl rfl rfl rfl rfl (fun h' hp => ⟨rfl, hp⟩)
theorem k8_inverseOutputX {w : Wt} {G h : Hp} {S Z : Sc} {sv : Bool} {F : Sf} {m q : Nat} {x : Int32} (hP : PA G h S sv Z F) (hI : InR S.1 S.2.1 S.2.2.1 m q) (hm : m ≠ 0) (hx : ¬ InB x (S.1 ^ m)) : ConN mX8_inverseOutput 5 (1, 6) w [.ref 0, .int x] h (.inr EIOO) (fun h' => PA G h' S sv Z F) := by
  have hm5 : m ≤ 5 := by rcases hI with ⟨e, _⟩ | ⟨_, e, _⟩ <;> omega
  refine conI (by decide +kernel) ⟨fun _ => rfl, rfl, by simp⟩ (fun X C => ?_)
  change V X (0, 0) w h 0 [some (.ref 0), some (.int x)] []
  refine v_aload_n C (oX8_inverseOutput.at 0 rfl) rfl ?_
  refine v_callV C (oX8_inverseOutput.at 1 rfl) cX8_339 hP.ob (k8_needInverse hP hI hm) rfl rfl rfl ⟨rfl, rfl⟩ rfl rfl (fun _ => rfl) (fun h' hp => ?_)
  dsimp only [Option.toList, List.cons_append, List.nil_append]
  obtain ⟨hP1, g, f, hO1, hF1⟩ := hp
  obtain ⟨h1, rfl⟩ : ∃ z, z = h' := ⟨h', rfl⟩
  have thr : V X (0, 0) w h1 26 [some (.ref 0), some (.int x)] [] := v_throwSW C rfl tIOO sr346 (oX8_inverseOutput.at 12 rfl) (oX8_inverseOutput.at 13 rfl) (oX8_inverseOutput.at 14 rfl) (oX8_inverseOutput.at 15 rfl) (oX8_inverseOutput.at 16 rfl) rfl rfl ⟨rfl, hP1⟩
  refine v_iload_n C (oX8_inverseOutput.at 2 rfl) rfl ?_
  refine v_if_lt C (oX8_inverseOutput.at 3 rfl) (tgt := 26) (by decide) (fun hc => ?_) (fun hc => ?_)
  · exact thr
  · have hc1 := hc
    refine v_iload_n C (oX8_inverseOutput.at 4 rfl) rfl ?_
    refine v_aload_n C (oX8_inverseOutput.at 5 rfl) rfl ?_
    refine v_getf C (oX8_inverseOutput.at 6 rfl) fX8_10 hP1.ob rfl ?_
    refine v_aload_n C (oX8_inverseOutput.at 7 rfl) rfl ?_
    refine v_getf C (oX8_inverseOutput.at 8 rfl) fX8_71 hP1.ob rfl ?_
    refine v_getf C (oX8_inverseOutput.at 9 rfl) fX8_342 hO1.1 rfl ?_
    refine v_callV C (oX8_inverseOutput.at 10 rfl) cX8_202 hP1.ru.ro (k_countOfWords hP1.ru.ro (by omega)) rfl rfl rfl ⟨rfl, rfl⟩ rfl rfl (fun _ => rfl) (fun h' hp => ?_)
    rw [show h' = _ from hp]
    dsimp only [Option.toList, List.cons_append, List.nil_append]
    refine v_icmp_lt C (oX8_inverseOutput.at 11 rfl) (tgt := 37) (by decide) (fun hc => absurd ⟨hc1, hc⟩ hx) (fun hc => ?_)
    exact thr
theorem k8_inverseOutput {w : Wt} {G h : Hp} {S Z : Sc} {sv : Bool} {F : Sf} {m q x y : Nat} (hP : PA G h S sv Z F) (hI : InR S.1 S.2.1 S.2.2.1 m q) (hm : m ≠ 0) (hy : y < S.1 ^ m) (hx : x < S.1 ^ (m + S.2.1 - 1)) (hxy : gIm S.1 S.2.1 S.2.2.1 m x = y) : ConN mX8_inverseOutput 5 (0, 0) w [.ref 0, .int (nI y)] h (.inl (some (.int (nI (cel S.1 (m + S.2.1 - 1) x q))))) (fun h' => PA G h' S sv Z F) := by
  have hJ : m ≤ 5 ∧ q < m + S.2.1 - 1 ∧ inB S.1 S.2.1 S.2.2.1 m q = true := by
    rcases hI with ⟨e, _⟩ | ⟨_, a, b, c, _⟩
    · exact absurd e hm
    · exact ⟨a, b, c⟩
  have h243 := hP.sz.m5 hJ.1
  have hw5 := hP.sz.w5 (m := m - 1) (by omega)
  have hwd := hP.sz.w
  rw [show m - 1 + S.2.1 = m + S.2.1 - 1 by omega] at hw5
  have hag := (inB_iff.mp hJ.2.2).2
  refine conI (by decide +kernel) ⟨fun _ => rfl, rfl, by simp⟩ (fun X C => ?_)
  change V X (0, 0) w h 0 [some (.ref 0), some (.int (nI y))] []
  refine v_aload_n C (oX8_inverseOutput.at 0 rfl) rfl ?_
  refine v_callV C (oX8_inverseOutput.at 1 rfl) cX8_339 hP.ob (k8_needInverse hP hI hm) rfl rfl rfl ⟨rfl, rfl⟩ rfl rfl (fun _ => rfl) (fun h' hp => ?_)
  dsimp only [Option.toList, List.cons_append, List.nil_append]
  obtain ⟨hP1, g, f, hO1, hF1⟩ := hp
  obtain ⟨h1, rfl⟩ : ∃ z, z = h' := ⟨h', rfl⟩
  obtain ⟨x0, hx0, hfx, hg0⟩ := hF1 y hy
  have ecel : cel S.1 (m + S.2.1 - 1) x q = cel S.1 (m + S.2.1 - 1) x0 q := hag x x0 hx hx0 (by rw [hxy, hg0])
  rw [ecel] at C
  refine v_iload_n C (oX8_inverseOutput.at 2 rfl) rfl ?_
  refine v_if_ltN C (oX8_inverseOutput.at 3 rfl) (tgt := 26) (by decide) (by omega) ?_
  refine v_iload_n C (oX8_inverseOutput.at 4 rfl) rfl ?_
  refine v_aload_n C (oX8_inverseOutput.at 5 rfl) rfl ?_
  refine v_getf C (oX8_inverseOutput.at 6 rfl) fX8_10 hP1.ob rfl ?_
  refine v_aload_n C (oX8_inverseOutput.at 7 rfl) rfl ?_
  refine v_getf C (oX8_inverseOutput.at 8 rfl) fX8_71 hP1.ob rfl ?_
  refine v_getf C (oX8_inverseOutput.at 9 rfl) fX8_342 hO1.1 rfl ?_
  refine v_callV C (oX8_inverseOutput.at 10 rfl) cX8_202 hP1.ru.ro (k_countOfWords hP1.ru.ro (by omega)) rfl rfl rfl ⟨rfl, rfl⟩ rfl rfl (fun _ => rfl) (fun h' hp => ?_)
  rw [show h' = _ from hp]
  dsimp only [Option.toList, List.cons_append, List.nil_append]
  refine v_icmp_ltN C (oX8_inverseOutput.at 11 rfl) (tgt := 37) (by decide) (by omega) (by omega) (fun hc => ?_) (fun hc => absurd hc (by omega))
  refine v_aload_n C (oX8_inverseOutput.at 17 rfl) rfl ?_
  refine v_getf C (oX8_inverseOutput.at 18 rfl) fX8_71 hP1.ob rfl ?_
  refine v_aload_n C (oX8_inverseOutput.at 19 rfl) rfl ?_
  refine v_getf C (oX8_inverseOutput.at 20 rfl) fX8_10 hP1.ob rfl ?_
  refine v_iload_n C (oX8_inverseOutput.at 21 rfl) rfl ?_
  refine v_callV C (oX8_inverseOutput.at 22 rfl) cX8_348 hO1.1 (k_stateFor hP1.ru.ro hP.sz.k hO1 hJ.1 hwd hJ.2.1 (by omega) hfx (by omega)) rfl rfl rfl ⟨rfl, rfl⟩ rfl rfl (fun _ => rfl) (fun h' hp => ?_)
  rw [show h' = _ from hp]
  dsimp only [Option.toList, List.cons_append, List.nil_append]
  exact v_iret C (oX8_inverseOutput.at 23 rfl) rfl rfl ⟨Nat.le_refl _, Nat.le_refl _⟩ ⟨rfl, hP1⟩
def withR (S : Sc) (r l x : Nat) : Sc := (S.1, S.2.1, S.2.2.1, updN S.2.2.2.1 r l, updN S.2.2.2.2 r x)
theorem ScOK.withR {S : Sc} (h : ScOK S) {r l x : Nat} (hl : l ≤ 14) (hx : x < S.1 ^ l) : ScOK (withR S r l x) := by
  refine ⟨h.1, fun j hj => ?_⟩
  show updN _ _ _ j ≤ 14 ∧ updN _ _ _ j < S.1 ^ updN _ _ _ j
  unfold updN
  by_cases e : j = r
  · rw [if_pos e, if_pos e]; exact ⟨hl, hx⟩
  · rw [if_neg e, if_neg e]; exact h.2 j hj
theorem k8_setWordR {w : Wt} {h : Hp} {x y v : Int32} (hx : ¬ InB x 4) : ConN mX8_setWord 1 (1, 6) w [.ref 0, .int x, .int y, .int v] h (.inr EIOO) (fun h' => h' = h) := by
  refine conI (by decide +kernel) ⟨fun _ => rfl, rfl, by simp⟩ (fun X C => ?_)
  change V X (0, 0) w h 0 [some (.ref 0), some (.int x), some (.int y), some (.int v), none] []
  refine v_iload_n C (oX8_setWord.at 0 rfl) rfl ?_
  exact v_callST C (oX8_setWord.at 1 rfl) cX8_210 (k_needRegX hx) rfl rfl rfl rfl rfl (fun h' hp => ⟨rfl, hp⟩)
theorem k8_setWordL {w : Wt} {h : Hp} {x : Nat} {y v : Int32} (hx : x < 4) (hy : ¬ (¬ y < 0 ∧ y ≤ nI 14)) : ConN mX8_setWord 1 (1, 6) w [.ref 0, .int (nI x), .int y, .int v] h (.inr EIAE) (fun h' => h' = h) := by
  refine conI (by decide +kernel) ⟨fun _ => rfl, rfl, by simp⟩ (fun X C => ?_)
  change V X (0, 0) w h 0 [some (.ref 0), some (.int (nI x)), some (.int y), some (.int v), none] []
  refine v_iload_n C (oX8_setWord.at 0 rfl) rfl ?_
  refine v_callS C (oX8_setWord.at 1 rfl) cX8_210 (k_needReg (InB.of hx (by decide))) rfl rfl rfl ⟨rfl, rfl⟩ rfl rfl (fun _ => rfl) (fun h' hp => ?_)
  rw [show h' = _ from hp]
  dsimp only [Option.toList, List.cons_append, List.nil_append]
  have thr : V X (0, 0) w h 14 [some (.ref 0), some (.int (nI x)), some (.int y), some (.int v), none] [] := v_throwS C rfl tIAE sr213 (oX8_setWord.at 7 rfl) (oX8_setWord.at 8 rfl) (oX8_setWord.at 9 rfl) (oX8_setWord.at 10 rfl) (oX8_setWord.at 11 rfl) rfl rfl ⟨rfl, rfl⟩
  refine v_iload_n C (oX8_setWord.at 2 rfl) rfl ?_
  refine v_if_lt C (oX8_setWord.at 3 rfl) (tgt := 14) (by decide) (fun hc => ?_) (fun hc => ?_)
  · exact thr
  · refine v_iload_n C (oX8_setWord.at 4 rfl) rfl ?_
    refine v_bipush C (oX8_setWord.at 5 rfl) (v := nI 14) rfl ?_
    refine v_icmp_le C (oX8_setWord.at 6 rfl) (tgt := 24) (by decide) (fun hc => ?_) (fun hc => ?_)
    · exact absurd ⟨by assumption, hc⟩ hy
    · exact thr
theorem k8_setWordI {w : Wt} {G h : Hp} {S Z : Sc} {sv : Bool} {F : Sf} {x l : Nat} {v : Int32} (hP : PA G h S sv Z F) (hx : x < 4) (hl : l ≤ 14) (hv : ¬ InB v (S.1 ^ l)) : ConN mX8_setWord 1 (1, 6) w [.ref 0, .int (nI x), .int (nI l), .int v] h (.inr EIAE) (fun h' => h' = h) := by
  refine conI (by decide +kernel) ⟨fun _ => rfl, rfl, by simp⟩ (fun X C => ?_)
  change V X (0, 0) w h 0 [some (.ref 0), some (.int (nI x)), some (.int (nI l)), some (.int v), none] []
  refine v_iload_n C (oX8_setWord.at 0 rfl) rfl ?_
  refine v_callS C (oX8_setWord.at 1 rfl) cX8_210 (k_needReg (InB.of hx (by decide))) rfl rfl rfl ⟨rfl, rfl⟩ rfl rfl (fun _ => rfl) (fun h' hp => ?_)
  rw [show h' = _ from hp]
  dsimp only [Option.toList, List.cons_append, List.nil_append]
  refine v_iload_n C (oX8_setWord.at 2 rfl) rfl ?_
  refine v_if_ltN C (oX8_setWord.at 3 rfl) (tgt := 14) (by decide) (by omega) ?_
  have thr : V X (0, 0) w h 40 [some (.ref 0), some (.int (nI x)), some (.int (nI l)), some (.int v), none] [] := v_throwS C rfl tIAE sr215 (oX8_setWord.at 20 rfl) (oX8_setWord.at 21 rfl) (oX8_setWord.at 22 rfl) (oX8_setWord.at 23 rfl) (oX8_setWord.at 24 rfl) rfl rfl ⟨rfl, rfl⟩
  refine v_iload_n C (oX8_setWord.at 4 rfl) rfl ?_
  refine v_bipush C (oX8_setWord.at 5 rfl) (v := nI 14) rfl ?_
  refine v_icmp_leN C (oX8_setWord.at 6 rfl) (tgt := 24) (by decide) (by omega) (by omega) (fun hc => ?_) (fun hc => ?_)
  · refine v_iload_n C (oX8_setWord.at 12 rfl) rfl ?_
    refine v_if_lt C (oX8_setWord.at 13 rfl) (tgt := 40) (by decide) (fun hc => ?_) (fun hc => ?_)
    · exact thr
    · have hc1 := hc
      refine v_iload_n C (oX8_setWord.at 14 rfl) rfl ?_
      refine v_aload_n C (oX8_setWord.at 15 rfl) rfl ?_
      refine v_getf C (oX8_setWord.at 16 rfl) fX8_10 hP.ob rfl ?_
      refine v_iload_n C (oX8_setWord.at 17 rfl) rfl ?_
      refine v_callV C (oX8_setWord.at 18 rfl) cX8_202 hP.ru.ro (k_countOfWords hP.ru.ro (by omega)) rfl rfl rfl ⟨rfl, rfl⟩ rfl rfl (fun _ => rfl) (fun h' hp => ?_)
      rw [show h' = _ from hp]
      dsimp only [Option.toList, List.cons_append, List.nil_append]
      refine v_icmp_lt C (oX8_setWord.at 19 rfl) (tgt := 50) (by decide) (fun hc => absurd ⟨hc1, hc⟩ hv) (fun hc => ?_)
      exact thr
  · exact absurd hc (by omega)
theorem k8_setWord {w : Wt} {G h : Hp} {S Z : Sc} {sv : Bool} {F : Sf} {x l v : Nat} (hP : PA G h S sv Z F) (hx : x < 4) (hl : l ≤ 14) (hv : v < S.1 ^ l) : ConN mX8_setWord 1 (0, 0) w [.ref 0, .int (nI x), .int (nI l), .int (nI v)] h (.inl (some (.int (nI (S.2.2.2.1 x))))) (fun h' => PA G h' (withR S x l v) sv Z F) := by
  obtain ⟨f, e, g0, g1, g2, g3, g4⟩ := id hP.rg
  have hk := hP.sz.k
  have hpw : S.1 ^ l < 2 ^ 31 := by
    have h1 : S.1 ^ l ≤ 3 ^ l := Nat.pow_le_pow_left (by omega) _
    have h2 : 3 ^ l ≤ 3 ^ 14 := Nat.pow_le_pow_right (by decide) hl
    have h3 : (3 : Nat) ^ 14 < 2 ^ 31 := by decide
    omega
  have kp := k_regPut (w := w) (l := l) (x := v) hP.rg hx
  refine conI (by decide +kernel) ⟨fun _ => rfl, rfl, by simp⟩ (fun X C => ?_)
  change V X (0, 0) w h 0 [some (.ref 0), some (.int (nI x)), some (.int (nI l)), some (.int (nI v)), none] []
  refine v_iload_n C (oX8_setWord.at 0 rfl) rfl ?_
  refine v_callS C (oX8_setWord.at 1 rfl) cX8_210 (k_needReg (InB.of hx (by decide))) rfl rfl rfl ⟨rfl, rfl⟩ rfl rfl (fun _ => rfl) (fun h' hp => ?_)
  rw [show h' = _ from hp]
  dsimp only [Option.toList, List.cons_append, List.nil_append]
  refine v_iload_n C (oX8_setWord.at 2 rfl) rfl ?_
  refine v_if_ltN C (oX8_setWord.at 3 rfl) (tgt := 14) (by decide) (by omega) ?_
  refine v_iload_n C (oX8_setWord.at 4 rfl) rfl ?_
  refine v_bipush C (oX8_setWord.at 5 rfl) (v := nI 14) rfl ?_
  refine v_icmp_leN C (oX8_setWord.at 6 rfl) (tgt := 24) (by decide) (by omega) (by omega) (fun hc => ?_) (fun hc => ?_)
  · refine v_iload_n C (oX8_setWord.at 12 rfl) rfl ?_
    refine v_if_ltN C (oX8_setWord.at 13 rfl) (tgt := 40) (by decide) (by omega) ?_
    refine v_iload_n C (oX8_setWord.at 14 rfl) rfl ?_
    refine v_aload_n C (oX8_setWord.at 15 rfl) rfl ?_
    refine v_getf C (oX8_setWord.at 16 rfl) fX8_10 hP.ob rfl ?_
    refine v_iload_n C (oX8_setWord.at 17 rfl) rfl ?_
    refine v_callV C (oX8_setWord.at 18 rfl) cX8_202 hP.ru.ro (k_countOfWords hP.ru.ro (by omega)) rfl rfl rfl ⟨rfl, rfl⟩ rfl rfl (fun _ => rfl) (fun h' hp => ?_)
    rw [show h' = _ from hp]
    dsimp only [Option.toList, List.cons_append, List.nil_append]
    refine v_icmp_ltN C (oX8_setWord.at 19 rfl) (tgt := 50) (by decide) (by omega) (by omega) (fun hc => ?_) (fun hc => absurd hc (by omega))
    refine v_aload_n C (oX8_setWord.at 25 rfl) rfl ?_
    refine v_getf C (oX8_setWord.at 26 rfl) fX8_22 hP.ob rfl ?_
    refine v_getf C (oX8_setWord.at 27 rfl) fX8_217 g0 rfl ?_
    refine v_iload_n C (oX8_setWord.at 28 rfl) rfl ?_
    refine v_iald C (oX8_setWord.at 29 rfl) g1 (by decide) rfl (by omega) (g2 x hx) ?_
    refine v_istore C (oX8_setWord.at 30 rfl) rfl ?_
    refine v_aload_n C (oX8_setWord.at 31 rfl) rfl ?_
    refine v_getf C (oX8_setWord.at 32 rfl) fX8_22 hP.ob rfl ?_
    refine v_iload_n C (oX8_setWord.at 33 rfl) rfl ?_
    refine v_iload_n C (oX8_setWord.at 34 rfl) rfl ?_
    refine v_iload_n C (oX8_setWord.at 35 rfl) rfl ?_
    dsimp only [sto1, sto2, killL]
    refine v_callV C (oX8_setWord.at 36 rfl) cX8_220 g0 (kp) rfl rfl rfl ⟨rfl, rfl⟩ rfl rfl (fun _ => rfl) (fun h' hp => ?_)
    dsimp only [Option.toList, List.cons_append, List.nil_append]
    refine v_iload C (oX8_setWord.at 37 rfl) rfl ?_
    refine v_iret C (oX8_setWord.at 38 rfl) rfl rfl ⟨Nat.le_refl _, Nat.le_refl _⟩ ⟨rfl, hP.set_rg (S' := withR S x l v) (hP.so.withR hl hv) ⟨rfl, rfl, rfl⟩ (fun j hj => hp.2 j (by omega)) hp.1⟩
  · exact absurd hc (by omega)
