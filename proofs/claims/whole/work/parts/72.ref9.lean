/-! ===== the reference: thrown set, ranges, setSize, setOutput that throws ===== -/
theorem v_thr {X : CT} {μ : Mi} {tab : List ExceptionTableEntry} {d : Nat} {zR z : Nat × Nat} {o : Oc} {P : Wt → Hp → Prop} {w : Wt} {pc : Nat} {L : List (Option Value)} {st : List Value} (C : Cx X μ tab d zR o P) {ix n : Nat} {G h : Hp} {th : Nat} {S Z : Sc} {sv : Bool} {F : Sf} (hd : decode μ.2.1 pc = .ok (.putfield ix, 3)) (hF : FLk μ.1.cls ix 9 0) (hR : RF G h th S sv Z F) (k : ∀ h1 u1, RF G h1 n S sv Z F → h1 62 = MO u1 → u1 0 = nI n → MuP S sv Z F u1 → V X z w h1 (pc + 3) L st) : V X z w h pc L (.int (nI n) :: .ref 62 :: st) := by
  obtain ⟨u, o0, o1, o2⟩ := hR.o
  refine v_putI C hd hF p9_0 o0 rfl ?_
  exact k (hu h 62 (MO (upd u 0 (nI n)))) (upd u 0 (nI n)) (hR.set_o rfl (o2.t _)) (hu_s _ _ _) rfl (o2.t _)
theorem v_put9 {X : CT} {μ : Mi} {tab : List ExceptionTableEntry} {d : Nat} {zR z : Nat × Nat} {o : Oc} {P : Wt → Hp → Prop} {w : Wt} {pc : Nat} {L : List (Option Value)} {st : List Value} (C : Cx X μ tab d zR o P) {ix kf : Nat} {h : Hp} {u : Nat → Int32} {x : Int32} {fs : List Value} (hd : decode μ.2.1 pc = .ok (.putfield ix, 3)) (hF : FLk μ.1.cls ix 9 kf) (hT : FPt 9 kf .int false) (hh : h 62 = MO u) (hl : MO u = .inr (9, fs) ∧ Nat.blt kf fs.length = true ∧ MO (upd u kf x) = .inr (9, List.set fs kf (.int x))) (k : V X z w (hu h 62 (MO (upd u kf x))) (pc + 3) L st) : V X z w h pc L (.int x :: .ref 62 :: st) := by
  rw [hl.2.2] at k
  exact v_putI C hd hF hT (hh.trans hl.1) hl.2.1 k
theorem v_put9Z {X : CT} {μ : Mi} {tab : List ExceptionTableEntry} {d : Nat} {zR z : Nat × Nat} {o : Oc} {P : Wt → Hp → Prop} {w : Wt} {pc : Nat} {L : List (Option Value)} {st : List Value} (C : Cx X μ tab d zR o P) {ix kf : Nat} {h : Hp} {u : Nat → Int32} {x : Bool} {fs : List Value} (hd : decode μ.2.1 pc = .ok (.putfield ix, 3)) (hF : FLk μ.1.cls ix 9 kf) (hT : FPt 9 kf .boolean false) (hh : h 62 = MO u) (hl : MO u = .inr (9, fs) ∧ Nat.blt kf fs.length = true ∧ MO (upd u kf (bI x)) = .inr (9, List.set fs kf (.int (bI x)))) (k : V X z w (hu h 62 (MO (upd u kf (bI x)))) (pc + 3) L st) : V X z w h pc L (.int (bI x) :: .ref 62 :: st) := by
  rw [hl.2.2] at k
  exact v_putZ C hd hF hT (hh.trans hl.1) hl.2.1 k
theorem v_put9u {X : CT} {μ : Mi} {tab : List ExceptionTableEntry} {d : Nat} {zR z : Nat × Nat} {o : Oc} {P : Wt → Hp → Prop} {w : Wt} {pc : Nat} {L : List (Option Value)} {st : List Value} (C : Cx X μ tab d zR o P) {ix kf : Nat} {h : Hp} {u : Nat → Int32} {x : Int32} {fs : List Value} (hd : decode μ.2.1 pc = .ok (.putfield ix, 3)) (hF : FLk μ.1.cls ix 9 kf) (hT : FPt 9 kf .int false) (hl : MO u = .inr (9, fs) ∧ Nat.blt kf fs.length = true ∧ MO (upd u kf x) = .inr (9, List.set fs kf (.int x))) (k : V X z w (hu h 62 (MO (upd u kf x))) (pc + 3) L st) : V X z w (hu h 62 (MO u)) pc L (.int x :: .ref 62 :: st) := by
  refine v_put9 C hd hF hT (hu_s _ _ _) hl ?_
  rw [hu_hu]
  exact k
theorem v_put9uZ {X : CT} {μ : Mi} {tab : List ExceptionTableEntry} {d : Nat} {zR z : Nat × Nat} {o : Oc} {P : Wt → Hp → Prop} {w : Wt} {pc : Nat} {L : List (Option Value)} {st : List Value} (C : Cx X μ tab d zR o P) {ix kf : Nat} {h : Hp} {u : Nat → Int32} {x : Bool} {fs : List Value} (hd : decode μ.2.1 pc = .ok (.putfield ix, 3)) (hF : FLk μ.1.cls ix 9 kf) (hT : FPt 9 kf .boolean false) (hl : MO u = .inr (9, fs) ∧ Nat.blt kf fs.length = true ∧ MO (upd u kf (bI x)) = .inr (9, List.set fs kf (.int (bI x)))) (k : V X z w (hu h 62 (MO (upd u kf (bI x)))) (pc + 3) L st) : V X z w (hu h 62 (MO u)) pc L (.int (bI x) :: .ref 62 :: st) := by
  refine v_put9Z C hd hF hT (hu_s _ _ _) hl ?_
  rw [hu_hu]
  exact k
theorem k9_noR {w : Wt} {G h : Hp} {th n : Nat} {S Z : Sc} {sv : Bool} {F : Sf} (hR : RF G h th S sv Z F) : ConN mX9_no 0 (0, 0) w [.ref 62, .int (nI n)] h (.inl (some (.int (nI 0)))) (fun h' => RF G h' n S sv Z F) := by
  refine conI (by decide +kernel) ⟨fun _ => rfl, rfl, by simp⟩ (fun X C => ?_)
  change V X (0, 0) w h 0 [some (.ref 62), some (.int (nI n))] []
  refine v_aload_n C (oX9_no.at 0 rfl) rfl ?_
  refine v_iload_n C (oX9_no.at 1 rfl) rfl ?_
  refine v_thr C (oX9_no.at 2 rfl) fX9_96 hR (fun h1 u1 hR1 q0 qt qm => ?_)
  refine v_iconst C (oX9_no.at 3 rfl) (v := nI 0) rfl ?_
  exact v_iret C (oX9_no.at 4 rfl) rfl rfl ⟨Nat.le_refl _, Nat.le_refl _⟩ ⟨rfl, hR1⟩
theorem k_inT {w : Wt} {h : Hp} {x b : Int32} (n : Nat) (hn : 0 < n) (hn2 : n < 2 ^ 31) (hb : b = nI (n - 1)) (hx : InB x n) : ConN mX9_isIn 0 (0, 0) w [.int x, .int (nI 0), .int b] h (.inl (some (.int (bI true)))) (fun h' => h' = h) := by
  subst hb
  have ki := k_isIn (w := w) (h := h) (x := x) (a := nI 0) (b := nI (n - 1))
  rw [inT hn hn2 hx] at ki
  exact ki
theorem k_inF {w : Wt} {h : Hp} {x b : Int32} (n : Nat) (hn : 0 < n) (hn2 : n < 2 ^ 31) (hb : b = nI (n - 1)) (hx : ¬ InB x n) : ConN mX9_isIn 0 (0, 0) w [.int x, .int (nI 0), .int b] h (.inl (some (.int (bI false)))) (fun h' => h' = h) := by
  subst hb
  have ki := k_isIn (w := w) (h := h) (x := x) (a := nI 0) (b := nI (n - 1))
  rw [inF hn hn2 hx] at ki
  exact ki
theorem k_regT {w : Wt} {h : Hp} {x : Int32} (hx : InB x 4) : ConN mX9_isRegister 1 (0, 0) w [.int x] h (.inl (some (.int (bI true)))) (fun h' => h' = h) := by
  have ki := k_isRegister (w := w) (h := h) (x := x)
  rw [show decide (¬ x < nI 0 ∧ ¬ nI 3 < x) = true from inT (n := 4) (by decide) (by decide) hx] at ki
  exact ki
theorem k_regF {w : Wt} {h : Hp} {x : Int32} (hx : ¬ InB x 4) : ConN mX9_isRegister 1 (0, 0) w [.int x] h (.inl (some (.int (bI false)))) (fun h' => h' = h) := by
  have ki := k_isRegister (w := w) (h := h) (x := x)
  rw [show decide (¬ x < nI 0 ∧ ¬ nI 3 < x) = false from inF (n := 4) (by decide) (by decide) hx] at ki
  exact ki
theorem k_isSize {w : Wt} {h : Hp} {x y : Int32} : ConN mX9_isSize 1 (0, 0) w [.int x, .int y] h (.inl (some (.int (bI (szB x y))))) (fun h' => h' = h) := by
  refine conI (by decide +kernel) ⟨fun _ => rfl, rfl, by simp⟩ (fun X C => ?_)
  change V X (0, 0) w h 0 [some (.int x), some (.int y)] []
  have n2 : nI 2 = 2 := rfl
  have n3 : nI 3 = 3 := rfl
  have n4 : nI 4 = 4 := rfl
  have F : szB x y = false → V X (0, 0) w h 32 [some (.int x), some (.int y)] [] := fun e => by
    rw [e] at C
    refine v_iconst C (oX9_isSize.at 18 rfl) (v := nI 0) rfl ?_
    exact v_zret0 C (oX9_isSize.at 19 rfl) rfl rfl ⟨Nat.le_refl _, Nat.le_refl _⟩ ⟨rfl, rfl⟩
  have T : szB x y = true → V X (0, 0) w h 28 [some (.int x), some (.int y)] [] := fun e => by
    rw [e] at C
    refine v_iconst C (oX9_isSize.at 16 rfl) (v := nI 1) rfl ?_
    refine v_goto C (oX9_isSize.at 17 rfl) (tgt := 33) (by decide) ?_
    exact v_zret1 C (oX9_isSize.at 19 rfl) rfl rfl ⟨Nat.le_refl _, Nat.le_refl _⟩ ⟨rfl, rfl⟩
  have T3 : (x = 2 → ¬ (2 ≤ y ∧ y ≤ 4)) → V X (0, 0) w h 14 [some (.int x), some (.int y)] [] := fun h24 => by
    refine v_iload_n C (oX9_isSize.at 8 rfl) rfl ?_
    refine v_iconst C (oX9_isSize.at 9 rfl) (v := nI 3) rfl ?_
    refine v_icmp_ne C (oX9_isSize.at 10 rfl) (tgt := 32) (by decide) (fun hc => ?_) (fun hc => ?_)
    · refine F ?_
      rw [n3] at hc
      unfold szB
      by_cases e : x = 2
      · have := h24 e
        by_cases e2 : 2 ≤ y
        · have e4 : ¬ y ≤ 4 := fun q => this ⟨e2, q⟩
          simp [e4, hc]
        · simp [e2]
      · simp [e, hc]
    · rw [n3] at hc
      subst hc
      refine v_iload_n C (oX9_isSize.at 11 rfl) rfl ?_
      refine v_iconst C (oX9_isSize.at 12 rfl) (v := nI 2) rfl ?_
      refine v_iconst C (oX9_isSize.at 13 rfl) (v := nI 3) rfl ?_
      refine v_callS C (oX9_isSize.at 14 rfl) cX9_103 (k_isIn) rfl rfl rfl ⟨rfl, rfl⟩ rfl rfl (fun _ => rfl) (fun h' hp => ?_)
      rw [show h' = _ from hp]
      dsimp only [Option.toList, List.cons_append, List.nil_append]
      refine v_if_eqB C (oX9_isSize.at 15 rfl) (tgt := 32) (by decide) (fun hc => ?_) (fun hc => ?_)
      · refine F ?_
        have hc1 := of_decide_eq_false hc
        rw [n3, n2, Int32.not_lt, Int32.not_lt] at hc1
        unfold szB
        by_cases e2 : 2 ≤ y
        · have e4 : ¬ y ≤ 3 := fun q => hc1 ⟨e2, q⟩
          simp [e4]
        · simp [e2]
      · refine T ?_
        have hc1 := of_decide_eq_true hc
        rw [n3, n2, Int32.not_lt, Int32.not_lt] at hc1
        simp [szB, hc1.1, hc1.2]
  refine v_iload_n C (oX9_isSize.at 0 rfl) rfl ?_
  refine v_iconst C (oX9_isSize.at 1 rfl) (v := nI 2) rfl ?_
  refine v_icmp_ne C (oX9_isSize.at 2 rfl) (tgt := 14) (by decide) (fun hc => ?_) (fun hc => ?_)
  · rw [n2] at hc
    exact T3 (fun e => absurd e hc)
  · rw [n2] at hc
    subst hc
    refine v_iload_n C (oX9_isSize.at 3 rfl) rfl ?_
    refine v_iconst C (oX9_isSize.at 4 rfl) (v := nI 2) rfl ?_
    refine v_iconst C (oX9_isSize.at 5 rfl) (v := nI 4) rfl ?_
    refine v_callS C (oX9_isSize.at 6 rfl) cX9_103 (k_isIn) rfl rfl rfl ⟨rfl, rfl⟩ rfl rfl (fun _ => rfl) (fun h' hp => ?_)
    rw [show h' = _ from hp]
    dsimp only [Option.toList, List.cons_append, List.nil_append]
    refine v_if_neB C (oX9_isSize.at 7 rfl) (tgt := 28) (by decide) (fun hc => ?_) (fun hc => ?_)
    · have hc1 := of_decide_eq_true hc
      rw [n4, n2, Int32.not_lt, Int32.not_lt] at hc1
      exact T (by simp [szB, hc1.1, hc1.2])
    · have hc1 := of_decide_eq_false hc
      rw [n4, n2, Int32.not_lt, Int32.not_lt] at hc1
      exact T3 (fun _ => hc1)
theorem k_isSizeE {w : Wt} {h : Hp} {x y : Int32} {b : Bool} (e : szB x y = b) : ConN mX9_isSize 1 (0, 0) w [.int x, .int y] h (.inl (some (.int (bI b)))) (fun h' => h' = h) := by
  subst e
  exact k_isSize
theorem k9_setSizeX {w : Wt} {G h : Hp} {th : Nat} {S Z : Sc} {sv : Bool} {F : Sf} {x y : Int32} (hR : RF G h th S sv Z F) (hx : szB x y = false) : ConN mX9_setSize 2 (0, 0) w [.ref 62, .int x, .int y] h (.inl (some (.int (nI 0)))) (fun h' => RF G h' 1 S sv Z F) := by
  refine conI (by decide +kernel) ⟨fun _ => rfl, rfl, by simp⟩ (fun X C => ?_)
  change V X (0, 0) w h 0 [some (.ref 62), some (.int x), some (.int y), none] []
  refine v_aload_n C (oX9_setSize.at 0 rfl) rfl ?_
  refine v_iconst C (oX9_setSize.at 1 rfl) (v := nI 0) rfl ?_
  refine v_thr C (oX9_setSize.at 2 rfl) fX9_96 hR (fun h1 u1 hR1 q0 qt qm => ?_)
  refine v_iload_n C (oX9_setSize.at 3 rfl) rfl ?_
  refine v_iload_n C (oX9_setSize.at 4 rfl) rfl ?_
  refine v_callS C (oX9_setSize.at 5 rfl) cX9_107 (k_isSizeE hx) rfl rfl rfl ⟨rfl, rfl⟩ rfl rfl (fun _ => rfl) (fun h' hp => ?_)
  rw [show h' = _ from hp]
  dsimp only [Option.toList, List.cons_append, List.nil_append]
  refine v_if_neB C (oX9_setSize.at 6 rfl) (tgt := 19) (by decide) (fun z => absurd z (by decide)) (fun _ => ?_)
  refine v_aload_n C (oX9_setSize.at 7 rfl) rfl ?_
  refine v_iconst C (oX9_setSize.at 8 rfl) (v := nI 1) rfl ?_
  refine v_callV C (oX9_setSize.at 9 rfl) cX9_111 q0 (k9_noR hR1) rfl rfl rfl ⟨rfl, rfl⟩ rfl rfl (fun _ => rfl) (fun h' hp => ?_)
  dsimp only [Option.toList, List.cons_append, List.nil_append]
  exact v_iret C (oX9_setSize.at 10 rfl) rfl rfl ⟨Nat.le_refl _, Nat.le_refl _⟩ ⟨rfl, hp⟩
theorem k9_setOutputX {w : Wt} {G h : Hp} {th : Nat} {S Z : Sc} {sv : Bool} {F : Sf} {x y : Int32} (hR : RF G h th S sv Z F) (hx : ¬ InB x (S.1 ^ S.2.1)) : ConN mX9_setOutput 2 (0, 0) w [.ref 62, .int x, .int y] h (.inl (some (.int (nI 0)))) (fun h' => RF G h' 1 S sv Z F) := by
  have hw := hR.so.1.w
  have hk := hR.so.1.k
  have hm := hR.so.1.m
  have hp0 : 0 < S.1 ^ S.2.1 := Nat.pow_pos (by omega)
  refine conI (by decide +kernel) ⟨fun _ => rfl, rfl, by simp⟩ (fun X C => ?_)
  change V X (0, 0) w h 0 [some (.ref 62), some (.int x), some (.int y), none] []
  refine v_aload_n C (oX9_setOutput.at 0 rfl) rfl ?_
  refine v_iconst C (oX9_setOutput.at 1 rfl) (v := nI 0) rfl ?_
  refine v_thr C (oX9_setOutput.at 2 rfl) fX9_96 hR (fun h1 u1 hR1 q0 qt qm => ?_)
  refine v_iload_n C (oX9_setOutput.at 3 rfl) rfl ?_
  refine v_iconst C (oX9_setOutput.at 4 rfl) (v := nI 0) rfl ?_
  refine v_aload_n C (oX9_setOutput.at 5 rfl) rfl ?_
  refine v_callV C (oX9_setOutput.at 6 rfl) cX9_114 q0 (k9_all q0 qm.1 qm.2.1 (by omega)) rfl rfl rfl ⟨rfl, rfl⟩ rfl rfl (fun _ => rfl) (fun h' hp => ?_)
  rw [show h' = _ from hp]
  dsimp only [Option.toList, List.cons_append, List.nil_append]
  refine v_iconst C (oX9_setOutput.at 7 rfl) (v := nI 1) rfl ?_
  refine v_isubN C (oX9_setOutput.at 8 rfl) (by omega) ?_
  refine v_callS C (oX9_setOutput.at 9 rfl) cX9_103 (k_inF (S.1 ^ S.2.1) hp0 (by omega) rfl hx) rfl rfl rfl ⟨rfl, rfl⟩ rfl rfl (fun _ => rfl) (fun h' hp => ?_)
  rw [show h' = _ from hp]
  dsimp only [Option.toList, List.cons_append, List.nil_append]
  refine v_if_neB C (oX9_setOutput.at 10 rfl) (tgt := 25) (by decide) (fun z => absurd z (by decide)) (fun _ => ?_)
  refine v_aload_n C (oX9_setOutput.at 11 rfl) rfl ?_
  refine v_iconst C (oX9_setOutput.at 12 rfl) (v := nI 1) rfl ?_
  refine v_callV C (oX9_setOutput.at 13 rfl) cX9_111 q0 (k9_noR hR1) rfl rfl rfl ⟨rfl, rfl⟩ rfl rfl (fun _ => rfl) (fun h' hp => ?_)
  dsimp only [Option.toList, List.cons_append, List.nil_append]
  exact v_iret C (oX9_setOutput.at 14 rfl) rfl rfl ⟨Nat.le_refl _, Nat.le_refl _⟩ ⟨rfl, hp⟩
theorem k9_setOutputY {w : Wt} {G h : Hp} {th : Nat} {S Z : Sc} {sv : Bool} {F : Sf} {x : Nat} {y : Int32} (hR : RF G h th S sv Z F) (hx : x < S.1 ^ S.2.1) (hy : ¬ InB y S.1) : ConN mX9_setOutput 2 (0, 0) w [.ref 62, .int (nI x), .int y] h (.inl (some (.int (nI 0)))) (fun h' => RF G h' 2 S sv Z F) := by
  have hw := hR.so.1.w
  have hk := hR.so.1.k
  have hm := hR.so.1.m
  have hp0 : 0 < S.1 ^ S.2.1 := Nat.pow_pos (by omega)
  refine conI (by decide +kernel) ⟨fun _ => rfl, rfl, by simp⟩ (fun X C => ?_)
  change V X (0, 0) w h 0 [some (.ref 62), some (.int (nI x)), some (.int y), none] []
  refine v_aload_n C (oX9_setOutput.at 0 rfl) rfl ?_
  refine v_iconst C (oX9_setOutput.at 1 rfl) (v := nI 0) rfl ?_
  refine v_thr C (oX9_setOutput.at 2 rfl) fX9_96 hR (fun h1 u1 hR1 q0 qt qm => ?_)
  refine v_iload_n C (oX9_setOutput.at 3 rfl) rfl ?_
  refine v_iconst C (oX9_setOutput.at 4 rfl) (v := nI 0) rfl ?_
  refine v_aload_n C (oX9_setOutput.at 5 rfl) rfl ?_
  refine v_callV C (oX9_setOutput.at 6 rfl) cX9_114 q0 (k9_all q0 qm.1 qm.2.1 (by omega)) rfl rfl rfl ⟨rfl, rfl⟩ rfl rfl (fun _ => rfl) (fun h' hp => ?_)
  rw [show h' = _ from hp]
  dsimp only [Option.toList, List.cons_append, List.nil_append]
  refine v_iconst C (oX9_setOutput.at 7 rfl) (v := nI 1) rfl ?_
  refine v_isubN C (oX9_setOutput.at 8 rfl) (by omega) ?_
  refine v_callS C (oX9_setOutput.at 9 rfl) cX9_103 (k_inT (S.1 ^ S.2.1) hp0 (by omega) rfl (InB.of hx (by omega))) rfl rfl rfl ⟨rfl, rfl⟩ rfl rfl (fun _ => rfl) (fun h' hp => ?_)
  rw [show h' = _ from hp]
  dsimp only [Option.toList, List.cons_append, List.nil_append]
  refine v_if_neB C (oX9_setOutput.at 10 rfl) (tgt := 25) (by decide) (fun _ => ?_) (fun z => absurd z (by decide))
  refine v_iload_n C (oX9_setOutput.at 15 rfl) rfl ?_
  refine v_iconst C (oX9_setOutput.at 16 rfl) (v := nI 0) rfl ?_
  refine v_aload_n C (oX9_setOutput.at 17 rfl) rfl ?_
  refine v_getf C (oX9_setOutput.at 18 rfl) fX9_7 q0 (congrArg (fun z => some (Value.int z)) (qm.1)) ?_
  refine v_iconst C (oX9_setOutput.at 19 rfl) (v := nI 1) rfl ?_
  refine v_isubN C (oX9_setOutput.at 20 rfl) (by omega) ?_
  refine v_callS C (oX9_setOutput.at 21 rfl) cX9_103 (k_inF S.1 (by omega) (by omega) rfl hy) rfl rfl rfl ⟨rfl, rfl⟩ rfl rfl (fun _ => rfl) (fun h' hp => ?_)
  rw [show h' = _ from hp]
  dsimp only [Option.toList, List.cons_append, List.nil_append]
  refine v_if_neB C (oX9_setOutput.at 22 rfl) (tgt := 45) (by decide) (fun z => absurd z (by decide)) (fun _ => ?_)
  refine v_aload_n C (oX9_setOutput.at 23 rfl) rfl ?_
  refine v_iconst C (oX9_setOutput.at 24 rfl) (v := nI 2) rfl ?_
  refine v_callV C (oX9_setOutput.at 25 rfl) cX9_111 q0 (k9_noR hR1) rfl rfl rfl ⟨rfl, rfl⟩ rfl rfl (fun _ => rfl) (fun h' hp => ?_)
  dsimp only [Option.toList, List.cons_append, List.nil_append]
  exact v_iret C (oX9_setOutput.at 26 rfl) rfl rfl ⟨Nat.le_refl _, Nat.le_refl _⟩ ⟨rfl, hp⟩
