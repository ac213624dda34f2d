/-! ===== constructors that lay arrays ===== -/
def mX0_init : Mi := (yX0_init, cX0_init, 1, none, 0)
def tX0_init : Ct := [(0, .aload_n 0, 1), (1, .invokespecial 1, 3), (4, .aload_n 0, 1), (5, .iconst 0, 1), (6, .putfield 7, 3), (9, .aload_n 0, 1), (10, .iconst 0, 1), (11, .putfield 13, 3), (14, .aload_n 0, 1), (15, .iconst (-1), 1), (16, .putfield 16, 3), (19, .aload_n 0, 1), (20, .bipush 40, 2), (22, .newarray .int, 2), (24, .putfield 19, 3), (27, .aload_n 0, 1), (28, .bipush 40, 2), (30, .newarray .int, 2), (32, .putfield 23, 3), (35, .aload_n 0, 1), (36, .bipush 40, 2), (38, .newarray .int, 2), (40, .putfield 26, 3), (43, .aload_n 0, 1), (44, .bipush 40, 2), (46, .newarray .int, 2), (48, .putfield 29, 3), (51, .aload_n 0, 1), (52, .iconst 4, 1), (53, .newarray .int, 2), (55, .putfield 34, 3), (58, .return_, 1)]
set_option maxRecDepth 20000 in
theorem oX0_init : CtOk mX0_init.2.1 tX0_init := by unfold CtOk; decide +kernel
set_option maxRecDepth 20000 in
theorem kX0_init : MK mX0_init := ⟨tj1 133 (by rfl) rfl, tj1 4 (by rfl) rfl, by decide +kernel, by decide +kernel, by decide +kernel⟩
theorem iX0_init : mX0_init.1.name = "<init>" ∧ Cond.instanceMethod mX0_init.1 ∈ TSg ∧ mX0_init.2.2.2.1 = none ∧ mX0_init.2.2.2.2 = 0 := ⟨rfl, tj1 132 (by rfl) rfl, rfl, rfl⟩
theorem q0_3 : FPt 0 3 (.array .int) true := ⟨_, _, _, rfl, by decide +kernel, rfl⟩
theorem q0_4 : FPt 0 4 (.array .int) true := ⟨_, _, _, rfl, by decide +kernel, rfl⟩
theorem q0_6 : FPt 0 6 (.array .int) true := ⟨_, _, _, rfl, by decide +kernel, rfl⟩
theorem q0_8 : FPt 0 8 (.array .int) true := ⟨_, _, _, rfl, by decide +kernel, rfl⟩
theorem q0_9 : FPt 0 9 (.array .int) true := ⟨_, _, _, rfl, by decide +kernel, rfl⟩
def dv0 : List Value := [.int 0, .int 0, .int 0, .null, .null, .int 0, .null, .int 0, .null, .null]
theorem k0_init {w : Wt} {h : Hp} {q : Nat} (hw0 : w.2 = q + 1) (hq : h q = .inr (0, dv0)) : Con mX0_init 0 (5, 164) w [.ref q] h (.inl none) (fun w' h' => WX w w' 5 ∧ h' = hu (mkL h (q + 1) [io 40 (fun _ => 0), io 40 (fun _ => 0), io 40 (fun _ => 0), io 40 (fun _ => 0), io 4 (fun _ => 0)]) q (.inr (0, [.int (nI 0), .int (nI 0), .int (-1), .ref (q + 1), .ref (q + 2), .int 0, .ref (q + 3), .int 0, .ref (q + 4), .ref (q + 5)]))) := by
  refine conI (by decide +kernel) ⟨fun _ => rfl, rfl, by simp⟩ (fun X C => ?_)
  change V X (0, 0) w h 0 [some (.ref q)] []
  refine v_aload_n C (oX0_init.at 0 rfl) rfl ?_
  refine v_objI C (oX0_init.at 1 rfl) (tj1 134 (by rfl) rfl) rfl rfl ?_
  rw [← hu_id h hq]
  refine v_aload_n C (oX0_init.at 2 rfl) rfl ?_
  refine v_iconst C (oX0_init.at 3 rfl) (v := nI 0) rfl ?_
  refine v_putI C (oX0_init.at 4 rfl) fX0_7 p0_0 (hu_s _ _ _) rfl ?_
  rw [hu_hu]
  refine v_aload_n C (oX0_init.at 5 rfl) rfl ?_
  refine v_iconst C (oX0_init.at 6 rfl) (v := nI 0) rfl ?_
  refine v_putI C (oX0_init.at 7 rfl) fX0_13 p0_1 (hu_s _ _ _) rfl ?_
  rw [hu_hu]
  refine v_aload_n C (oX0_init.at 8 rfl) rfl ?_
  refine v_iconst C (oX0_init.at 9 rfl) (v := -1) rfl ?_
  refine v_putI C (oX0_init.at 10 rfl) fX0_16 p0_2 (hu_s _ _ _) rfl ?_
  rw [hu_hu]
  refine v_aload_n C (oX0_init.at 11 rfl) rfl ?_
  refine v_bipush C (oX0_init.at 12 rfl) (v := nI 40) rfl ?_
  refine v_mkI C (oX0_init.at 13 rfl) (oX0_init.at 14 rfl) fX0_19 q0_3 rfl (fun _ _ _ h => by cases h; rfl) hw0 (by omega) (by decide) ⟨by decide, by decide⟩ rfl (fun w1 x1 => ?_)
  have hw1 : w1.2 = q + 2 := by have := x1.1; omega
  refine v_aload_n C (oX0_init.at 15 rfl) rfl ?_
  refine v_bipush C (oX0_init.at 16 rfl) (v := nI 40) rfl ?_
  refine v_mkI C (oX0_init.at 17 rfl) (oX0_init.at 18 rfl) fX0_23 q0_4 rfl (fun _ _ _ h => by cases h; rfl) hw1 (by omega) (by decide) ⟨by decide, by decide⟩ rfl (fun w2 x2 => ?_)
  have hw2 : w2.2 = q + 3 := by have := x2.1; omega
  refine v_aload_n C (oX0_init.at 19 rfl) rfl ?_
  refine v_bipush C (oX0_init.at 20 rfl) (v := nI 40) rfl ?_
  refine v_mkI C (oX0_init.at 21 rfl) (oX0_init.at 22 rfl) fX0_26 q0_6 rfl (fun _ _ _ h => by cases h; rfl) hw2 (by omega) (by decide) ⟨by decide, by decide⟩ rfl (fun w3 x3 => ?_)
  have hw3 : w3.2 = q + 4 := by have := x3.1; omega
  refine v_aload_n C (oX0_init.at 23 rfl) rfl ?_
  refine v_bipush C (oX0_init.at 24 rfl) (v := nI 40) rfl ?_
  refine v_mkI C (oX0_init.at 25 rfl) (oX0_init.at 26 rfl) fX0_29 q0_8 rfl (fun _ _ _ h => by cases h; rfl) hw3 (by omega) (by decide) ⟨by decide, by decide⟩ rfl (fun w4 x4 => ?_)
  have hw4 : w4.2 = q + 5 := by have := x4.1; omega
  refine v_aload_n C (oX0_init.at 27 rfl) rfl ?_
  refine v_iconst C (oX0_init.at 28 rfl) (v := nI 4) rfl ?_
  refine v_mkI C (oX0_init.at 29 rfl) (oX0_init.at 30 rfl) fX0_34 q0_9 rfl (fun _ _ _ h => by cases h; rfl) hw4 (by omega) (by decide) ⟨by decide, by decide⟩ rfl (fun w5 x5 => ?_)
  have hw5 : w5.2 = q + 6 := by have := x5.1; omega
  exact v_vret C (oX0_init.at 31 rfl) rfl rfl ⟨by decide, by decide⟩ ⟨((((x1.tr x2).tr x3).tr x4).tr x5), rfl⟩
def mX1_init : Mi := (yX1_init, cX1_init, 1, none, 0)
def tX1_init : Ct := [(0, .aload_n 0, 1), (1, .invokespecial 3, 3), (4, .aload_n 0, 1), (5, .bipush 17, 2), (7, .newarray .int, 2), (9, .putfield 11, 3), (12, .aload_n 0, 1), (13, .sipush 6561, 3), (16, .newarray .int, 2), (18, .putfield 17, 3), (21, .return_, 1)]
set_option maxRecDepth 20000 in
theorem oX1_init : CtOk mX1_init.2.1 tX1_init := by unfold CtOk; decide +kernel
set_option maxRecDepth 20000 in
theorem kX1_init : MK mX1_init := ⟨tj1 173 (by rfl) rfl, tj1 5 (by rfl) rfl, by decide +kernel, by decide +kernel, by decide +kernel⟩
theorem iX1_init : mX1_init.1.name = "<init>" ∧ Cond.instanceMethod mX1_init.1 ∈ TSg ∧ mX1_init.2.2.2.1 = none ∧ mX1_init.2.2.2.2 = 0 := ⟨rfl, tj1 172 (by rfl) rfl, rfl, rfl⟩
theorem q1_2 : FPt 1 2 (.array .int) true := ⟨_, _, _, rfl, by decide +kernel, rfl⟩
theorem q1_3 : FPt 1 3 (.array .int) true := ⟨_, _, _, rfl, by decide +kernel, rfl⟩
def dv1 : List Value := [.int 0, .int 0, .null, .null]
theorem k1_init {w : Wt} {h : Hp} {q : Nat} (hw0 : w.2 = q + 1) (hq : h q = .inr (1, dv1)) : Con mX1_init 0 (2, 6578) w [.ref q] h (.inl none) (fun w' h' => WX w w' 2 ∧ h' = hu (mkL h (q + 1) [io 17 (fun _ => 0), io 6561 (fun _ => 0)]) q (.inr (1, [.int 0, .int 0, .ref (q + 1), .ref (q + 2)]))) := by
  refine conI (by decide +kernel) ⟨fun _ => rfl, rfl, by simp⟩ (fun X C => ?_)
  change V X (0, 0) w h 0 [some (.ref q)] []
  refine v_aload_n C (oX1_init.at 0 rfl) rfl ?_
  refine v_objI C (oX1_init.at 1 rfl) (tj1 174 (by rfl) rfl) rfl rfl ?_
  rw [← hu_id h hq]
  refine v_aload_n C (oX1_init.at 2 rfl) rfl ?_
  refine v_bipush C (oX1_init.at 3 rfl) (v := nI 17) rfl ?_
  refine v_mkI C (oX1_init.at 4 rfl) (oX1_init.at 5 rfl) fX1_11 q1_2 rfl (fun _ _ _ h => by cases h; rfl) hw0 (by omega) (by decide) ⟨by decide, by decide⟩ rfl (fun w1 x1 => ?_)
  have hw1 : w1.2 = q + 2 := by have := x1.1; omega
  refine v_aload_n C (oX1_init.at 6 rfl) rfl ?_
  refine v_sipush C (oX1_init.at 7 rfl) (v := nI 6561) rfl ?_
  refine v_mkI C (oX1_init.at 8 rfl) (oX1_init.at 9 rfl) fX1_17 q1_3 rfl (fun _ _ _ h => by cases h; rfl) hw1 (by omega) (by decide) ⟨by decide, by decide⟩ rfl (fun w2 x2 => ?_)
  have hw2 : w2.2 = q + 3 := by have := x2.1; omega
  exact v_vret C (oX1_init.at 10 rfl) rfl rfl ⟨by decide, by decide⟩ ⟨(x1.tr x2), rfl⟩
def mX2_init : Mi := (yX2_init, cX2_init, 1, none, 0)
def tX2_init : Ct := [(0, .aload_n 0, 1), (1, .invokespecial 1, 3), (4, .aload_n 0, 1), (5, .sipush 2187, 3), (8, .newarray .int, 2), (10, .putfield 9, 3), (13, .aload_n 0, 1), (14, .sipush 243, 3), (17, .newarray .int, 2), (19, .putfield 13, 3), (22, .return_, 1)]
set_option maxRecDepth 20000 in
theorem oX2_init : CtOk mX2_init.2.1 tX2_init := by unfold CtOk; decide +kernel
set_option maxRecDepth 20000 in
theorem kX2_init : MK mX2_init := ⟨tj2 26 (by rfl) rfl, tj1 9 (by rfl) rfl, by decide +kernel, by decide +kernel, by decide +kernel⟩
theorem iX2_init : mX2_init.1.name = "<init>" ∧ Cond.instanceMethod mX2_init.1 ∈ TSg ∧ mX2_init.2.2.2.1 = none ∧ mX2_init.2.2.2.2 = 0 := ⟨rfl, tj2 25 (by rfl) rfl, rfl, rfl⟩
theorem q2_2 : FPt 2 2 (.array .int) true := ⟨_, _, _, rfl, by decide +kernel, rfl⟩
theorem q2_3 : FPt 2 3 (.array .int) true := ⟨_, _, _, rfl, by decide +kernel, rfl⟩
def dv2 : List Value := [.int 0, .int 0, .null, .null]
theorem k2_init {w : Wt} {h : Hp} {q : Nat} (hw0 : w.2 = q + 1) (hq : h q = .inr (2, dv2)) : Con mX2_init 0 (2, 2430) w [.ref q] h (.inl none) (fun w' h' => WX w w' 2 ∧ h' = hu (mkL h (q + 1) [io 2187 (fun _ => 0), io 243 (fun _ => 0)]) q (.inr (2, [.int 0, .int 0, .ref (q + 1), .ref (q + 2)]))) := by
  refine conI (by decide +kernel) ⟨fun _ => rfl, rfl, by simp⟩ (fun X C => ?_)
  change V X (0, 0) w h 0 [some (.ref q)] []
  refine v_aload_n C (oX2_init.at 0 rfl) rfl ?_
  refine v_objI C (oX2_init.at 1 rfl) (tj2 27 (by rfl) rfl) rfl rfl ?_
  rw [← hu_id h hq]
  refine v_aload_n C (oX2_init.at 2 rfl) rfl ?_
  refine v_sipush C (oX2_init.at 3 rfl) (v := nI 2187) rfl ?_
  refine v_mkI C (oX2_init.at 4 rfl) (oX2_init.at 5 rfl) fX2_9 q2_2 rfl (fun _ _ _ h => by cases h; rfl) hw0 (by omega) (by decide) ⟨by decide, by decide⟩ rfl (fun w1 x1 => ?_)
  have hw1 : w1.2 = q + 2 := by have := x1.1; omega
  refine v_aload_n C (oX2_init.at 6 rfl) rfl ?_
  refine v_sipush C (oX2_init.at 7 rfl) (v := nI 243) rfl ?_
  refine v_mkI C (oX2_init.at 8 rfl) (oX2_init.at 9 rfl) fX2_13 q2_3 rfl (fun _ _ _ h => by cases h; rfl) hw1 (by omega) (by decide) ⟨by decide, by decide⟩ rfl (fun w2 x2 => ?_)
  have hw2 : w2.2 = q + 3 := by have := x2.1; omega
  exact v_vret C (oX2_init.at 10 rfl) rfl rfl ⟨by decide, by decide⟩ ⟨(x1.tr x2), rfl⟩
def mX3_init : Mi := (yX3_init, cX3_init, 1, none, 0)
def tX3_init : Ct := [(0, .aload_n 0, 1), (1, .invokespecial 1, 3), (4, .aload_n 0, 1), (5, .bipush 45, 2), (7, .newarray .long, 2), (9, .putfield 9, 3), (12, .return_, 1)]
set_option maxRecDepth 20000 in
theorem oX3_init : CtOk mX3_init.2.1 tX3_init := by unfold CtOk; decide +kernel
set_option maxRecDepth 20000 in
theorem kX3_init : MK mX3_init := ⟨tj2 15 (by rfl) rfl, tj1 8 (by rfl) rfl, by decide +kernel, by decide +kernel, by decide +kernel⟩
theorem iX3_init : mX3_init.1.name = "<init>" ∧ Cond.instanceMethod mX3_init.1 ∈ TSg ∧ mX3_init.2.2.2.1 = none ∧ mX3_init.2.2.2.2 = 0 := ⟨rfl, tj2 14 (by rfl) rfl, rfl, rfl⟩
theorem q3_0 : FPt 3 0 (.array .long) true := ⟨_, _, _, rfl, by decide +kernel, rfl⟩
def dv3 : List Value := [.null]
theorem k3_init {w : Wt} {h : Hp} {q : Nat} (hw0 : w.2 = q + 1) (hq : h q = .inr (3, dv3)) : Con mX3_init 0 (1, 45) w [.ref q] h (.inl none) (fun w' h' => WX w w' 1 ∧ h' = hu (mkL h (q + 1) [jo 45 (fun _ => 0)]) q (.inr (3, [.ref (q + 1)]))) := by
  refine conI (by decide +kernel) ⟨fun _ => rfl, rfl, by simp⟩ (fun X C => ?_)
  change V X (0, 0) w h 0 [some (.ref q)] []
  refine v_aload_n C (oX3_init.at 0 rfl) rfl ?_
  refine v_objI C (oX3_init.at 1 rfl) (tj2 16 (by rfl) rfl) rfl rfl ?_
  rw [← hu_id h hq]
  refine v_aload_n C (oX3_init.at 2 rfl) rfl ?_
  refine v_bipush C (oX3_init.at 3 rfl) (v := nI 45) rfl ?_
  refine v_mkJ C (oX3_init.at 4 rfl) (oX3_init.at 5 rfl) fX3_9 q3_0 rfl (fun _ _ _ h => by cases h; rfl) hw0 (by omega) (by decide) ⟨by decide, by decide⟩ rfl (fun w1 x1 => ?_)
  have hw1 : w1.2 = q + 2 := by have := x1.1; omega
  exact v_vret C (oX3_init.at 6 rfl) rfl rfl ⟨by decide, by decide⟩ ⟨x1, rfl⟩
def mX5_init : Mi := (yX5_init, cX5_init, 1, none, 0)
def tX5_init : Ct := [(0, .aload_n 0, 1), (1, .invokespecial 3, 3), (4, .aload_n 0, 1), (5, .iconst 4, 1), (6, .newarray .int, 2), (8, .putfield 9, 3), (11, .aload_n 0, 1), (12, .iconst 4, 1), (13, .newarray .int, 2), (15, .putfield 15, 3), (18, .return_, 1)]
set_option maxRecDepth 20000 in
theorem oX5_init : CtOk mX5_init.2.1 tX5_init := by unfold CtOk; decide +kernel
set_option maxRecDepth 20000 in
theorem kX5_init : MK mX5_init := ⟨tj1 118 (by rfl) rfl, tj1 3 (by rfl) rfl, by decide +kernel, by decide +kernel, by decide +kernel⟩
theorem iX5_init : mX5_init.1.name = "<init>" ∧ Cond.instanceMethod mX5_init.1 ∈ TSg ∧ mX5_init.2.2.2.1 = none ∧ mX5_init.2.2.2.2 = 0 := ⟨rfl, tj1 117 (by rfl) rfl, rfl, rfl⟩
theorem q5_0 : FPt 5 0 (.array .int) true := ⟨_, _, _, rfl, by decide +kernel, rfl⟩
theorem q5_1 : FPt 5 1 (.array .int) true := ⟨_, _, _, rfl, by decide +kernel, rfl⟩
def dv5 : List Value := [.null, .null]
theorem k5_init {w : Wt} {h : Hp} {q : Nat} (hw0 : w.2 = q + 1) (hq : h q = .inr (5, dv5)) : Con mX5_init 0 (2, 8) w [.ref q] h (.inl none) (fun w' h' => WX w w' 2 ∧ h' = hu (mkL h (q + 1) [io 4 (fun _ => 0), io 4 (fun _ => 0)]) q (.inr (5, [.ref (q + 1), .ref (q + 2)]))) := by
  refine conI (by decide +kernel) ⟨fun _ => rfl, rfl, by simp⟩ (fun X C => ?_)
  change V X (0, 0) w h 0 [some (.ref q)] []
  refine v_aload_n C (oX5_init.at 0 rfl) rfl ?_
  refine v_objI C (oX5_init.at 1 rfl) (tj1 119 (by rfl) rfl) rfl rfl ?_
  rw [← hu_id h hq]
  refine v_aload_n C (oX5_init.at 2 rfl) rfl ?_
  refine v_iconst C (oX5_init.at 3 rfl) (v := nI 4) rfl ?_
  refine v_mkI C (oX5_init.at 4 rfl) (oX5_init.at 5 rfl) fX5_9 q5_0 rfl (fun _ _ _ h => by cases h; rfl) hw0 (by omega) (by decide) ⟨by decide, by decide⟩ rfl (fun w1 x1 => ?_)
  have hw1 : w1.2 = q + 2 := by have := x1.1; omega
  refine v_aload_n C (oX5_init.at 6 rfl) rfl ?_
  refine v_iconst C (oX5_init.at 7 rfl) (v := nI 4) rfl ?_
  refine v_mkI C (oX5_init.at 8 rfl) (oX5_init.at 9 rfl) fX5_15 q5_1 rfl (fun _ _ _ h => by cases h; rfl) hw1 (by omega) (by decide) ⟨by decide, by decide⟩ rfl (fun w2 x2 => ?_)
  have hw2 : w2.2 = q + 3 := by have := x2.1; omega
  exact v_vret C (oX5_init.at 10 rfl) rfl rfl ⟨by decide, by decide⟩ ⟨(x1.tr x2), rfl⟩
def mX7_init : Mi := (yX7_init, cX7_init, 1, none, 0)
def tX7_init : Ct := [(0, .aload_n 0, 1), (1, .invokespecial 1, 3), (4, .aload_n 0, 1), (5, .iconst 0, 1), (6, .putfield 7, 3), (9, .aload_n 0, 1), (10, .sipush 512, 3), (13, .newarray .int, 2), (15, .putfield 13, 3), (18, .aload_n 0, 1), (19, .sipush 512, 3), (22, .newarray .int, 2), (24, .putfield 17, 3), (27, .aload_n 0, 1), (28, .sipush 512, 3), (31, .newarray .int, 2), (33, .putfield 20, 3), (36, .aload_n 0, 1), (37, .sipush 512, 3), (40, .newarray .int, 2), (42, .putfield 23, 3), (45, .aload_n 0, 1), (46, .sipush 1536, 3), (49, .newarray .int, 2), (51, .putfield 28, 3), (54, .aload_n 0, 1), (55, .bipush 27, 2), (57, .newarray .int, 2), (59, .putfield 31, 3), (62, .aload_n 0, 1), (63, .sipush 512, 3), (66, .newarray .int, 2), (68, .putfield 34, 3), (71, .aload_n 0, 1), (72, .sipush 512, 3), (75, .newarray .int, 2), (77, .putfield 37, 3), (80, .return_, 1)]
set_option maxRecDepth 20000 in
theorem oX7_init : CtOk mX7_init.2.1 tX7_init := by unfold CtOk; decide +kernel
set_option maxRecDepth 20000 in
theorem kX7_init : MK mX7_init := ⟨tj1 220 (by rfl) rfl, tj1 7 (by rfl) rfl, by decide +kernel, by decide +kernel, by decide +kernel⟩
theorem iX7_init : mX7_init.1.name = "<init>" ∧ Cond.instanceMethod mX7_init.1 ∈ TSg ∧ mX7_init.2.2.2.1 = none ∧ mX7_init.2.2.2.2 = 0 := ⟨rfl, tj1 219 (by rfl) rfl, rfl, rfl⟩
theorem q7_1 : FPt 7 1 (.array .int) true := ⟨_, _, _, rfl, by decide +kernel, rfl⟩
theorem q7_2 : FPt 7 2 (.array .int) true := ⟨_, _, _, rfl, by decide +kernel, rfl⟩
theorem q7_3 : FPt 7 3 (.array .int) true := ⟨_, _, _, rfl, by decide +kernel, rfl⟩
theorem q7_4 : FPt 7 4 (.array .int) true := ⟨_, _, _, rfl, by decide +kernel, rfl⟩
theorem q7_5 : FPt 7 5 (.array .int) true := ⟨_, _, _, rfl, by decide +kernel, rfl⟩
theorem q7_6 : FPt 7 6 (.array .int) true := ⟨_, _, _, rfl, by decide +kernel, rfl⟩
theorem q7_7 : FPt 7 7 (.array .int) true := ⟨_, _, _, rfl, by decide +kernel, rfl⟩
theorem q7_8 : FPt 7 8 (.array .int) true := ⟨_, _, _, rfl, by decide +kernel, rfl⟩
def dv7 : List Value := [.int 0, .null, .null, .null, .null, .null, .null, .null, .null]
theorem k7_init {w : Wt} {h : Hp} {q : Nat} (hw0 : w.2 = q + 1) (hq : h q = .inr (7, dv7)) : Con mX7_init 0 (8, 4635) w [.ref q] h (.inl none) (fun w' h' => WX w w' 8 ∧ h' = hu (mkL h (q + 1) [io 512 (fun _ => 0), io 512 (fun _ => 0), io 512 (fun _ => 0), io 512 (fun _ => 0), io 1536 (fun _ => 0), io 27 (fun _ => 0), io 512 (fun _ => 0), io 512 (fun _ => 0)]) q (.inr (7, [.int (nI 0), .ref (q + 1), .ref (q + 2), .ref (q + 3), .ref (q + 4), .ref (q + 5), .ref (q + 6), .ref (q + 7), .ref (q + 8)]))) := by
  refine conI (by decide +kernel) ⟨fun _ => rfl, rfl, by simp⟩ (fun X C => ?_)
  change V X (0, 0) w h 0 [some (.ref q)] []
  refine v_aload_n C (oX7_init.at 0 rfl) rfl ?_
  refine v_objI C (oX7_init.at 1 rfl) (tj1 221 (by rfl) rfl) rfl rfl ?_
  rw [← hu_id h hq]
  refine v_aload_n C (oX7_init.at 2 rfl) rfl ?_
  refine v_iconst C (oX7_init.at 3 rfl) (v := nI 0) rfl ?_
  refine v_putI C (oX7_init.at 4 rfl) fX7_7 p7_0 (hu_s _ _ _) rfl ?_
  rw [hu_hu]
  refine v_aload_n C (oX7_init.at 5 rfl) rfl ?_
  refine v_sipush C (oX7_init.at 6 rfl) (v := nI 512) rfl ?_
  refine v_mkI C (oX7_init.at 7 rfl) (oX7_init.at 8 rfl) fX7_13 q7_1 rfl (fun _ _ _ h => by cases h; rfl) hw0 (by omega) (by decide) ⟨by decide, by decide⟩ rfl (fun w1 x1 => ?_)
  have hw1 : w1.2 = q + 2 := by have := x1.1; omega
  refine v_aload_n C (oX7_init.at 9 rfl) rfl ?_
  refine v_sipush C (oX7_init.at 10 rfl) (v := nI 512) rfl ?_
  refine v_mkI C (oX7_init.at 11 rfl) (oX7_init.at 12 rfl) fX7_17 q7_2 rfl (fun _ _ _ h => by cases h; rfl) hw1 (by omega) (by decide) ⟨by decide, by decide⟩ rfl (fun w2 x2 => ?_)
  have hw2 : w2.2 = q + 3 := by have := x2.1; omega
  refine v_aload_n C (oX7_init.at 13 rfl) rfl ?_
  refine v_sipush C (oX7_init.at 14 rfl) (v := nI 512) rfl ?_
  refine v_mkI C (oX7_init.at 15 rfl) (oX7_init.at 16 rfl) fX7_20 q7_3 rfl (fun _ _ _ h => by cases h; rfl) hw2 (by omega) (by decide) ⟨by decide, by decide⟩ rfl (fun w3 x3 => ?_)
  have hw3 : w3.2 = q + 4 := by have := x3.1; omega
  refine v_aload_n C (oX7_init.at 17 rfl) rfl ?_
  refine v_sipush C (oX7_init.at 18 rfl) (v := nI 512) rfl ?_
  refine v_mkI C (oX7_init.at 19 rfl) (oX7_init.at 20 rfl) fX7_23 q7_4 rfl (fun _ _ _ h => by cases h; rfl) hw3 (by omega) (by decide) ⟨by decide, by decide⟩ rfl (fun w4 x4 => ?_)
  have hw4 : w4.2 = q + 5 := by have := x4.1; omega
  refine v_aload_n C (oX7_init.at 21 rfl) rfl ?_
  refine v_sipush C (oX7_init.at 22 rfl) (v := nI 1536) rfl ?_
  refine v_mkI C (oX7_init.at 23 rfl) (oX7_init.at 24 rfl) fX7_28 q7_5 rfl (fun _ _ _ h => by cases h; rfl) hw4 (by omega) (by decide) ⟨by decide, by decide⟩ rfl (fun w5 x5 => ?_)
  have hw5 : w5.2 = q + 6 := by have := x5.1; omega
  refine v_aload_n C (oX7_init.at 25 rfl) rfl ?_
  refine v_bipush C (oX7_init.at 26 rfl) (v := nI 27) rfl ?_
  refine v_mkI C (oX7_init.at 27 rfl) (oX7_init.at 28 rfl) fX7_31 q7_6 rfl (fun _ _ _ h => by cases h; rfl) hw5 (by omega) (by decide) ⟨by decide, by decide⟩ rfl (fun w6 x6 => ?_)
  have hw6 : w6.2 = q + 7 := by have := x6.1; omega
  refine v_aload_n C (oX7_init.at 29 rfl) rfl ?_
  refine v_sipush C (oX7_init.at 30 rfl) (v := nI 512) rfl ?_
  refine v_mkI C (oX7_init.at 31 rfl) (oX7_init.at 32 rfl) fX7_34 q7_7 rfl (fun _ _ _ h => by cases h; rfl) hw6 (by omega) (by decide) ⟨by decide, by decide⟩ rfl (fun w7 x7 => ?_)
  have hw7 : w7.2 = q + 8 := by have := x7.1; omega
  refine v_aload_n C (oX7_init.at 33 rfl) rfl ?_
  refine v_sipush C (oX7_init.at 34 rfl) (v := nI 512) rfl ?_
  refine v_mkI C (oX7_init.at 35 rfl) (oX7_init.at 36 rfl) fX7_37 q7_8 rfl (fun _ _ _ h => by cases h; rfl) hw7 (by omega) (by decide) ⟨by decide, by decide⟩ rfl (fun w8 x8 => ?_)
  have hw8 : w8.2 = q + 9 := by have := x8.1; omega
  exact v_vret C (oX7_init.at 37 rfl) rfl rfl ⟨by decide, by decide⟩ ⟨(((((((x1.tr x2).tr x3).tr x4).tr x5).tr x6).tr x7).tr x8), rfl⟩
