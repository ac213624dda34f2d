/-! ===== constructors 2 ===== -/
def mX9_init : Mi := (yX9_init, cX9_init, 1, none, 0)
def tX9_init : Ct := [(0, .aload_n 0, 1), (1, .invokespecial 1, 3), (4, .aload_n 0, 1), (5, .iconst 2, 1), (6, .putfield 7, 3), (9, .aload_n 0, 1), (10, .iconst 3, 1), (11, .putfield 13, 3), (14, .aload_n 0, 1), (15, .bipush 27, 2), (17, .newarray .int, 2), (19, .putfield 16, 3), (22, .aload_n 0, 1), (23, .iconst 4, 1), (24, .newarray .int, 2), (26, .putfield 20, 3), (29, .aload_n 0, 1), (30, .iconst 4, 1), (31, .newarray .int, 2), (33, .putfield 23, 3), (36, .aload_n 0, 1), (37, .bipush 27, 2), (39, .newarray .int, 2), (41, .putfield 26, 3), (44, .aload_n 0, 1), (45, .iconst 4, 1), (46, .newarray .int, 2), (48, .putfield 29, 3), (51, .aload_n 0, 1), (52, .iconst 4, 1), (53, .newarray .int, 2), (55, .putfield 32, 3), (58, .aload_n 0, 1), (59, .bipush 40, 2), (61, .newarray .int, 2), (63, .putfield 35, 3), (66, .aload_n 0, 1), (67, .iconst (-1), 1), (68, .putfield 38, 3), (71, .aload_n 0, 1), (72, .bipush 27, 2), (74, .newarray .int, 2), (76, .putfield 41, 3), (79, .aload_n 0, 1), (80, .bipush 27, 2), (82, .newarray .int, 2), (84, .putfield 44, 3), (87, .aload_n 0, 1), (88, .bipush 40, 2), (90, .newarray .int, 2), (92, .putfield 47, 3), (95, .aload_n 0, 1), (96, .bipush 41, 2), (98, .newarray .int, 2), (100, .putfield 50, 3), (103, .aload_n 0, 1), (104, .bipush 40, 2), (106, .newarray .int, 2), (108, .putfield 53, 3), (111, .aload_n 0, 1), (112, .sipush 6561, 3), (115, .newarray .int, 2), (117, .putfield 56, 3), (120, .aload_n 0, 1), (121, .sipush 144, 3), (124, .newarray .int, 2), (126, .putfield 59, 3), (129, .aload_n 0, 1), (130, .bipush 9, 2), (132, .newarray .int, 2), (134, .putfield 62, 3), (137, .aload_n 0, 1), (138, .bipush 9, 2), (140, .newarray .int, 2), (142, .putfield 65, 3), (145, .aload_n 0, 1), (146, .sipush 512, 3), (149, .newarray .int, 2), (151, .putfield 68, 3), (154, .aload_n 0, 1), (155, .sipush 512, 3), (158, .newarray .int, 2), (160, .putfield 71, 3), (163, .aload_n 0, 1), (164, .sipush 512, 3), (167, .newarray .int, 2), (169, .putfield 74, 3), (172, .aload_n 0, 1), (173, .sipush 512, 3), (176, .newarray .int, 2), (178, .putfield 77, 3), (181, .aload_n 0, 1), (182, .sipush 512, 3), (185, .newarray .boolean, 2), (187, .putfield 80, 3), (190, .aload_n 0, 1), (191, .sipush 512, 3), (194, .newarray .int, 2), (196, .putfield 84, 3), (199, .aload_n 0, 1), (200, .sipush 512, 3), (203, .newarray .int, 2), (205, .putfield 87, 3), (208, .aload_n 0, 1), (209, .sipush 6561, 3), (212, .newarray .boolean, 2), (214, .putfield 90, 3), (217, .aload_n 0, 1), (218, .sipush 243, 3), (221, .newarray .int, 2), (223, .putfield 93, 3), (226, .return_, 1)]
set_option maxRecDepth 20000 in
theorem oX9_init : CtOk mX9_init.2.1 tX9_init := by unfold CtOk; decide +kernel
set_option maxRecDepth 20000 in
theorem kX9_init : MK mX9_init := ⟨tj6 147 (by rfl) rfl, tj1 10 (by rfl) rfl, by decide +kernel, by decide +kernel, by decide +kernel⟩
theorem iX9_init : mX9_init.1.name = "<init>" ∧ Cond.instanceMethod mX9_init.1 ∈ TSg ∧ mX9_init.2.2.2.1 = none ∧ mX9_init.2.2.2.2 = 0 := ⟨rfl, tj6 146 (by rfl) rfl, rfl, rfl⟩
theorem q9_3 : FPt 9 3 (.array .int) true := ⟨_, _, _, rfl, by decide +kernel, rfl⟩
theorem q9_4 : FPt 9 4 (.array .int) true := ⟨_, _, _, rfl, by decide +kernel, rfl⟩
theorem q9_5 : FPt 9 5 (.array .int) true := ⟨_, _, _, rfl, by decide +kernel, rfl⟩
theorem q9_8 : FPt 9 8 (.array .int) true := ⟨_, _, _, rfl, by decide +kernel, rfl⟩
theorem q9_9 : FPt 9 9 (.array .int) true := ⟨_, _, _, rfl, by decide +kernel, rfl⟩
theorem q9_10 : FPt 9 10 (.array .int) true := ⟨_, _, _, rfl, by decide +kernel, rfl⟩
theorem q9_11 : FPt 9 11 (.array .int) true := ⟨_, _, _, rfl, by decide +kernel, rfl⟩
theorem q9_15 : FPt 9 15 (.array .int) true := ⟨_, _, _, rfl, by decide +kernel, rfl⟩
theorem q9_16 : FPt 9 16 (.array .int) true := ⟨_, _, _, rfl, by decide +kernel, rfl⟩
theorem q9_17 : FPt 9 17 (.array .int) true := ⟨_, _, _, rfl, by decide +kernel, rfl⟩
theorem q9_18 : FPt 9 18 (.array .int) true := ⟨_, _, _, rfl, by decide +kernel, rfl⟩
theorem q9_23 : FPt 9 23 (.array .int) true := ⟨_, _, _, rfl, by decide +kernel, rfl⟩
theorem q9_25 : FPt 9 25 (.array .int) true := ⟨_, _, _, rfl, by decide +kernel, rfl⟩
theorem q9_26 : FPt 9 26 (.array .int) true := ⟨_, _, _, rfl, by decide +kernel, rfl⟩
theorem q9_27 : FPt 9 27 (.array .int) true := ⟨_, _, _, rfl, by decide +kernel, rfl⟩
theorem q9_28 : FPt 9 28 (.array .int) true := ⟨_, _, _, rfl, by decide +kernel, rfl⟩
theorem q9_29 : FPt 9 29 (.array .int) true := ⟨_, _, _, rfl, by decide +kernel, rfl⟩
theorem q9_30 : FPt 9 30 (.array .int) true := ⟨_, _, _, rfl, by decide +kernel, rfl⟩
theorem q9_31 : FPt 9 31 (.array .int) true := ⟨_, _, _, rfl, by decide +kernel, rfl⟩
theorem q9_32 : FPt 9 32 (.array .int) true := ⟨_, _, _, rfl, by decide +kernel, rfl⟩
theorem q9_33 : FPt 9 33 (.array .boolean) true := ⟨_, _, _, rfl, by decide +kernel, rfl⟩
theorem q9_36 : FPt 9 36 (.array .int) true := ⟨_, _, _, rfl, by decide +kernel, rfl⟩
theorem q9_37 : FPt 9 37 (.array .int) true := ⟨_, _, _, rfl, by decide +kernel, rfl⟩
theorem q9_38 : FPt 9 38 (.array .boolean) true := ⟨_, _, _, rfl, by decide +kernel, rfl⟩
theorem q9_39 : FPt 9 39 (.array .int) true := ⟨_, _, _, rfl, by decide +kernel, rfl⟩
def dv9 : List Value := [.int 0, .int 0, .int 0, .null, .null, .null, .int 0, .int 0, .null, .null, .null, .null, .int 0, .int 0, .int 0, .null, .null, .null, .null, .int 0, .int 0, .int 0, .int 0, .null, .int 0, .null, .null, .null, .null, .null, .null, .null, .null, .null, .int 0, .int 0, .null, .null, .null, .null, .int 0, .int 0]
set_option maxHeartbeats 4000000 in
theorem k9_init {w : Wt} {h : Hp} {q : Nat} (hw0 : w.2 = q + 1) (hq : h q = .inr (9, dv9)) : Con mX9_init 0 (25, 17396) w [.ref q] h (.inl none) (fun w' h' => WX w w' 25 ∧ h' = hu (mkL h (q + 1) [io 27 (fun _ => 0), io 4 (fun _ => 0), io 4 (fun _ => 0), io 27 (fun _ => 0), io 4 (fun _ => 0), io 4 (fun _ => 0), io 40 (fun _ => 0), io 27 (fun _ => 0), io 27 (fun _ => 0), io 40 (fun _ => 0), io 41 (fun _ => 0), io 40 (fun _ => 0), io 6561 (fun _ => 0), io 144 (fun _ => 0), io 9 (fun _ => 0), io 9 (fun _ => 0), io 512 (fun _ => 0), io 512 (fun _ => 0), io 512 (fun _ => 0), io 512 (fun _ => 0), zo 512 (fun _ => 0), io 512 (fun _ => 0), io 512 (fun _ => 0), zo 6561 (fun _ => 0), io 243 (fun _ => 0)]) q (.inr (9, [.int 0, .int (nI 2), .int (nI 3), .ref (q + 1), .ref (q + 2), .ref (q + 3), .int 0, .int 0, .ref (q + 4), .ref (q + 5), .ref (q + 6), .ref (q + 7), .int 0, .int 0, .int (-1), .ref (q + 8), .ref (q + 9), .ref (q + 10), .ref (q + 11), .int 0, .int 0, .int 0, .int 0, .ref (q + 12), .int 0, .ref (q + 13), .ref (q + 14), .ref (q + 15), .ref (q + 16), .ref (q + 17), .ref (q + 18), .ref (q + 19), .ref (q + 20), .ref (q + 21), .int 0, .int 0, .ref (q + 22), .ref (q + 23), .ref (q + 24), .ref (q + 25), .int 0, .int 0]))) := by
  refine conI (by decide +kernel) ⟨fun _ => rfl, rfl, by simp⟩ (fun X C => ?_)
  change V X (0, 0) w h 0 [some (.ref q)] []
  refine v_aload_n C (oX9_init.at 0 rfl) rfl ?_
  refine v_objI C (oX9_init.at 1 rfl) (tj6 148 (by rfl) rfl) rfl rfl ?_
  rw [← hu_id h hq]
  refine v_aload_n C (oX9_init.at 2 rfl) rfl ?_
  refine v_iconst C (oX9_init.at 3 rfl) (v := nI 2) rfl ?_
  refine v_putI C (oX9_init.at 4 rfl) fX9_7 p9_1 (hu_s _ _ _) rfl ?_
  rw [hu_hu]
  change V X (0, 0) w (hu _ q (.inr (9, [.int 0, .int (nI 2), .int 0, .null, .null, .null, .int 0, .int 0, .null, .null, .null, .null, .int 0, .int 0, .int 0, .null, .null, .null, .null, .int 0, .int 0, .int 0, .int 0, .null, .int 0, .null, .null, .null, .null, .null, .null, .null, .null, .null, .int 0, .int 0, .null, .null, .null, .null, .int 0, .int 0]))) 9 [some (.ref q)] []
  refine v_aload_n C (oX9_init.at 5 rfl) rfl ?_
  refine v_iconst C (oX9_init.at 6 rfl) (v := nI 3) rfl ?_
  refine v_putI C (oX9_init.at 7 rfl) fX9_13 p9_2 (hu_s _ _ _) rfl ?_
  rw [hu_hu]
  change V X (0, 0) w (hu _ q (.inr (9, [.int 0, .int (nI 2), .int (nI 3), .null, .null, .null, .int 0, .int 0, .null, .null, .null, .null, .int 0, .int 0, .int 0, .null, .null, .null, .null, .int 0, .int 0, .int 0, .int 0, .null, .int 0, .null, .null, .null, .null, .null, .null, .null, .null, .null, .int 0, .int 0, .null, .null, .null, .null, .int 0, .int 0]))) 14 [some (.ref q)] []
  refine v_aload_n C (oX9_init.at 8 rfl) rfl ?_
  refine v_bipush C (oX9_init.at 9 rfl) (v := nI 27) rfl ?_
  refine v_mkI C (oX9_init.at 10 rfl) (oX9_init.at 11 rfl) fX9_16 q9_3 rfl (fun _ _ _ h => by cases h; rfl) hw0 (Nat.lt_add_of_pos_right (by decide)) (by decide) ⟨by decide, by decide⟩ rfl (fun w1 x1 => ?_)
  have hw1 : w1.2 = q + 2 := x1.1.trans (congrArg (· + 1) hw0)
  change V X (1, 27) w1 (hu _ q (.inr (9, [.int 0, .int (nI 2), .int (nI 3), .ref (q + 1), .null, .null, .int 0, .int 0, .null, .null, .null, .null, .int 0, .int 0, .int 0, .null, .null, .null, .null, .int 0, .int 0, .int 0, .int 0, .null, .int 0, .null, .null, .null, .null, .null, .null, .null, .null, .null, .int 0, .int 0, .null, .null, .null, .null, .int 0, .int 0]))) 22 [some (.ref q)] []
  refine v_aload_n C (oX9_init.at 12 rfl) rfl ?_
  refine v_iconst C (oX9_init.at 13 rfl) (v := nI 4) rfl ?_
  refine v_mkI C (oX9_init.at 14 rfl) (oX9_init.at 15 rfl) fX9_20 q9_4 rfl (fun _ _ _ h => by cases h; rfl) hw1 (Nat.lt_add_of_pos_right (by decide)) (by decide) ⟨by decide, by decide⟩ rfl (fun w2 x2 => ?_)
  have hw2 : w2.2 = q + 3 := x2.1.trans (congrArg (· + 1) hw1)
  change V X (2, 31) w2 (hu _ q (.inr (9, [.int 0, .int (nI 2), .int (nI 3), .ref (q + 1), .ref (q + 2), .null, .int 0, .int 0, .null, .null, .null, .null, .int 0, .int 0, .int 0, .null, .null, .null, .null, .int 0, .int 0, .int 0, .int 0, .null, .int 0, .null, .null, .null, .null, .null, .null, .null, .null, .null, .int 0, .int 0, .null, .null, .null, .null, .int 0, .int 0]))) 29 [some (.ref q)] []
  refine v_aload_n C (oX9_init.at 16 rfl) rfl ?_
  refine v_iconst C (oX9_init.at 17 rfl) (v := nI 4) rfl ?_
  refine v_mkI C (oX9_init.at 18 rfl) (oX9_init.at 19 rfl) fX9_23 q9_5 rfl (fun _ _ _ h => by cases h; rfl) hw2 (Nat.lt_add_of_pos_right (by decide)) (by decide) ⟨by decide, by decide⟩ rfl (fun w3 x3 => ?_)
  have hw3 : w3.2 = q + 4 := x3.1.trans (congrArg (· + 1) hw2)
  change V X (3, 35) w3 (hu _ q (.inr (9, [.int 0, .int (nI 2), .int (nI 3), .ref (q + 1), .ref (q + 2), .ref (q + 3), .int 0, .int 0, .null, .null, .null, .null, .int 0, .int 0, .int 0, .null, .null, .null, .null, .int 0, .int 0, .int 0, .int 0, .null, .int 0, .null, .null, .null, .null, .null, .null, .null, .null, .null, .int 0, .int 0, .null, .null, .null, .null, .int 0, .int 0]))) 36 [some (.ref q)] []
  refine v_aload_n C (oX9_init.at 20 rfl) rfl ?_
  refine v_bipush C (oX9_init.at 21 rfl) (v := nI 27) rfl ?_
  refine v_mkI C (oX9_init.at 22 rfl) (oX9_init.at 23 rfl) fX9_26 q9_8 rfl (fun _ _ _ h => by cases h; rfl) hw3 (Nat.lt_add_of_pos_right (by decide)) (by decide) ⟨by decide, by decide⟩ rfl (fun w4 x4 => ?_)
  have hw4 : w4.2 = q + 5 := x4.1.trans (congrArg (· + 1) hw3)
  change V X (4, 62) w4 (hu _ q (.inr (9, [.int 0, .int (nI 2), .int (nI 3), .ref (q + 1), .ref (q + 2), .ref (q + 3), .int 0, .int 0, .ref (q + 4), .null, .null, .null, .int 0, .int 0, .int 0, .null, .null, .null, .null, .int 0, .int 0, .int 0, .int 0, .null, .int 0, .null, .null, .null, .null, .null, .null, .null, .null, .null, .int 0, .int 0, .null, .null, .null, .null, .int 0, .int 0]))) 44 [some (.ref q)] []
  refine v_aload_n C (oX9_init.at 24 rfl) rfl ?_
  refine v_iconst C (oX9_init.at 25 rfl) (v := nI 4) rfl ?_
  refine v_mkI C (oX9_init.at 26 rfl) (oX9_init.at 27 rfl) fX9_29 q9_9 rfl (fun _ _ _ h => by cases h; rfl) hw4 (Nat.lt_add_of_pos_right (by decide)) (by decide) ⟨by decide, by decide⟩ rfl (fun w5 x5 => ?_)
  have hw5 : w5.2 = q + 6 := x5.1.trans (congrArg (· + 1) hw4)
  change V X (5, 66) w5 (hu _ q (.inr (9, [.int 0, .int (nI 2), .int (nI 3), .ref (q + 1), .ref (q + 2), .ref (q + 3), .int 0, .int 0, .ref (q + 4), .ref (q + 5), .null, .null, .int 0, .int 0, .int 0, .null, .null, .null, .null, .int 0, .int 0, .int 0, .int 0, .null, .int 0, .null, .null, .null, .null, .null, .null, .null, .null, .null, .int 0, .int 0, .null, .null, .null, .null, .int 0, .int 0]))) 51 [some (.ref q)] []
  refine v_aload_n C (oX9_init.at 28 rfl) rfl ?_
  refine v_iconst C (oX9_init.at 29 rfl) (v := nI 4) rfl ?_
  refine v_mkI C (oX9_init.at 30 rfl) (oX9_init.at 31 rfl) fX9_32 q9_10 rfl (fun _ _ _ h => by cases h; rfl) hw5 (Nat.lt_add_of_pos_right (by decide)) (by decide) ⟨by decide, by decide⟩ rfl (fun w6 x6 => ?_)
  have hw6 : w6.2 = q + 7 := x6.1.trans (congrArg (· + 1) hw5)
  change V X (6, 70) w6 (hu _ q (.inr (9, [.int 0, .int (nI 2), .int (nI 3), .ref (q + 1), .ref (q + 2), .ref (q + 3), .int 0, .int 0, .ref (q + 4), .ref (q + 5), .ref (q + 6), .null, .int 0, .int 0, .int 0, .null, .null, .null, .null, .int 0, .int 0, .int 0, .int 0, .null, .int 0, .null, .null, .null, .null, .null, .null, .null, .null, .null, .int 0, .int 0, .null, .null, .null, .null, .int 0, .int 0]))) 58 [some (.ref q)] []
  refine v_aload_n C (oX9_init.at 32 rfl) rfl ?_
  refine v_bipush C (oX9_init.at 33 rfl) (v := nI 40) rfl ?_
  refine v_mkI C (oX9_init.at 34 rfl) (oX9_init.at 35 rfl) fX9_35 q9_11 rfl (fun _ _ _ h => by cases h; rfl) hw6 (Nat.lt_add_of_pos_right (by decide)) (by decide) ⟨by decide, by decide⟩ rfl (fun w7 x7 => ?_)
  have hw7 : w7.2 = q + 8 := x7.1.trans (congrArg (· + 1) hw6)
  change V X (7, 110) w7 (hu _ q (.inr (9, [.int 0, .int (nI 2), .int (nI 3), .ref (q + 1), .ref (q + 2), .ref (q + 3), .int 0, .int 0, .ref (q + 4), .ref (q + 5), .ref (q + 6), .ref (q + 7), .int 0, .int 0, .int 0, .null, .null, .null, .null, .int 0, .int 0, .int 0, .int 0, .null, .int 0, .null, .null, .null, .null, .null, .null, .null, .null, .null, .int 0, .int 0, .null, .null, .null, .null, .int 0, .int 0]))) 66 [some (.ref q)] []
  refine v_aload_n C (oX9_init.at 36 rfl) rfl ?_
  refine v_iconst C (oX9_init.at 37 rfl) (v := -1) rfl ?_
  refine v_putI C (oX9_init.at 38 rfl) fX9_38 p9_14 (hu_s _ _ _) rfl ?_
  rw [hu_hu]
  change V X (7, 110) w7 (hu _ q (.inr (9, [.int 0, .int (nI 2), .int (nI 3), .ref (q + 1), .ref (q + 2), .ref (q + 3), .int 0, .int 0, .ref (q + 4), .ref (q + 5), .ref (q + 6), .ref (q + 7), .int 0, .int 0, .int (-1), .null, .null, .null, .null, .int 0, .int 0, .int 0, .int 0, .null, .int 0, .null, .null, .null, .null, .null, .null, .null, .null, .null, .int 0, .int 0, .null, .null, .null, .null, .int 0, .int 0]))) 71 [some (.ref q)] []
  refine v_aload_n C (oX9_init.at 39 rfl) rfl ?_
  refine v_bipush C (oX9_init.at 40 rfl) (v := nI 27) rfl ?_
  refine v_mkI C (oX9_init.at 41 rfl) (oX9_init.at 42 rfl) fX9_41 q9_15 rfl (fun _ _ _ h => by cases h; rfl) hw7 (Nat.lt_add_of_pos_right (by decide)) (by decide) ⟨by decide, by decide⟩ rfl (fun w8 x8 => ?_)
  have hw8 : w8.2 = q + 9 := x8.1.trans (congrArg (· + 1) hw7)
  change V X (8, 137) w8 (hu _ q (.inr (9, [.int 0, .int (nI 2), .int (nI 3), .ref (q + 1), .ref (q + 2), .ref (q + 3), .int 0, .int 0, .ref (q + 4), .ref (q + 5), .ref (q + 6), .ref (q + 7), .int 0, .int 0, .int (-1), .ref (q + 8), .null, .null, .null, .int 0, .int 0, .int 0, .int 0, .null, .int 0, .null, .null, .null, .null, .null, .null, .null, .null, .null, .int 0, .int 0, .null, .null, .null, .null, .int 0, .int 0]))) 79 [some (.ref q)] []
  refine v_aload_n C (oX9_init.at 43 rfl) rfl ?_
  refine v_bipush C (oX9_init.at 44 rfl) (v := nI 27) rfl ?_
  refine v_mkI C (oX9_init.at 45 rfl) (oX9_init.at 46 rfl) fX9_44 q9_16 rfl (fun _ _ _ h => by cases h; rfl) hw8 (Nat.lt_add_of_pos_right (by decide)) (by decide) ⟨by decide, by decide⟩ rfl (fun w9 x9 => ?_)
  have hw9 : w9.2 = q + 10 := x9.1.trans (congrArg (· + 1) hw8)
  change V X (9, 164) w9 (hu _ q (.inr (9, [.int 0, .int (nI 2), .int (nI 3), .ref (q + 1), .ref (q + 2), .ref (q + 3), .int 0, .int 0, .ref (q + 4), .ref (q + 5), .ref (q + 6), .ref (q + 7), .int 0, .int 0, .int (-1), .ref (q + 8), .ref (q + 9), .null, .null, .int 0, .int 0, .int 0, .int 0, .null, .int 0, .null, .null, .null, .null, .null, .null, .null, .null, .null, .int 0, .int 0, .null, .null, .null, .null, .int 0, .int 0]))) 87 [some (.ref q)] []
  refine v_aload_n C (oX9_init.at 47 rfl) rfl ?_
  refine v_bipush C (oX9_init.at 48 rfl) (v := nI 40) rfl ?_
  refine v_mkI C (oX9_init.at 49 rfl) (oX9_init.at 50 rfl) fX9_47 q9_17 rfl (fun _ _ _ h => by cases h; rfl) hw9 (Nat.lt_add_of_pos_right (by decide)) (by decide) ⟨by decide, by decide⟩ rfl (fun w10 x10 => ?_)
  have hw10 : w10.2 = q + 11 := x10.1.trans (congrArg (· + 1) hw9)
  change V X (10, 204) w10 (hu _ q (.inr (9, [.int 0, .int (nI 2), .int (nI 3), .ref (q + 1), .ref (q + 2), .ref (q + 3), .int 0, .int 0, .ref (q + 4), .ref (q + 5), .ref (q + 6), .ref (q + 7), .int 0, .int 0, .int (-1), .ref (q + 8), .ref (q + 9), .ref (q + 10), .null, .int 0, .int 0, .int 0, .int 0, .null, .int 0, .null, .null, .null, .null, .null, .null, .null, .null, .null, .int 0, .int 0, .null, .null, .null, .null, .int 0, .int 0]))) 95 [some (.ref q)] []
  refine v_aload_n C (oX9_init.at 51 rfl) rfl ?_
  refine v_bipush C (oX9_init.at 52 rfl) (v := nI 41) rfl ?_
  refine v_mkI C (oX9_init.at 53 rfl) (oX9_init.at 54 rfl) fX9_50 q9_18 rfl (fun _ _ _ h => by cases h; rfl) hw10 (Nat.lt_add_of_pos_right (by decide)) (by decide) ⟨by decide, by decide⟩ rfl (fun w11 x11 => ?_)
  have hw11 : w11.2 = q + 12 := x11.1.trans (congrArg (· + 1) hw10)
  change V X (11, 245) w11 (hu _ q (.inr (9, [.int 0, .int (nI 2), .int (nI 3), .ref (q + 1), .ref (q + 2), .ref (q + 3), .int 0, .int 0, .ref (q + 4), .ref (q + 5), .ref (q + 6), .ref (q + 7), .int 0, .int 0, .int (-1), .ref (q + 8), .ref (q + 9), .ref (q + 10), .ref (q + 11), .int 0, .int 0, .int 0, .int 0, .null, .int 0, .null, .null, .null, .null, .null, .null, .null, .null, .null, .int 0, .int 0, .null, .null, .null, .null, .int 0, .int 0]))) 103 [some (.ref q)] []
  refine v_aload_n C (oX9_init.at 55 rfl) rfl ?_
  refine v_bipush C (oX9_init.at 56 rfl) (v := nI 40) rfl ?_
  refine v_mkI C (oX9_init.at 57 rfl) (oX9_init.at 58 rfl) fX9_53 q9_23 rfl (fun _ _ _ h => by cases h; rfl) hw11 (Nat.lt_add_of_pos_right (by decide)) (by decide) ⟨by decide, by decide⟩ rfl (fun w12 x12 => ?_)
  have hw12 : w12.2 = q + 13 := x12.1.trans (congrArg (· + 1) hw11)
  change V X (12, 285) w12 (hu _ q (.inr (9, [.int 0, .int (nI 2), .int (nI 3), .ref (q + 1), .ref (q + 2), .ref (q + 3), .int 0, .int 0, .ref (q + 4), .ref (q + 5), .ref (q + 6), .ref (q + 7), .int 0, .int 0, .int (-1), .ref (q + 8), .ref (q + 9), .ref (q + 10), .ref (q + 11), .int 0, .int 0, .int 0, .int 0, .ref (q + 12), .int 0, .null, .null, .null, .null, .null, .null, .null, .null, .null, .int 0, .int 0, .null, .null, .null, .null, .int 0, .int 0]))) 111 [some (.ref q)] []
  refine v_aload_n C (oX9_init.at 59 rfl) rfl ?_
  refine v_sipush C (oX9_init.at 60 rfl) (v := nI 6561) rfl ?_
  refine v_mkI C (oX9_init.at 61 rfl) (oX9_init.at 62 rfl) fX9_56 q9_25 rfl (fun _ _ _ h => by cases h; rfl) hw12 (Nat.lt_add_of_pos_right (by decide)) (by decide) ⟨by decide, by decide⟩ rfl (fun w13 x13 => ?_)
  have hw13 : w13.2 = q + 14 := x13.1.trans (congrArg (· + 1) hw12)
  change V X (13, 6846) w13 (hu _ q (.inr (9, [.int 0, .int (nI 2), .int (nI 3), .ref (q + 1), .ref (q + 2), .ref (q + 3), .int 0, .int 0, .ref (q + 4), .ref (q + 5), .ref (q + 6), .ref (q + 7), .int 0, .int 0, .int (-1), .ref (q + 8), .ref (q + 9), .ref (q + 10), .ref (q + 11), .int 0, .int 0, .int 0, .int 0, .ref (q + 12), .int 0, .ref (q + 13), .null, .null, .null, .null, .null, .null, .null, .null, .int 0, .int 0, .null, .null, .null, .null, .int 0, .int 0]))) 120 [some (.ref q)] []
  refine v_aload_n C (oX9_init.at 63 rfl) rfl ?_
  refine v_sipush C (oX9_init.at 64 rfl) (v := nI 144) rfl ?_
  refine v_mkI C (oX9_init.at 65 rfl) (oX9_init.at 66 rfl) fX9_59 q9_26 rfl (fun _ _ _ h => by cases h; rfl) hw13 (Nat.lt_add_of_pos_right (by decide)) (by decide) ⟨by decide, by decide⟩ rfl (fun w14 x14 => ?_)
  have hw14 : w14.2 = q + 15 := x14.1.trans (congrArg (· + 1) hw13)
  change V X (14, 6990) w14 (hu _ q (.inr (9, [.int 0, .int (nI 2), .int (nI 3), .ref (q + 1), .ref (q + 2), .ref (q + 3), .int 0, .int 0, .ref (q + 4), .ref (q + 5), .ref (q + 6), .ref (q + 7), .int 0, .int 0, .int (-1), .ref (q + 8), .ref (q + 9), .ref (q + 10), .ref (q + 11), .int 0, .int 0, .int 0, .int 0, .ref (q + 12), .int 0, .ref (q + 13), .ref (q + 14), .null, .null, .null, .null, .null, .null, .null, .int 0, .int 0, .null, .null, .null, .null, .int 0, .int 0]))) 129 [some (.ref q)] []
  refine v_aload_n C (oX9_init.at 67 rfl) rfl ?_
  refine v_bipush C (oX9_init.at 68 rfl) (v := nI 9) rfl ?_
  refine v_mkI C (oX9_init.at 69 rfl) (oX9_init.at 70 rfl) fX9_62 q9_27 rfl (fun _ _ _ h => by cases h; rfl) hw14 (Nat.lt_add_of_pos_right (by decide)) (by decide) ⟨by decide, by decide⟩ rfl (fun w15 x15 => ?_)
  have hw15 : w15.2 = q + 16 := x15.1.trans (congrArg (· + 1) hw14)
  change V X (15, 6999) w15 (hu _ q (.inr (9, [.int 0, .int (nI 2), .int (nI 3), .ref (q + 1), .ref (q + 2), .ref (q + 3), .int 0, .int 0, .ref (q + 4), .ref (q + 5), .ref (q + 6), .ref (q + 7), .int 0, .int 0, .int (-1), .ref (q + 8), .ref (q + 9), .ref (q + 10), .ref (q + 11), .int 0, .int 0, .int 0, .int 0, .ref (q + 12), .int 0, .ref (q + 13), .ref (q + 14), .ref (q + 15), .null, .null, .null, .null, .null, .null, .int 0, .int 0, .null, .null, .null, .null, .int 0, .int 0]))) 137 [some (.ref q)] []
  refine v_aload_n C (oX9_init.at 71 rfl) rfl ?_
  refine v_bipush C (oX9_init.at 72 rfl) (v := nI 9) rfl ?_
  refine v_mkI C (oX9_init.at 73 rfl) (oX9_init.at 74 rfl) fX9_65 q9_28 rfl (fun _ _ _ h => by cases h; rfl) hw15 (Nat.lt_add_of_pos_right (by decide)) (by decide) ⟨by decide, by decide⟩ rfl (fun w16 x16 => ?_)
  have hw16 : w16.2 = q + 17 := x16.1.trans (congrArg (· + 1) hw15)
  change V X (16, 7008) w16 (hu _ q (.inr (9, [.int 0, .int (nI 2), .int (nI 3), .ref (q + 1), .ref (q + 2), .ref (q + 3), .int 0, .int 0, .ref (q + 4), .ref (q + 5), .ref (q + 6), .ref (q + 7), .int 0, .int 0, .int (-1), .ref (q + 8), .ref (q + 9), .ref (q + 10), .ref (q + 11), .int 0, .int 0, .int 0, .int 0, .ref (q + 12), .int 0, .ref (q + 13), .ref (q + 14), .ref (q + 15), .ref (q + 16), .null, .null, .null, .null, .null, .int 0, .int 0, .null, .null, .null, .null, .int 0, .int 0]))) 145 [some (.ref q)] []
  refine v_aload_n C (oX9_init.at 75 rfl) rfl ?_
  refine v_sipush C (oX9_init.at 76 rfl) (v := nI 512) rfl ?_
  refine v_mkI C (oX9_init.at 77 rfl) (oX9_init.at 78 rfl) fX9_68 q9_29 rfl (fun _ _ _ h => by cases h; rfl) hw16 (Nat.lt_add_of_pos_right (by decide)) (by decide) ⟨by decide, by decide⟩ rfl (fun w17 x17 => ?_)
  have hw17 : w17.2 = q + 18 := x17.1.trans (congrArg (· + 1) hw16)
  change V X (17, 7520) w17 (hu _ q (.inr (9, [.int 0, .int (nI 2), .int (nI 3), .ref (q + 1), .ref (q + 2), .ref (q + 3), .int 0, .int 0, .ref (q + 4), .ref (q + 5), .ref (q + 6), .ref (q + 7), .int 0, .int 0, .int (-1), .ref (q + 8), .ref (q + 9), .ref (q + 10), .ref (q + 11), .int 0, .int 0, .int 0, .int 0, .ref (q + 12), .int 0, .ref (q + 13), .ref (q + 14), .ref (q + 15), .ref (q + 16), .ref (q + 17), .null, .null, .null, .null, .int 0, .int 0, .null, .null, .null, .null, .int 0, .int 0]))) 154 [some (.ref q)] []
  refine v_aload_n C (oX9_init.at 79 rfl) rfl ?_
  refine v_sipush C (oX9_init.at 80 rfl) (v := nI 512) rfl ?_
  refine v_mkI C (oX9_init.at 81 rfl) (oX9_init.at 82 rfl) fX9_71 q9_30 rfl (fun _ _ _ h => by cases h; rfl) hw17 (Nat.lt_add_of_pos_right (by decide)) (by decide) ⟨by decide, by decide⟩ rfl (fun w18 x18 => ?_)
  have hw18 : w18.2 = q + 19 := x18.1.trans (congrArg (· + 1) hw17)
  change V X (18, 8032) w18 (hu _ q (.inr (9, [.int 0, .int (nI 2), .int (nI 3), .ref (q + 1), .ref (q + 2), .ref (q + 3), .int 0, .int 0, .ref (q + 4), .ref (q + 5), .ref (q + 6), .ref (q + 7), .int 0, .int 0, .int (-1), .ref (q + 8), .ref (q + 9), .ref (q + 10), .ref (q + 11), .int 0, .int 0, .int 0, .int 0, .ref (q + 12), .int 0, .ref (q + 13), .ref (q + 14), .ref (q + 15), .ref (q + 16), .ref (q + 17), .ref (q + 18), .null, .null, .null, .int 0, .int 0, .null, .null, .null, .null, .int 0, .int 0]))) 163 [some (.ref q)] []
  refine v_aload_n C (oX9_init.at 83 rfl) rfl ?_
  refine v_sipush C (oX9_init.at 84 rfl) (v := nI 512) rfl ?_
  refine v_mkI C (oX9_init.at 85 rfl) (oX9_init.at 86 rfl) fX9_74 q9_31 rfl (fun _ _ _ h => by cases h; rfl) hw18 (Nat.lt_add_of_pos_right (by decide)) (by decide) ⟨by decide, by decide⟩ rfl (fun w19 x19 => ?_)
  have hw19 : w19.2 = q + 20 := x19.1.trans (congrArg (· + 1) hw18)
  change V X (19, 8544) w19 (hu _ q (.inr (9, [.int 0, .int (nI 2), .int (nI 3), .ref (q + 1), .ref (q + 2), .ref (q + 3), .int 0, .int 0, .ref (q + 4), .ref (q + 5), .ref (q + 6), .ref (q + 7), .int 0, .int 0, .int (-1), .ref (q + 8), .ref (q + 9), .ref (q + 10), .ref (q + 11), .int 0, .int 0, .int 0, .int 0, .ref (q + 12), .int 0, .ref (q + 13), .ref (q + 14), .ref (q + 15), .ref (q + 16), .ref (q + 17), .ref (q + 18), .ref (q + 19), .null, .null, .int 0, .int 0, .null, .null, .null, .null, .int 0, .int 0]))) 172 [some (.ref q)] []
  refine v_aload_n C (oX9_init.at 87 rfl) rfl ?_
  refine v_sipush C (oX9_init.at 88 rfl) (v := nI 512) rfl ?_
  refine v_mkI C (oX9_init.at 89 rfl) (oX9_init.at 90 rfl) fX9_77 q9_32 rfl (fun _ _ _ h => by cases h; rfl) hw19 (Nat.lt_add_of_pos_right (by decide)) (by decide) ⟨by decide, by decide⟩ rfl (fun w20 x20 => ?_)
  have hw20 : w20.2 = q + 21 := x20.1.trans (congrArg (· + 1) hw19)
  change V X (20, 9056) w20 (hu _ q (.inr (9, [.int 0, .int (nI 2), .int (nI 3), .ref (q + 1), .ref (q + 2), .ref (q + 3), .int 0, .int 0, .ref (q + 4), .ref (q + 5), .ref (q + 6), .ref (q + 7), .int 0, .int 0, .int (-1), .ref (q + 8), .ref (q + 9), .ref (q + 10), .ref (q + 11), .int 0, .int 0, .int 0, .int 0, .ref (q + 12), .int 0, .ref (q + 13), .ref (q + 14), .ref (q + 15), .ref (q + 16), .ref (q + 17), .ref (q + 18), .ref (q + 19), .ref (q + 20), .null, .int 0, .int 0, .null, .null, .null, .null, .int 0, .int 0]))) 181 [some (.ref q)] []
  refine v_aload_n C (oX9_init.at 91 rfl) rfl ?_
  refine v_sipush C (oX9_init.at 92 rfl) (v := nI 512) rfl ?_
  refine v_mkZ C (oX9_init.at 93 rfl) (oX9_init.at 94 rfl) fX9_80 q9_33 rfl (fun _ _ _ h => by cases h; rfl) hw20 (Nat.lt_add_of_pos_right (by decide)) (by decide) ⟨by decide, by decide⟩ rfl (fun w21 x21 => ?_)
  have hw21 : w21.2 = q + 22 := x21.1.trans (congrArg (· + 1) hw20)
  change V X (21, 9568) w21 (hu _ q (.inr (9, [.int 0, .int (nI 2), .int (nI 3), .ref (q + 1), .ref (q + 2), .ref (q + 3), .int 0, .int 0, .ref (q + 4), .ref (q + 5), .ref (q + 6), .ref (q + 7), .int 0, .int 0, .int (-1), .ref (q + 8), .ref (q + 9), .ref (q + 10), .ref (q + 11), .int 0, .int 0, .int 0, .int 0, .ref (q + 12), .int 0, .ref (q + 13), .ref (q + 14), .ref (q + 15), .ref (q + 16), .ref (q + 17), .ref (q + 18), .ref (q + 19), .ref (q + 20), .ref (q + 21), .int 0, .int 0, .null, .null, .null, .null, .int 0, .int 0]))) 190 [some (.ref q)] []
  refine v_aload_n C (oX9_init.at 95 rfl) rfl ?_
  refine v_sipush C (oX9_init.at 96 rfl) (v := nI 512) rfl ?_
  refine v_mkI C (oX9_init.at 97 rfl) (oX9_init.at 98 rfl) fX9_84 q9_36 rfl (fun _ _ _ h => by cases h; rfl) hw21 (Nat.lt_add_of_pos_right (by decide)) (by decide) ⟨by decide, by decide⟩ rfl (fun w22 x22 => ?_)
  have hw22 : w22.2 = q + 23 := x22.1.trans (congrArg (· + 1) hw21)
  change V X (22, 10080) w22 (hu _ q (.inr (9, [.int 0, .int (nI 2), .int (nI 3), .ref (q + 1), .ref (q + 2), .ref (q + 3), .int 0, .int 0, .ref (q + 4), .ref (q + 5), .ref (q + 6), .ref (q + 7), .int 0, .int 0, .int (-1), .ref (q + 8), .ref (q + 9), .ref (q + 10), .ref (q + 11), .int 0, .int 0, .int 0, .int 0, .ref (q + 12), .int 0, .ref (q + 13), .ref (q + 14), .ref (q + 15), .ref (q + 16), .ref (q + 17), .ref (q + 18), .ref (q + 19), .ref (q + 20), .ref (q + 21), .int 0, .int 0, .ref (q + 22), .null, .null, .null, .int 0, .int 0]))) 199 [some (.ref q)] []
  refine v_aload_n C (oX9_init.at 99 rfl) rfl ?_
  refine v_sipush C (oX9_init.at 100 rfl) (v := nI 512) rfl ?_
  refine v_mkI C (oX9_init.at 101 rfl) (oX9_init.at 102 rfl) fX9_87 q9_37 rfl (fun _ _ _ h => by cases h; rfl) hw22 (Nat.lt_add_of_pos_right (by decide)) (by decide) ⟨by decide, by decide⟩ rfl (fun w23 x23 => ?_)
  have hw23 : w23.2 = q + 24 := x23.1.trans (congrArg (· + 1) hw22)
  change V X (23, 10592) w23 (hu _ q (.inr (9, [.int 0, .int (nI 2), .int (nI 3), .ref (q + 1), .ref (q + 2), .ref (q + 3), .int 0, .int 0, .ref (q + 4), .ref (q + 5), .ref (q + 6), .ref (q + 7), .int 0, .int 0, .int (-1), .ref (q + 8), .ref (q + 9), .ref (q + 10), .ref (q + 11), .int 0, .int 0, .int 0, .int 0, .ref (q + 12), .int 0, .ref (q + 13), .ref (q + 14), .ref (q + 15), .ref (q + 16), .ref (q + 17), .ref (q + 18), .ref (q + 19), .ref (q + 20), .ref (q + 21), .int 0, .int 0, .ref (q + 22), .ref (q + 23), .null, .null, .int 0, .int 0]))) 208 [some (.ref q)] []
  refine v_aload_n C (oX9_init.at 103 rfl) rfl ?_
  refine v_sipush C (oX9_init.at 104 rfl) (v := nI 6561) rfl ?_
  refine v_mkZ C (oX9_init.at 105 rfl) (oX9_init.at 106 rfl) fX9_90 q9_38 rfl (fun _ _ _ h => by cases h; rfl) hw23 (Nat.lt_add_of_pos_right (by decide)) (by decide) ⟨by decide, by decide⟩ rfl (fun w24 x24 => ?_)
  have hw24 : w24.2 = q + 25 := x24.1.trans (congrArg (· + 1) hw23)
  change V X (24, 17153) w24 (hu _ q (.inr (9, [.int 0, .int (nI 2), .int (nI 3), .ref (q + 1), .ref (q + 2), .ref (q + 3), .int 0, .int 0, .ref (q + 4), .ref (q + 5), .ref (q + 6), .ref (q + 7), .int 0, .int 0, .int (-1), .ref (q + 8), .ref (q + 9), .ref (q + 10), .ref (q + 11), .int 0, .int 0, .int 0, .int 0, .ref (q + 12), .int 0, .ref (q + 13), .ref (q + 14), .ref (q + 15), .ref (q + 16), .ref (q + 17), .ref (q + 18), .ref (q + 19), .ref (q + 20), .ref (q + 21), .int 0, .int 0, .ref (q + 22), .ref (q + 23), .ref (q + 24), .null, .int 0, .int 0]))) 217 [some (.ref q)] []
  refine v_aload_n C (oX9_init.at 107 rfl) rfl ?_
  refine v_sipush C (oX9_init.at 108 rfl) (v := nI 243) rfl ?_
  refine v_mkI C (oX9_init.at 109 rfl) (oX9_init.at 110 rfl) fX9_93 q9_39 rfl (fun _ _ _ h => by cases h; rfl) hw24 (Nat.lt_add_of_pos_right (by decide)) (by decide) ⟨by decide, by decide⟩ rfl (fun w25 x25 => ?_)
  have hw25 : w25.2 = q + 26 := x25.1.trans (congrArg (· + 1) hw24)
  change V X (25, 17396) w25 (hu _ q (.inr (9, [.int 0, .int (nI 2), .int (nI 3), .ref (q + 1), .ref (q + 2), .ref (q + 3), .int 0, .int 0, .ref (q + 4), .ref (q + 5), .ref (q + 6), .ref (q + 7), .int 0, .int 0, .int (-1), .ref (q + 8), .ref (q + 9), .ref (q + 10), .ref (q + 11), .int 0, .int 0, .int 0, .int 0, .ref (q + 12), .int 0, .ref (q + 13), .ref (q + 14), .ref (q + 15), .ref (q + 16), .ref (q + 17), .ref (q + 18), .ref (q + 19), .ref (q + 20), .ref (q + 21), .int 0, .int 0, .ref (q + 22), .ref (q + 23), .ref (q + 24), .ref (q + 25), .int 0, .int 0]))) 226 [some (.ref q)] []
  exact v_vret C (oX9_init.at 111 rfl) rfl rfl ⟨by decide, by decide⟩ ⟨((((((((((((((((((((((((x1.tr x2).tr x3).tr x4).tr x5).tr x6).tr x7).tr x8).tr x9).tr x10).tr x11).tr x12).tr x13).tr x14).tr x15).tr x16).tr x17).tr x18).tr x19).tr x20).tr x21).tr x22).tr x23).tr x24).tr x25), rfl⟩
