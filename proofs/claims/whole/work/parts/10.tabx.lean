/-! ===== code tables: class and JDK ===== -/
def mJ7_fill_53178 : Mi := (yJ7_fill_53178, cJ7_fill_53178, 4, none, 2)
def tJ7_fill_53178 : Ct := [(0, .iconst 0, 1), (1, .istore_n 2, 1), (2, .aload_n 0, 1), (3, .arraylength, 1), (4, .istore_n 3, 1), (5, .iload_n 2, 1), (6, .iload_n 3, 1), (7, .if_icmp .ge 13, 3), (10, .aload_n 0, 1), (11, .iload_n 2, 1), (12, .iload_n 1, 1), (13, .iastore, 1), (14, .iinc 2 1, 3), (17, .goto (-12), 3), (20, .return_, 1)]
set_option maxRecDepth 20000 in
theorem oJ7_fill_53178 : CtOk mJ7_fill_53178.2.1 tJ7_fill_53178 := by unfold CtOk; decide +kernel
set_option maxRecDepth 20000 in
theorem kJ7_fill_53178 : MK mJ7_fill_53178 := ⟨tj2 144 (by rfl) rfl, tj1 15 (by rfl) rfl, by decide +kernel, by decide +kernel, by decide +kernel⟩
theorem sJ7_fill_53178 : Cond.static mJ7_fill_53178.1 ∈ TSg := tj2 143 (by rfl) rfl
def mJ7_fill_fda19 : Mi := (yJ7_fill_fda19, cJ7_fill_fda19, 5, none, 4)
def tJ7_fill_fda19 : Ct := [(0, .aload_n 0, 1), (1, .arraylength, 1), (2, .iload_n 1, 1), (3, .iload_n 2, 1), (4, .invokestatic 13, 3), (7, .iload_n 1, 1), (8, .istore 4, 2), (10, .iload 4, 2), (12, .iload_n 2, 1), (13, .if_icmp .ge 14, 3), (16, .aload_n 0, 1), (17, .iload 4, 2), (19, .iload_n 3, 1), (20, .iastore, 1), (21, .iinc 4 1, 3), (24, .goto (-14), 3), (27, .return_, 1)]
set_option maxRecDepth 20000 in
theorem oJ7_fill_fda19 : CtOk mJ7_fill_fda19.2.1 tJ7_fill_fda19 := by unfold CtOk; decide +kernel
set_option maxRecDepth 20000 in
theorem kJ7_fill_fda19 : MK mJ7_fill_fda19 := ⟨tj4 101 (by rfl) rfl, tj1 15 (by rfl) rfl, by decide +kernel, by decide +kernel, by decide +kernel⟩
theorem sJ7_fill_fda19 : Cond.static mJ7_fill_fda19.1 ∈ TSg := tj4 100 (by rfl) rfl
def mJ7_rangeCheck_23922 : Mi := (yJ7_rangeCheck_23922, cJ7_rangeCheck_23922, 3, none, 3)
def tJ7_rangeCheck_23922 : Ct := [(0, .iload_n 1, 1), (1, .iload_n 2, 1), (2, .if_icmp .le 44, 3), (5, .new 43, 3), (8, .dup, 1), (9, .new 45, 3), (12, .dup, 1), (13, .invokespecial 47, 3), (16, .ldc 48, 2), (18, .invokevirtual 50, 3), (21, .iload_n 1, 1), (22, .invokevirtual 54, 3), (25, .ldc 57, 2), (27, .invokevirtual 50, 3), (30, .iload_n 2, 1), (31, .invokevirtual 54, 3), (34, .ldc 59, 2), (36, .invokevirtual 50, 3), (39, .invokevirtual 61, 3), (42, .invokespecial 65, 3), (45, .athrow, 1), (46, .iload_n 1, 1), (47, .ifCond .ge 12, 3), (50, .new 68, 3), (53, .dup, 1), (54, .iload_n 1, 1), (55, .invokespecial 70, 3), (58, .athrow, 1), (59, .iload_n 2, 1), (60, .iload_n 0, 1), (61, .if_icmp .le 12, 3), (64, .new 68, 3), (67, .dup, 1), (68, .iload_n 2, 1), (69, .invokespecial 70, 3), (72, .athrow, 1), (73, .return_, 1)]
set_option maxRecDepth 20000 in
theorem oJ7_rangeCheck_23922 : CtOk mJ7_rangeCheck_23922.2.1 tJ7_rangeCheck_23922 := by unfold CtOk; decide +kernel
set_option maxRecDepth 20000 in
theorem kJ7_rangeCheck_23922 : MK mJ7_rangeCheck_23922 := ⟨tj4 104 (by rfl) rfl, tj1 15 (by rfl) rfl, by decide +kernel, by decide +kernel, by decide +kernel⟩
theorem sJ7_rangeCheck_23922 : Cond.static mJ7_rangeCheck_23922.1 ∈ TSg := tj4 103 (by rfl) rfl
def mJ9_max_7cf53 : Mi := (yJ9_max_7cf53, cJ9_max_7cf53, 2, some .int, 2)
def tJ9_max_7cf53 : Ct := [(0, .iload_n 0, 1), (1, .iload_n 1, 1), (2, .if_icmp .lt 7, 3), (5, .iload_n 0, 1), (6, .goto 4, 3), (9, .iload_n 1, 1), (10, .ireturn, 1)]
set_option maxRecDepth 20000 in
theorem oJ9_max_7cf53 : CtOk mJ9_max_7cf53.2.1 tJ9_max_7cf53 := by unfold CtOk; decide +kernel
set_option maxRecDepth 20000 in
theorem kJ9_max_7cf53 : MK mJ9_max_7cf53 := ⟨tj2 170 (by rfl) rfl, tj1 21 (by rfl) rfl, by decide +kernel, by decide +kernel, by decide +kernel⟩
theorem sJ9_max_7cf53 : Cond.static mJ9_max_7cf53.1 ∈ TSg := tj2 169 (by rfl) rfl
def mJ9_min_7cf53 : Mi := (yJ9_min_7cf53, cJ9_min_7cf53, 2, some .int, 2)
def tJ9_min_7cf53 : Ct := [(0, .iload_n 0, 1), (1, .iload_n 1, 1), (2, .if_icmp .gt 7, 3), (5, .iload_n 0, 1), (6, .goto 4, 3), (9, .iload_n 1, 1), (10, .ireturn, 1)]
set_option maxRecDepth 20000 in
theorem oJ9_min_7cf53 : CtOk mJ9_min_7cf53.2.1 tJ9_min_7cf53 := by unfold CtOk; decide +kernel
set_option maxRecDepth 20000 in
theorem kJ9_min_7cf53 : MK mJ9_min_7cf53 := ⟨tj2 173 (by rfl) rfl, tj1 21 (by rfl) rfl, by decide +kernel, by decide +kernel, by decide +kernel⟩
theorem sJ9_min_7cf53 : Cond.static mJ9_min_7cf53.1 ∈ TSg := tj2 172 (by rfl) rfl
def mJ9_min_f86c9 : Mi := (yJ9_min_f86c9, cJ9_min_f86c9, 4, some .long, 2)
def tJ9_min_f86c9 : Ct := [(0, .lload_n 0, 1), (1, .lload_n 2, 1), (2, .lcmp, 1), (3, .ifCond .gt 7, 3), (6, .lload_n 0, 1), (7, .goto 4, 3), (10, .lload_n 2, 1), (11, .lreturn, 1)]
set_option maxRecDepth 20000 in
theorem oJ9_min_f86c9 : CtOk mJ9_min_f86c9.2.1 tJ9_min_f86c9 := by unfold CtOk; decide +kernel
set_option maxRecDepth 20000 in
theorem kJ9_min_f86c9 : MK mJ9_min_f86c9 := ⟨tj2 129 (by rfl) rfl, tj1 21 (by rfl) rfl, by decide +kernel, by decide +kernel, by decide +kernel⟩
theorem sJ9_min_f86c9 : Cond.static mJ9_min_f86c9.1 ∈ TSg := tj2 128 (by rfl) rfl
def mJ9_floorMod_7cf53 : Mi := (yJ9_floorMod_7cf53, cJ9_floorMod_7cf53, 3, some .int, 2)
def tJ9_floorMod_7cf53 : Ct := [(0, .iload_n 0, 1), (1, .iload_n 1, 1), (2, .irem, 1), (3, .istore_n 2, 1), (4, .iload_n 0, 1), (5, .iload_n 1, 1), (6, .ixor, 1), (7, .ifCond .ge 11, 3), (10, .iload_n 2, 1), (11, .ifCond .eq 7, 3), (14, .iload_n 2, 1), (15, .iload_n 1, 1), (16, .iadd, 1), (17, .ireturn, 1), (18, .iload_n 2, 1), (19, .ireturn, 1)]
set_option maxRecDepth 20000 in
theorem oJ9_floorMod_7cf53 : CtOk mJ9_floorMod_7cf53.2.1 tJ9_floorMod_7cf53 := by unfold CtOk; decide +kernel
set_option maxRecDepth 20000 in
theorem kJ9_floorMod_7cf53 : MK mJ9_floorMod_7cf53 := ⟨tj3 236 (by rfl) rfl, tj1 21 (by rfl) rfl, by decide +kernel, by decide +kernel, by decide +kernel⟩
theorem sJ9_floorMod_7cf53 : Cond.static mJ9_floorMod_7cf53.1 ∈ TSg := tj3 235 (by rfl) rfl
def mJ6_numberOfTrailingZeros_0f7a4 : Mi := (yJ6_numberOfTrailingZeros_0f7a4, cJ6_numberOfTrailingZeros_0f7a4, 2, some .int, 1)
def tJ6_numberOfTrailingZeros_0f7a4 : Ct := [(0, .iload_n 0, 1), (1, .iconst (-1), 1), (2, .ixor, 1), (3, .iload_n 0, 1), (4, .iconst 1, 1), (5, .isub, 1), (6, .iand, 1), (7, .istore_n 0, 1), (8, .iload_n 0, 1), (9, .ifCond .gt 8, 3), (12, .iload_n 0, 1), (13, .bipush 32, 2), (15, .iand, 1), (16, .ireturn, 1), (17, .iconst 1, 1), (18, .istore_n 1, 1), (19, .iload_n 0, 1), (20, .ldc_w 264, 3), (23, .if_icmp .le 11, 3), (26, .iinc 1 16, 3), (29, .iload_n 0, 1), (30, .bipush 16, 2), (32, .iushr, 1), (33, .istore_n 0, 1), (34, .iload_n 0, 1), (35, .sipush 256, 3), (38, .if_icmp .le 11, 3), (41, .iinc 1 8, 3), (44, .iload_n 0, 1), (45, .bipush 8, 2), (47, .iushr, 1), (48, .istore_n 0, 1), (49, .iload_n 0, 1), (50, .bipush 16, 2), (52, .if_icmp .le 10, 3), (55, .iinc 1 4, 3), (58, .iload_n 0, 1), (59, .iconst 4, 1), (60, .iushr, 1), (61, .istore_n 0, 1), (62, .iload_n 0, 1), (63, .iconst 4, 1), (64, .if_icmp .le 10, 3), (67, .iinc 1 2, 3), (70, .iload_n 0, 1), (71, .iconst 2, 1), (72, .iushr, 1), (73, .istore_n 0, 1), (74, .iload_n 1, 1), (75, .iload_n 0, 1), (76, .iconst 1, 1), (77, .iushr, 1), (78, .iadd, 1), (79, .ireturn, 1)]
set_option maxRecDepth 20000 in
theorem oJ6_numberOfTrailingZeros_0f7a4 : CtOk mJ6_numberOfTrailingZeros_0f7a4.2.1 tJ6_numberOfTrailingZeros_0f7a4 := by unfold CtOk; decide +kernel
set_option maxRecDepth 20000 in
theorem kJ6_numberOfTrailingZeros_0f7a4 : MK mJ6_numberOfTrailingZeros_0f7a4 := ⟨tj6 119 (by rfl) rfl, tj1 30 (by rfl) rfl, by decide +kernel, by decide +kernel, by decide +kernel⟩
theorem sJ6_numberOfTrailingZeros_0f7a4 : Cond.static mJ6_numberOfTrailingZeros_0f7a4.1 ∈ TSg := tj6 118 (by rfl) rfl
def mX0_add : Mi := (yX0_add, cX0_add, 2, none, 1)
def tX0_add : Ct := [(0, .aload_n 0, 1), (1, .getfield 19, 3), (4, .aload_n 0, 1), (5, .getfield 7, 3), (8, .iload_n 1, 1), (9, .iastore, 1), (10, .aload_n 0, 1), (11, .dup, 1), (12, .getfield 7, 3), (15, .iconst 1, 1), (16, .iadd, 1), (17, .putfield 7, 3), (20, .return_, 1)]
set_option maxRecDepth 20000 in
theorem oX0_add : CtOk mX0_add.2.1 tX0_add := by unfold CtOk; decide +kernel
set_option maxRecDepth 20000 in
theorem kX0_add : MK mX0_add := ⟨tj3 154 (by rfl) rfl, tj1 4 (by rfl) rfl, by decide +kernel, by decide +kernel, by decide +kernel⟩
theorem vX0_add : MKv mX0_add 0 := ⟨tj3 152 (by rfl) rfl, tj3 153 (by rfl) rfl, _, _, rfl⟩
def mX0_read : Mi := (yX0_read, cX0_read, 4, none, 1)
def tX0_read : Ct := [(0, .aload_n 0, 1), (1, .iconst 0, 1), (2, .putfield 13, 3), (5, .aload_n 0, 1), (6, .iconst (-1), 1), (7, .putfield 16, 3), (10, .aload_n 0, 1), (11, .iconst 0, 1), (12, .putfield 37, 3), (15, .aload_n 0, 1), (16, .iconst 0, 1), (17, .putfield 40, 3), (20, .iconst 0, 1), (21, .istore_n 2, 1), (22, .iconst 0, 1), (23, .istore_n 3, 1), (24, .iload_n 3, 1), (25, .aload_n 0, 1), (26, .getfield 7, 3), (29, .if_icmp .ge 35, 3), (32, .aload_n 0, 1), (33, .iload_n 2, 1), (34, .aload_n 0, 1), (35, .getfield 19, 3), (38, .iload_n 3, 1), (39, .iaload, 1), (40, .iload_n 1, 1), (41, .invokevirtual 43, 3), (44, .istore_n 2, 1), (45, .aload_n 0, 1), (46, .getfield 13, 3), (49, .ifCond .eq 9, 3), (52, .aload_n 0, 1), (53, .iload_n 3, 1), (54, .putfield 16, 3), (57, .return_, 1), (58, .iinc 3 1, 3), (61, .goto (-37), 3), (64, .aload_n 0, 1), (65, .iconst 1, 1), (66, .invokevirtual 47, 3), (69, .iload_n 2, 1), (70, .iconst 1, 1), (71, .if_icmp .ne 10, 3), (74, .aload_n 0, 1), (75, .getfield 40, 3), (78, .ifCond .eq 16, 3), (81, .aload_n 0, 1), (82, .iconst 2, 1), (83, .putfield 13, 3), (86, .aload_n 0, 1), (87, .aload_n 0, 1), (88, .getfield 7, 3), (91, .putfield 16, 3), (94, .return_, 1)]
set_option maxRecDepth 20000 in
theorem oX0_read : CtOk mX0_read.2.1 tX0_read := by unfold CtOk; decide +kernel
set_option maxRecDepth 20000 in
theorem kX0_read : MK mX0_read := ⟨tj3 179 (by rfl) rfl, tj1 4 (by rfl) rfl, by decide +kernel, by decide +kernel, by decide +kernel⟩
theorem vX0_read : MKv mX0_read 0 := ⟨tj3 177 (by rfl) rfl, tj3 178 (by rfl) rfl, _, _, rfl⟩
def mX0_readSign : Mi := (yX0_readSign, cX0_readSign, 4, some .int, 3)
def tX0_readSign : Ct := [(0, .iload_n 1, 1), (1, .tableswitch 115 0 4 #[35, 42, 48, 73, 94], 35), (36, .aload_n 0, 1), (37, .iload_n 2, 1), (38, .iload_n 3, 1), (39, .invokevirtual 51, 3), (42, .ireturn, 1), (43, .aload_n 0, 1), (44, .iload_n 2, 1), (45, .invokevirtual 55, 3), (48, .ireturn, 1), (49, .iload_n 2, 1), (50, .bipush 105, 2), (52, .if_icmp .ne 7, 3), (55, .iconst 3, 1), (56, .goto 17, 3), (59, .iload_n 2, 1), (60, .bipush 97, 2), (62, .if_icmp .ne 7, 3), (65, .iconst 4, 1), (66, .goto 7, 3), (69, .aload_n 0, 1), (70, .invokevirtual 59, 3), (73, .ireturn, 1), (74, .iload_n 2, 1), (75, .bipush 110, 2), (77, .if_icmp .ne 13, 3), (80, .aload_n 0, 1), (81, .bipush 78, 2), (83, .iconst 5, 1), (84, .invokevirtual 63, 3), (87, .goto 7, 3), (90, .aload_n 0, 1), (91, .invokevirtual 59, 3), (94, .ireturn, 1), (95, .iload_n 2, 1), (96, .bipush 120, 2), (98, .if_icmp .ne 13, 3), (101, .aload_n 0, 1), (102, .bipush 88, 2), (104, .iconst 5, 1), (105, .invokevirtual 63, 3), (108, .goto 7, 3), (111, .aload_n 0, 1), (112, .invokevirtual 59, 3), (115, .ireturn, 1), (116, .iload_n 2, 1), (117, .bipush 40, 2), (119, .if_icmp .ne 7, 3), (122, .iconst 0, 1), (123, .goto 7, 3), (126, .aload_n 0, 1), (127, .invokevirtual 59, 3), (130, .ireturn, 1)]
set_option maxRecDepth 20000 in
theorem oX0_readSign : CtOk mX0_readSign.2.1 tX0_readSign := by unfold CtOk; decide +kernel
set_option maxRecDepth 20000 in
theorem kX0_readSign : MK mX0_readSign := ⟨tj3 183 (by rfl) rfl, tj1 4 (by rfl) rfl, by decide +kernel, by decide +kernel, by decide +kernel⟩
theorem vX0_readSign : MKv mX0_readSign 0 := ⟨tj3 182 (by rfl) rfl, tb0 6 (by rfl) rfl, _, _, rfl⟩
def mX0_readOperand : Mi := (yX0_readOperand, cX0_readOperand, 3, some .int, 2)
def tX0_readOperand : Ct := [(0, .iload_n 1, 1), (1, .bipush 97, 2), (3, .if_icmp .lt 24, 3), (6, .iload_n 1, 1), (7, .bipush 100, 2), (9, .if_icmp .gt 18, 3), (12, .iload_n 1, 1), (13, .bipush 97, 2), (15, .isub, 1), (16, .iload_n 2, 1), (17, .if_icmp .lt 10, 3), (20, .aload_n 0, 1), (21, .iconst 3, 1), (22, .putfield 13, 3), (25, .iconst 0, 1), (26, .ireturn, 1), (27, .iload_n 1, 1), (28, .bipush 48, 2), (30, .if_icmp .lt 9, 3), (33, .iload_n 1, 1), (34, .bipush 57, 2), (36, .if_icmp .le 15, 3), (39, .iload_n 1, 1), (40, .bipush 97, 2), (42, .if_icmp .lt 19, 3), (45, .iload_n 1, 1), (46, .bipush 100, 2), (48, .if_icmp .gt 13, 3), (51, .aload_n 0, 1), (52, .iload_n 1, 1), (53, .invokevirtual 66, 3), (56, .aload_n 0, 1), (57, .invokevirtual 69, 3), (60, .ireturn, 1), (61, .iload_n 1, 1), (62, .bipush 33, 2), (64, .if_icmp .eq 9, 3), (67, .iload_n 1, 1), (68, .bipush 40, 2), (70, .if_icmp .ne 10, 3), (73, .aload_n 0, 1), (74, .iload_n 1, 1), (75, .iconst 0, 1), (76, .invokevirtual 63, 3), (79, .ireturn, 1), (80, .iload_n 1, 1), (81, .bipush 109, 2), (83, .if_icmp .ne 7, 3), (86, .iconst 2, 1), (87, .goto 7, 3), (90, .aload_n 0, 1), (91, .invokevirtual 59, 3), (94, .ireturn, 1)]
set_option maxRecDepth 20000 in
theorem oX0_readOperand : CtOk mX0_readOperand.2.1 tX0_readOperand := by unfold CtOk; decide +kernel
set_option maxRecDepth 20000 in
theorem kX0_readOperand : MK mX0_readOperand := ⟨tj3 187 (by rfl) rfl, tj1 4 (by rfl) rfl, by decide +kernel, by decide +kernel, by decide +kernel⟩
theorem vX0_readOperand : MKv mX0_readOperand 0 := ⟨tj3 186 (by rfl) rfl, tb0 7 (by rfl) rfl, _, _, rfl⟩
def mX0_readOperator : Mi := (yX0_readOperator, cX0_readOperator, 4, some .int, 1)
def tX0_readOperator : Ct := [(0, .iload_n 1, 1), (1, .invokestatic 72, 3), (4, .istore_n 2, 1), (5, .iload_n 2, 1), (6, .ifCond .le 42, 3), (9, .aload_n 0, 1), (10, .iload_n 2, 1), (11, .iconst 2, 1), (12, .invokestatic 75, 3), (15, .invokevirtual 47, 3), (18, .iload_n 2, 1), (19, .iconst 1, 1), (20, .if_icmp .ne 21, 3), (23, .aload_n 0, 1), (24, .invokevirtual 80, 3), (27, .invokestatic 72, 3), (30, .iconst 1, 1), (31, .if_icmp .ne 10, 3), (34, .aload_n 0, 1), (35, .invokevirtual 59, 3), (38, .goto 9, 3), (41, .aload_n 0, 1), (42, .iload_n 1, 1), (43, .iconst 0, 1), (44, .invokevirtual 63, 3), (47, .ireturn, 1), (48, .aload_n 0, 1), (49, .iconst 1, 1), (50, .invokevirtual 47, 3), (53, .aload_n 0, 1), (54, .invokevirtual 80, 3), (57, .istore_n 3, 1), (58, .iload_n 1, 1), (59, .bipush 44, 2), (61, .if_icmp .ne 44, 3), (64, .iload_n 3, 1), (65, .bipush 78, 2), (67, .if_icmp .eq 9, 3), (70, .iload_n 3, 1), (71, .bipush 88, 2), (73, .if_icmp .ne 32, 3), (76, .aload_n 0, 1), (77, .dup, 1), (78, .getfield 40, 3), (81, .iconst 1, 1), (82, .isub, 1), (83, .putfield 40, 3), (86, .aload_n 0, 1), (87, .iload_n 3, 1), (88, .bipush 78, 2), (90, .if_icmp .ne 8, 3), (93, .bipush 110, 2), (95, .goto 5, 3), (98, .bipush 120, 2), (100, .iconst 0, 1), (101, .invokevirtual 63, 3), (104, .ireturn, 1), (105, .iload_n 1, 1), (106, .bipush 41, 2), (108, .if_icmp .ne 47, 3), (111, .iload_n 3, 1), (112, .bipush 40, 2), (114, .if_icmp .eq 15, 3), (117, .iload_n 3, 1), (118, .bipush 110, 2), (120, .if_icmp .eq 9, 3), (123, .iload_n 3, 1), (124, .bipush 120, 2), (126, .if_icmp .ne 29, 3), (129, .aload_n 0, 1), (130, .dup, 1), (131, .getfield 40, 3), (134, .iconst 1, 1), (135, .isub, 1), (136, .putfield 40, 3), (139, .iload_n 3, 1), (140, .bipush 40, 2), (142, .if_icmp .eq 8, 3), (145, .aload_n 0, 1), (146, .iload_n 3, 1), (147, .invokevirtual 66, 3), (150, .aload_n 0, 1), (151, .invokevirtual 69, 3), (154, .ireturn, 1), (155, .aload_n 0, 1), (156, .invokevirtual 59, 3), (159, .ireturn, 1)]
set_option maxRecDepth 20000 in
theorem oX0_readOperator : CtOk mX0_readOperator.2.1 tX0_readOperator := by unfold CtOk; decide +kernel
set_option maxRecDepth 20000 in
theorem kX0_readOperator : MK mX0_readOperator := ⟨tj3 211 (by rfl) rfl, tj1 4 (by rfl) rfl, by decide +kernel, by decide +kernel, by decide +kernel⟩
theorem vX0_readOperator : MKv mX0_readOperator 0 := ⟨tj3 210 (by rfl) rfl, tb0 13 (by rfl) rfl, _, _, rfl⟩
def mX0_refuse : Mi := (yX0_refuse, cX0_refuse, 1, some .int, 0)
def tX0_refuse : Ct := [(0, .aload_n 0, 1), (1, .iconst 1, 1), (2, .putfield 13, 3), (5, .iconst 0, 1), (6, .ireturn, 1)]
set_option maxRecDepth 20000 in
theorem oX0_refuse : CtOk mX0_refuse.2.1 tX0_refuse := by unfold CtOk; decide +kernel
set_option maxRecDepth 20000 in
theorem kX0_refuse : MK mX0_refuse := ⟨tj3 207 (by rfl) rfl, tj1 4 (by rfl) rfl, by decide +kernel, by decide +kernel, by decide +kernel⟩
theorem vX0_refuse : MKv mX0_refuse 0 := ⟨tj3 206 (by rfl) rfl, tb0 12 (by rfl) rfl, _, _, rfl⟩
def mX0_hold : Mi := (yX0_hold, cX0_hold, 3, some .int, 2)
def tX0_hold : Ct := [(0, .aload_n 0, 1), (1, .getfield 26, 3), (4, .aload_n 0, 1), (5, .getfield 40, 3), (8, .iload_n 1, 1), (9, .iastore, 1), (10, .aload_n 0, 1), (11, .dup, 1), (12, .getfield 40, 3), (15, .iconst 1, 1), (16, .iadd, 1), (17, .putfield 40, 3), (20, .iload_n 2, 1), (21, .ireturn, 1)]
set_option maxRecDepth 20000 in
theorem oX0_hold : CtOk mX0_hold.2.1 tX0_hold := by unfold CtOk; decide +kernel
set_option maxRecDepth 20000 in
theorem kX0_hold : MK mX0_hold := ⟨tj3 203 (by rfl) rfl, tj1 4 (by rfl) rfl, by decide +kernel, by decide +kernel, by decide +kernel⟩
theorem vX0_hold : MKv mX0_hold 0 := ⟨tj3 202 (by rfl) rfl, tb0 11 (by rfl) rfl, _, _, rfl⟩
def mX0_lastWaiting : Mi := (yX0_lastWaiting, cX0_lastWaiting, 1, some .int, 0)
def tX0_lastWaiting : Ct := [(0, .aload_n 0, 1), (1, .getfield 40, 3), (4, .ifCond .le 17, 3), (7, .aload_n 0, 1), (8, .getfield 26, 3), (11, .aload_n 0, 1), (12, .getfield 40, 3), (15, .iconst 1, 1), (16, .isub, 1), (17, .iaload, 1), (18, .goto 4, 3), (21, .iconst 0, 1), (22, .ireturn, 1)]
set_option maxRecDepth 20000 in
theorem oX0_lastWaiting : CtOk mX0_lastWaiting.2.1 tX0_lastWaiting := by unfold CtOk; decide +kernel
set_option maxRecDepth 20000 in
theorem kX0_lastWaiting : MK mX0_lastWaiting := ⟨tj3 199 (by rfl) rfl, tj1 4 (by rfl) rfl, by decide +kernel, by decide +kernel, by decide +kernel⟩
theorem vX0_lastWaiting : MKv mX0_lastWaiting 0 := ⟨tj3 198 (by rfl) rfl, tb0 10 (by rfl) rfl, _, _, rfl⟩
def mX0_emit : Mi := (yX0_emit, cX0_emit, 2, none, 1)
def tX0_emit : Ct := [(0, .aload_n 0, 1), (1, .getfield 23, 3), (4, .aload_n 0, 1), (5, .getfield 37, 3), (8, .iload_n 1, 1), (9, .iastore, 1), (10, .aload_n 0, 1), (11, .dup, 1), (12, .getfield 37, 3), (15, .iconst 1, 1), (16, .iadd, 1), (17, .putfield 37, 3), (20, .return_, 1)]
set_option maxRecDepth 20000 in
theorem oX0_emit : CtOk mX0_emit.2.1 tX0_emit := by unfold CtOk; decide +kernel
set_option maxRecDepth 20000 in
theorem kX0_emit : MK mX0_emit := ⟨tj3 191 (by rfl) rfl, tj1 4 (by rfl) rfl, by decide +kernel, by decide +kernel, by decide +kernel⟩
theorem vX0_emit : MKv mX0_emit 0 := ⟨tj3 190 (by rfl) rfl, tb0 8 (by rfl) rfl, _, _, rfl⟩
def mX0_endFactor : Mi := (yX0_endFactor, cX0_endFactor, 1, some .int, 0)
def tX0_endFactor : Ct := [(0, .aload_n 0, 1), (1, .getfield 40, 3), (4, .ifCond .le 31, 3), (7, .aload_n 0, 1), (8, .invokevirtual 80, 3), (11, .bipush 33, 2), (13, .if_icmp .ne 22, 3), (16, .aload_n 0, 1), (17, .dup, 1), (18, .getfield 40, 3), (21, .iconst 1, 1), (22, .isub, 1), (23, .putfield 40, 3), (26, .aload_n 0, 1), (27, .bipush 33, 2), (29, .invokevirtual 66, 3), (32, .goto (-32), 3), (35, .iconst 1, 1), (36, .ireturn, 1)]
set_option maxRecDepth 20000 in
theorem oX0_endFactor : CtOk mX0_endFactor.2.1 tX0_endFactor := by unfold CtOk; decide +kernel
set_option maxRecDepth 20000 in
theorem kX0_endFactor : MK mX0_endFactor := ⟨tj3 195 (by rfl) rfl, tj1 4 (by rfl) rfl, by decide +kernel, by decide +kernel, by decide +kernel⟩
theorem vX0_endFactor : MKv mX0_endFactor 0 := ⟨tj3 194 (by rfl) rfl, tb0 9 (by rfl) rfl, _, _, rfl⟩
def mX0_moveOperators : Mi := (yX0_moveOperators, cX0_moveOperators, 2, none, 1)
def tX0_moveOperators : Ct := [(0, .aload_n 0, 1), (1, .getfield 40, 3), (4, .ifCond .le 35, 3), (7, .aload_n 0, 1), (8, .invokevirtual 80, 3), (11, .invokestatic 72, 3), (14, .iload_n 1, 1), (15, .if_icmp .lt 24, 3), (18, .aload_n 0, 1), (19, .aload_n 0, 1), (20, .invokevirtual 80, 3), (23, .invokevirtual 66, 3), (26, .aload_n 0, 1), (27, .dup, 1), (28, .getfield 40, 3), (31, .iconst 1, 1), (32, .isub, 1), (33, .putfield 40, 3), (36, .goto (-36), 3), (39, .return_, 1)]
set_option maxRecDepth 20000 in
theorem oX0_moveOperators : CtOk mX0_moveOperators.2.1 tX0_moveOperators := by unfold CtOk; decide +kernel
set_option maxRecDepth 20000 in
theorem kX0_moveOperators : MK mX0_moveOperators := ⟨tj3 219 (by rfl) rfl, tj1 4 (by rfl) rfl, by decide +kernel, by decide +kernel, by decide +kernel⟩
theorem vX0_moveOperators : MKv mX0_moveOperators 0 := ⟨tj3 218 (by rfl) rfl, tb0 14 (by rfl) rfl, _, _, rfl⟩
def mX0_rankOf : Mi := (yX0_rankOf, cX0_rankOf, 1, some .int, 1)
def tX0_rankOf : Ct := [(0, .iload_n 0, 1), (1, .tableswitch 121 37 61 #[119, 121, 121, 121, 121, 119, 117, 121, 117, 121, 119, 121, 121, 121, 121, 121, 121, 121, 121, 121, 121, 121, 121, 115, 115], 115), (116, .iconst 1, 1), (117, .ireturn, 1), (118, .iconst 2, 1), (119, .ireturn, 1), (120, .iconst 3, 1), (121, .ireturn, 1), (122, .iconst 0, 1), (123, .ireturn, 1)]
set_option maxRecDepth 20000 in
theorem oX0_rankOf : CtOk mX0_rankOf.2.1 tX0_rankOf := by unfold CtOk; decide +kernel
set_option maxRecDepth 20000 in
theorem kX0_rankOf : MK mX0_rankOf := ⟨tj3 214 (by rfl) rfl, tj1 4 (by rfl) rfl, by decide +kernel, by decide +kernel, by decide +kernel⟩
theorem sX0_rankOf : Cond.static mX0_rankOf.1 ∈ TSg := tj3 213 (by rfl) rfl
def mX0_evaluate : Mi := (yX0_evaluate, cX0_evaluate, 5, none, 2)
def tX0_evaluate : Ct := [(0, .iconst 0, 1), (1, .istore_n 3, 1), (2, .iload_n 3, 1), (3, .aload_n 1, 1), (4, .getfield 83, 3), (7, .if_icmp .ge 67, 3), (10, .aload_n 1, 1), (11, .iload_n 3, 1), (12, .aload_n 1, 1), (13, .getfield 86, 3), (16, .aload_n 0, 1), (17, .getfield 34, 3), (20, .invokevirtual 89, 3), (23, .aload_n 0, 1), (24, .invokevirtual 93, 3), (27, .istore 4, 2), (29, .aload_n 0, 1), (30, .getfield 13, 3), (33, .ifCond .eq 9, 3), (36, .aload_n 0, 1), (37, .iload_n 3, 1), (38, .putfield 16, 3), (41, .return_, 1), (42, .aload_n 2, 1), (43, .iload_n 3, 1), (44, .aload_n 1, 1), (45, .getfield 96, 3), (48, .iconst 2, 1), (49, .if_icmp .ne 12, 3), (52, .iload 4, 2), (54, .iconst 2, 1), (55, .invokestatic 99, 3), (58, .goto 9, 3), (61, .iload 4, 2), (63, .iconst 3, 1), (64, .invokestatic 99, 3), (67, .iastore, 1), (68, .iinc 3 1, 3), (71, .goto (-69), 3), (74, .return_, 1)]
set_option maxRecDepth 20000 in
theorem oX0_evaluate : CtOk mX0_evaluate.2.1 tX0_evaluate := by unfold CtOk; decide +kernel
set_option maxRecDepth 20000 in
theorem kX0_evaluate : MK mX0_evaluate := ⟨tj3 223 (by rfl) rfl, tj1 4 (by rfl) rfl, by decide +kernel, by decide +kernel, by decide +kernel⟩
theorem vX0_evaluate : MKv mX0_evaluate 0 := ⟨tj3 221 (by rfl) rfl, tj3 222 (by rfl) rfl, _, _, rfl⟩
def mX0_valueForCells : Mi := (yX0_valueForCells, cX0_valueForCells, 4, some .int, 0)
def tX0_valueForCells : Ct := [(0, .iconst 0, 1), (1, .istore_n 1, 1), (2, .iconst 0, 1), (3, .istore_n 2, 1), (4, .iload_n 2, 1), (5, .aload_n 0, 1), (6, .getfield 37, 3), (9, .if_icmp .ge 149, 3), (12, .aload_n 0, 1), (13, .getfield 23, 3), (16, .iload_n 2, 1), (17, .iaload, 1), (18, .istore_n 3, 1), (19, .iload_n 3, 1), (20, .bipush 48, 2), (22, .if_icmp .lt 25, 3), (25, .iload_n 3, 1), (26, .bipush 57, 2), (28, .if_icmp .gt 19, 3), (31, .aload_n 0, 1), (32, .getfield 29, 3), (35, .iload_n 1, 1), (36, .iload_n 3, 1), (37, .bipush 48, 2), (39, .isub, 1), (40, .iastore, 1), (41, .iinc 1 1, 3), (44, .goto 108, 3), (47, .iload_n 3, 1), (48, .bipush 97, 2), (50, .if_icmp .lt 30, 3), (53, .iload_n 3, 1), (54, .bipush 100, 2), (56, .if_icmp .gt 24, 3), (59, .aload_n 0, 1), (60, .getfield 29, 3), (63, .iload_n 1, 1), (64, .aload_n 0, 1), (65, .getfield 34, 3), (68, .iload_n 3, 1), (69, .bipush 97, 2), (71, .isub, 1), (72, .iaload, 1), (73, .iastore, 1), (74, .iinc 1 1, 3), (77, .goto 75, 3), (80, .iload_n 3, 1), (81, .bipush 33, 2), (83, .if_icmp .ne 30, 3), (86, .aload_n 0, 1), (87, .getfield 29, 3), (90, .iload_n 1, 1), (91, .iconst 1, 1), (92, .isub, 1), (93, .aload_n 0, 1), (94, .getfield 29, 3), (97, .iload_n 1, 1), (98, .iconst 1, 1), (99, .isub, 1), (100, .iaload, 1), (101, .ifCond .ne 7, 3), (104, .iconst 1, 1), (105, .goto 4, 3), (108, .iconst 0, 1), (109, .iastore, 1), (110, .goto 42, 3), (113, .iinc 1 (-1), 3), (116, .aload_n 0, 1), (117, .getfield 29, 3), (120, .iload_n 1, 1), (121, .iconst 1, 1), (122, .isub, 1), (123, .aload_n 0, 1), (124, .iload_n 3, 1), (125, .aload_n 0, 1), (126, .getfield 29, 3), (129, .iload_n 1, 1), (130, .iconst 1, 1), (131, .isub, 1), (132, .iaload, 1), (133, .aload_n 0, 1), (134, .getfield 29, 3), (137, .iload_n 1, 1), (138, .iaload, 1), (139, .invokevirtual 102, 3), (142, .iastore, 1), (143, .aload_n 0, 1), (144, .getfield 13, 3), (147, .ifCond .eq 5, 3), (150, .iconst 0, 1), (151, .ireturn, 1), (152, .iinc 2 1, 3), (155, .goto (-151), 3), (158, .aload_n 0, 1), (159, .getfield 29, 3), (162, .iconst 0, 1), (163, .iaload, 1), (164, .ireturn, 1)]
set_option maxRecDepth 20000 in
theorem oX0_valueForCells : CtOk mX0_valueForCells.2.1 tX0_valueForCells := by unfold CtOk; decide +kernel
set_option maxRecDepth 20000 in
theorem kX0_valueForCells : MK mX0_valueForCells := ⟨tj3 228 (by rfl) rfl, tj1 4 (by rfl) rfl, by decide +kernel, by decide +kernel, by decide +kernel⟩
theorem vX0_valueForCells : MKv mX0_valueForCells 0 := ⟨tj3 227 (by rfl) rfl, tb0 15 (by rfl) rfl, _, _, rfl⟩
def mX0_combine : Mi := (yX0_combine, cX0_combine, 4, some .int, 3)
def tX0_combine : Ct := [(0, .iload_n 1, 1), (1, .lookupswitch 145 #[(37, 102), (42, 83), (43, 75), (45, 79), (47, 87), (60, 128), (61, 117), (110, 139)], 75), (76, .iload_n 2, 1), (77, .iload_n 3, 1), (78, .iadd, 1), (79, .ireturn, 1), (80, .iload_n 2, 1), (81, .iload_n 3, 1), (82, .isub, 1), (83, .ireturn, 1), (84, .iload_n 2, 1), (85, .iload_n 3, 1), (86, .imul, 1), (87, .ireturn, 1), (88, .iload_n 3, 1), (89, .ifCond .ne 10, 3), (92, .aload_n 0, 1), (93, .iconst 4, 1), (94, .putfield 13, 3), (97, .iconst 0, 1), (98, .ireturn, 1), (99, .iload_n 2, 1), (100, .iload_n 3, 1), (101, .idiv, 1), (102, .ireturn, 1), (103, .iload_n 3, 1), (104, .ifCond .ne 10, 3), (107, .aload_n 0, 1), (108, .iconst 5, 1), (109, .putfield 13, 3), (112, .iconst 0, 1), (113, .ireturn, 1), (114, .iload_n 2, 1), (115, .iload_n 3, 1), (116, .irem, 1), (117, .ireturn, 1), (118, .iload_n 2, 1), (119, .iload_n 3, 1), (120, .if_icmp .ne 7, 3), (123, .iconst 1, 1), (124, .goto 4, 3), (127, .iconst 0, 1), (128, .ireturn, 1), (129, .iload_n 2, 1), (130, .iload_n 3, 1), (131, .if_icmp .ge 7, 3), (134, .iconst 1, 1), (135, .goto 4, 3), (138, .iconst 0, 1), (139, .ireturn, 1), (140, .iload_n 2, 1), (141, .iload_n 3, 1), (142, .invokestatic 105, 3), (145, .ireturn, 1), (146, .iload_n 2, 1), (147, .iload_n 3, 1), (148, .invokestatic 75, 3), (151, .ireturn, 1)]
set_option maxRecDepth 20000 in
theorem oX0_combine : CtOk mX0_combine.2.1 tX0_combine := by unfold CtOk; decide +kernel
set_option maxRecDepth 20000 in
theorem kX0_combine : MK mX0_combine := ⟨tj3 232 (by rfl) rfl, tj1 4 (by rfl) rfl, by decide +kernel, by decide +kernel, by decide +kernel⟩
theorem vX0_combine : MKv mX0_combine 0 := ⟨tj3 231 (by rfl) rfl, tb0 16 (by rfl) rfl, _, _, rfl⟩
def mX1_imageOf : Mi := (yX1_imageOf, cX1_imageOf, 4, some .int, 3)
def tX1_imageOf : Ct := [(0, .aload_n 1, 1), (1, .iload_n 3, 1), (2, .iload_n 2, 1), (3, .aload_n 0, 1), (4, .getfield 11, 3), (7, .invokevirtual 20, 3), (10, .aload_n 0, 1), (11, .aload_n 1, 1), (12, .iload_n 2, 1), (13, .aload_n 1, 1), (14, .getfield 24, 3), (17, .isub, 1), (18, .iconst 1, 1), (19, .iadd, 1), (20, .invokevirtual 28, 3), (23, .ireturn, 1)]
set_option maxRecDepth 20000 in
theorem oX1_imageOf : CtOk mX1_imageOf.2.1 tX1_imageOf := by unfold CtOk; decide +kernel
set_option maxRecDepth 20000 in
theorem kX1_imageOf : MK mX1_imageOf := ⟨tj4 25 (by rfl) rfl, tj1 5 (by rfl) rfl, by decide +kernel, by decide +kernel, by decide +kernel⟩
theorem vX1_imageOf : MKv mX1_imageOf 1 := ⟨tj4 23 (by rfl) rfl, tj4 24 (by rfl) rfl, _, _, rfl⟩
def mX1_cyclicImageOf : Mi := (yX1_cyclicImageOf, cX1_cyclicImageOf, 5, some .int, 3)
def tX1_cyclicImageOf : Ct := [(0, .aload_n 1, 1), (1, .iload_n 3, 1), (2, .iload_n 2, 1), (3, .aload_n 0, 1), (4, .getfield 11, 3), (7, .invokevirtual 20, 3), (10, .iconst 0, 1), (11, .istore 4, 2), (13, .iload 4, 2), (15, .aload_n 1, 1), (16, .getfield 24, 3), (19, .iconst 1, 1), (20, .isub, 1), (21, .if_icmp .ge 25, 3), (24, .aload_n 0, 1), (25, .getfield 11, 3), (28, .iload_n 2, 1), (29, .iload 4, 2), (31, .iadd, 1), (32, .aload_n 0, 1), (33, .getfield 11, 3), (36, .iload 4, 2), (38, .iaload, 1), (39, .iastore, 1), (40, .iinc 4 1, 3), (43, .goto (-30), 3), (46, .aload_n 0, 1), (47, .aload_n 1, 1), (48, .iload_n 2, 1), (49, .invokevirtual 28, 3), (52, .ireturn, 1)]
set_option maxRecDepth 20000 in
theorem oX1_cyclicImageOf : CtOk mX1_cyclicImageOf.2.1 tX1_cyclicImageOf := by unfold CtOk; decide +kernel
set_option maxRecDepth 20000 in
theorem kX1_cyclicImageOf : MK mX1_cyclicImageOf := ⟨tj4 85 (by rfl) rfl, tj1 5 (by rfl) rfl, by decide +kernel, by decide +kernel, by decide +kernel⟩
theorem vX1_cyclicImageOf : MKv mX1_cyclicImageOf 1 := ⟨tj4 83 (by rfl) rfl, tj4 84 (by rfl) rfl, _, _, rfl⟩
def mX1_readLabels : Mi := (yX1_readLabels, cX1_readLabels, 7, some .int, 2)
def tX1_readLabels : Ct := [(0, .iconst 0, 1), (1, .istore_n 3, 1), (2, .iconst 0, 1), (3, .istore 4, 2), (5, .iload 4, 2), (7, .aload_n 1, 1), (8, .getfield 24, 3), (11, .iconst 1, 1), (12, .isub, 1), (13, .if_icmp .ge 24, 3), (16, .iload_n 3, 1), (17, .aload_n 1, 1), (18, .getfield 32, 3), (21, .imul, 1), (22, .aload_n 0, 1), (23, .getfield 11, 3), (26, .iload 4, 2), (28, .iaload, 1), (29, .iadd, 1), (30, .istore_n 3, 1), (31, .iinc 4 1, 3), (34, .goto (-29), 3), (37, .iconst 0, 1), (38, .istore 4, 2), (40, .iconst 0, 1), (41, .istore 5, 2), (43, .iload 5, 2), (45, .iload_n 2, 1), (46, .if_icmp .ge 57, 3), (49, .iload_n 3, 1), (50, .aload_n 1, 1), (51, .getfield 32, 3), (54, .imul, 1), (55, .aload_n 0, 1), (56, .getfield 11, 3), (59, .iload 5, 2), (61, .aload_n 1, 1), (62, .getfield 24, 3), (65, .iadd, 1), (66, .iconst 1, 1), (67, .isub, 1), (68, .iaload, 1), (69, .iadd, 1), (70, .istore 6, 2), (72, .iload 4, 2), (74, .aload_n 1, 1), (75, .getfield 32, 3), (78, .imul, 1), (79, .aload_n 1, 1), (80, .getfield 35, 3), (83, .iload 6, 2), (85, .iaload, 1), (86, .iadd, 1), (87, .istore 4, 2), (89, .aload_n 1, 1), (90, .getfield 38, 3), (93, .iload 6, 2), (95, .iaload, 1), (96, .istore_n 3, 1), (97, .iinc 5 1, 3), (100, .goto (-57), 3), (103, .iload 4, 2), (105, .ireturn, 1)]
set_option maxRecDepth 20000 in
theorem oX1_readLabels : CtOk mX1_readLabels.2.1 tX1_readLabels := by unfold CtOk; decide +kernel
set_option maxRecDepth 20000 in
theorem kX1_readLabels : MK mX1_readLabels := ⟨tj4 30 (by rfl) rfl, tj1 5 (by rfl) rfl, by decide +kernel, by decide +kernel, by decide +kernel⟩
theorem vX1_readLabels : MKv mX1_readLabels 1 := ⟨tj4 29 (by rfl) rfl, tb0 17 (by rfl) rfl, _, _, rfl⟩
def mX1_follow : Mi := (yX1_follow, cX1_follow, 7, none, 3)
def tX1_follow : Ct := [(0, .aload_n 1, 1), (1, .iload_n 2, 1), (2, .invokevirtual 41, 3), (5, .istore 4, 2), (7, .aload_n 0, 1), (8, .getfield 17, 3), (11, .iconst 0, 1), (12, .iload 4, 2), (14, .iconst (-1), 1), (15, .invokestatic 45, 3), (18, .iload_n 3, 1), (19, .istore 5, 2), (21, .iconst 0, 1), (22, .istore 6, 2), (24, .iload 6, 2), (26, .iload 4, 2), (28, .if_icmp .gt 64, 3), (31, .aload_n 0, 1), (32, .getfield 17, 3), (35, .iload 5, 2), (37, .iaload, 1), (38, .ifCond .lt 29, 3), (41, .aload_n 0, 1), (42, .aload_n 0, 1), (43, .getfield 17, 3), (46, .iload 5, 2), (48, .iaload, 1), (49, .putfield 51, 3), (52, .aload_n 0, 1), (53, .iload 6, 2), (55, .aload_n 0, 1), (56, .getfield 17, 3), (59, .iload 5, 2), (61, .iaload, 1), (62, .isub, 1), (63, .putfield 54, 3), (66, .return_, 1), (67, .aload_n 0, 1), (68, .getfield 17, 3), (71, .iload 5, 2), (73, .iload 6, 2), (75, .iastore, 1), (76, .aload_n 0, 1), (77, .aload_n 1, 1), (78, .iload_n 2, 1), (79, .iload 5, 2), (81, .invokevirtual 57, 3), (84, .istore 5, 2), (86, .iinc 6 1, 3), (89, .goto (-65), 3), (92, .return_, 1)]
set_option maxRecDepth 20000 in
theorem oX1_follow : CtOk mX1_follow.2.1 tX1_follow := by unfold CtOk; decide +kernel
set_option maxRecDepth 20000 in
theorem kX1_follow : MK mX1_follow := ⟨tj4 97 (by rfl) rfl, tj1 5 (by rfl) rfl, by decide +kernel, by decide +kernel, by decide +kernel⟩
theorem vX1_follow : MKv mX1_follow 1 := ⟨tj4 95 (by rfl) rfl, tj4 96 (by rfl) rfl, _, _, rfl⟩
def mX2_run : Mi := (yX2_run, cX2_run, 4, none, 1)
def tX2_run : Ct := [(0, .aload_n 0, 1), (1, .iconst 0, 1), (2, .putfield 16, 3), (5, .aload_n 0, 1), (6, .iconst 0, 1), (7, .putfield 20, 3), (10, .aload_n 0, 1), (11, .getfield 9, 3), (14, .iconst 0, 1), (15, .invokestatic 23, 3), (18, .iconst 1, 1), (19, .istore_n 2, 1), (20, .iload_n 2, 1), (21, .iconst 5, 1), (22, .if_icmp .gt 51, 3), (25, .aload_n 0, 1), (26, .aload_n 1, 1), (27, .aload_n 1, 1), (28, .iload_n 2, 1), (29, .aload_n 1, 1), (30, .getfield 29, 3), (33, .iadd, 1), (34, .iconst 1, 1), (35, .isub, 1), (36, .invokevirtual 34, 3), (39, .invokevirtual 38, 3), (42, .aload_n 0, 1), (43, .aload_n 1, 1), (44, .iload_n 2, 1), (45, .invokevirtual 42, 3), (48, .istore_n 3, 1), (49, .iload_n 3, 1), (50, .ifCond .eq 17, 3), (53, .aload_n 0, 1), (54, .iload_n 2, 1), (55, .putfield 16, 3), (58, .aload_n 0, 1), (59, .iload_n 3, 1), (60, .invokestatic 46, 3), (63, .putfield 20, 3), (66, .return_, 1), (67, .iinc 2 1, 3), (70, .goto (-50), 3), (73, .return_, 1)]
set_option maxRecDepth 20000 in
theorem oX2_run : CtOk mX2_run.2.1 tX2_run := by unfold CtOk; decide +kernel
set_option maxRecDepth 20000 in
theorem kX2_run : MK mX2_run := ⟨tj6 100 (by rfl) rfl, tj1 9 (by rfl) rfl, by decide +kernel, by decide +kernel, by decide +kernel⟩
theorem vX2_run : MKv mX2_run 2 := ⟨tj6 98 (by rfl) rfl, tj6 99 (by rfl) rfl, _, _, rfl⟩
def mX2_lengthenWords : Mi := (yX2_lengthenWords, cX2_lengthenWords, 5, none, 2)
def tX2_lengthenWords : Ct := [(0, .aload_n 1, 1), (1, .getfield 51, 3), (4, .iconst 1, 1), (5, .isub, 1), (6, .istore_n 3, 1), (7, .iload_n 2, 1), (8, .iconst 1, 1), (9, .isub, 1), (10, .istore 4, 2), (12, .iload 4, 2), (14, .ifCond .lt 56, 3), (17, .aload_n 0, 1), (18, .getfield 9, 3), (21, .iload 4, 2), (23, .aload_n 0, 1), (24, .getfield 9, 3), (27, .aload_n 1, 1), (28, .iload 4, 2), (30, .invokevirtual 54, 3), (33, .iaload, 1), (34, .aload_n 1, 1), (35, .getfield 57, 3), (38, .imul, 1), (39, .aload_n 1, 1), (40, .getfield 60, 3), (43, .iload_n 3, 1), (44, .iaload, 1), (45, .iadd, 1), (46, .iastore, 1), (47, .iload_n 3, 1), (48, .ifCond .ne 12, 3), (51, .aload_n 1, 1), (52, .getfield 51, 3), (55, .iconst 1, 1), (56, .isub, 1), (57, .goto 6, 3), (60, .iload_n 3, 1), (61, .iconst 1, 1), (62, .isub, 1), (63, .istore_n 3, 1), (64, .iinc 4 (-1), 3), (67, .goto (-55), 3), (70, .return_, 1)]
set_option maxRecDepth 20000 in
theorem oX2_lengthenWords : CtOk mX2_lengthenWords.2.1 tX2_lengthenWords := by unfold CtOk; decide +kernel
set_option maxRecDepth 20000 in
theorem kX2_lengthenWords : MK mX2_lengthenWords := ⟨tj6 106 (by rfl) rfl, tj1 9 (by rfl) rfl, by decide +kernel, by decide +kernel, by decide +kernel⟩
theorem vX2_lengthenWords : MKv mX2_lengthenWords 2 := ⟨tj6 105 (by rfl) rfl, tb0 30 (by rfl) rfl, _, _, rfl⟩
def mX2_commonPositions : Mi := (yX2_commonPositions, cX2_commonPositions, 10, some .int, 2)
def tX2_commonPositions : Ct := [(0, .iload_n 2, 1), (1, .aload_n 1, 1), (2, .getfield 29, 3), (5, .iadd, 1), (6, .iconst 1, 1), (7, .isub, 1), (8, .istore_n 3, 1), (9, .aload_n 1, 1), (10, .iload_n 3, 1), (11, .invokevirtual 34, 3), (14, .istore 4, 2), (16, .aload_n 1, 1), (17, .iload_n 2, 1), (18, .invokevirtual 34, 3), (21, .istore 5, 2), (23, .aload_n 0, 1), (24, .getfield 13, 3), (27, .iconst 0, 1), (28, .iload 5, 2), (30, .iconst (-1), 1), (31, .invokestatic 63, 3), (34, .iconst 1, 1), (35, .iload_n 3, 1), (36, .ishl, 1), (37, .iconst 1, 1), (38, .isub, 1), (39, .istore 6, 2), (41, .iconst 0, 1), (42, .istore 7, 2), (44, .iconst 0, 1), (45, .istore 8, 2), (47, .iload 8, 2), (49, .iload 4, 2), (51, .if_icmp .ge 66, 3), (54, .iload 6, 2), (56, .ifCond .eq 61, 3), (59, .aload_n 0, 1), (60, .getfield 9, 3), (63, .iload 8, 2), (65, .iaload, 1), (66, .istore 9, 2), (68, .aload_n 0, 1), (69, .getfield 13, 3), (72, .iload 9, 2), (74, .iaload, 1), (75, .ifCond .ge 18, 3), (78, .aload_n 0, 1), (79, .getfield 13, 3), (82, .iload 9, 2), (84, .iload 8, 2), (86, .iastore, 1), (87, .iinc 7 1, 3), (90, .goto 21, 3), (93, .aload_n 1, 1), (94, .iload 6, 2), (96, .iload_n 3, 1), (97, .aload_n 0, 1), (98, .getfield 13, 3), (101, .iload 9, 2), (103, .iaload, 1), (104, .iload 8, 2), (106, .invokestatic 66, 3), (109, .istore 6, 2), (111, .iinc 8 1, 3), (114, .goto (-67), 3), (117, .iload 7, 2), (119, .iload 5, 2), (121, .if_icmp .ne 8, 3), (124, .iload 6, 2), (126, .goto 4, 3), (129, .iconst 0, 1), (130, .ireturn, 1)]
set_option maxRecDepth 20000 in
theorem oX2_commonPositions : CtOk mX2_commonPositions.2.1 tX2_commonPositions := by unfold CtOk; decide +kernel
set_option maxRecDepth 20000 in
theorem kX2_commonPositions : MK mX2_commonPositions := ⟨tj6 111 (by rfl) rfl, tj1 9 (by rfl) rfl, by decide +kernel, by decide +kernel, by decide +kernel⟩
theorem vX2_commonPositions : MKv mX2_commonPositions 2 := ⟨tj6 110 (by rfl) rfl, tb0 31 (by rfl) rfl, _, _, rfl⟩
def mX2_equalPositions : Mi := (yX2_equalPositions, cX2_equalPositions, 9, some .int, 5)
def tX2_equalPositions : Ct := [(0, .iload_n 1, 1), (1, .istore 5, 2), (3, .iload_n 3, 1), (4, .istore 6, 2), (6, .iload 4, 2), (8, .istore 7, 2), (10, .iload_n 2, 1), (11, .iconst 1, 1), (12, .isub, 1), (13, .istore 8, 2), (15, .iload 8, 2), (17, .ifCond .lt 51, 3), (20, .aload_n 0, 1), (21, .iload 6, 2), (23, .invokevirtual 70, 3), (26, .aload_n 0, 1), (27, .iload 7, 2), (29, .invokevirtual 70, 3), (32, .if_icmp .eq 14, 3), (35, .iload 5, 2), (37, .iconst 1, 1), (38, .iload 8, 2), (40, .ishl, 1), (41, .iconst (-1), 1), (42, .ixor, 1), (43, .iand, 1), (44, .istore 5, 2), (46, .aload_n 0, 1), (47, .iload 6, 2), (49, .invokevirtual 54, 3), (52, .istore 6, 2), (54, .aload_n 0, 1), (55, .iload 7, 2), (57, .invokevirtual 54, 3), (60, .istore 7, 2), (62, .iinc 8 (-1), 3), (65, .goto (-50), 3), (68, .iload 5, 2), (70, .ireturn, 1)]
set_option maxRecDepth 20000 in
theorem oX2_equalPositions : CtOk mX2_equalPositions.2.1 tX2_equalPositions := by unfold CtOk; decide +kernel
set_option maxRecDepth 20000 in
theorem kX2_equalPositions : MK mX2_equalPositions := ⟨tj6 115 (by rfl) rfl, tj1 9 (by rfl) rfl, by decide +kernel, by decide +kernel, by decide +kernel⟩
theorem sX2_equalPositions : Cond.static mX2_equalPositions.1 ∈ TSg := tj6 114 (by rfl) rfl
def mX2_stateFor : Mi := (yX2_stateFor, cX2_stateFor, 3, some .int, 2)
def tX2_stateFor : Ct := [(0, .aload_n 1, 1), (1, .aload_n 0, 1), (2, .getfield 13, 3), (5, .iload_n 2, 1), (6, .iaload, 1), (7, .aload_n 0, 1), (8, .getfield 16, 3), (11, .aload_n 1, 1), (12, .getfield 29, 3), (15, .iadd, 1), (16, .iconst 1, 1), (17, .isub, 1), (18, .aload_n 0, 1), (19, .getfield 20, 3), (22, .invokevirtual 73, 3), (25, .ireturn, 1)]
set_option maxRecDepth 20000 in
theorem oX2_stateFor : CtOk mX2_stateFor.2.1 tX2_stateFor := by unfold CtOk; decide +kernel
set_option maxRecDepth 20000 in
theorem kX2_stateFor : MK mX2_stateFor := ⟨tj6 133 (by rfl) rfl, tj1 9 (by rfl) rfl, by decide +kernel, by decide +kernel, by decide +kernel⟩
theorem vX2_stateFor : MKv mX2_stateFor 2 := ⟨tj6 131 (by rfl) rfl, tj6 132 (by rfl) rfl, _, _, rfl⟩
def mX3_countOnCycles : Mi := (yX3_countOnCycles, cX3_countOnCycles, 7, some .int, 1)
def tX3_countOnCycles : Ct := [(0, .aload_n 0, 1), (1, .aload_n 1, 1), (2, .invokevirtual 13, 3), (5, .aload_n 1, 1), (6, .getfield 17, 3), (9, .iconst 1, 1), (10, .isub, 1), (11, .aload_n 1, 1), (12, .getfield 17, 3), (15, .iconst 1, 1), (16, .isub, 1), (17, .invokestatic 23, 3), (20, .iconst 1, 1), (21, .iadd, 1), (22, .istore_n 2, 1), (23, .iconst 0, 1), (24, .istore_n 3, 1), (25, .iload_n 3, 1), (26, .iload_n 2, 1), (27, .if_icmp .ge 56, 3), (30, .iconst 0, 1), (31, .istore 4, 2), (33, .iload 4, 2), (35, .iload_n 2, 1), (36, .if_icmp .ge 41, 3), (39, .aload_n 0, 1), (40, .getfield 9, 3), (43, .iload 4, 2), (45, .laload, 1), (46, .iload_n 3, 1), (47, .lushr, 1), (48, .lconst 1, 1), (49, .land, 1), (50, .lconst 0, 1), (51, .lcmp, 1), (52, .ifCond .eq 19, 3), (55, .aload_n 0, 1), (56, .getfield 9, 3), (59, .iload 4, 2), (61, .dup2, 1), (62, .laload, 1), (63, .aload_n 0, 1), (64, .getfield 9, 3), (67, .iload_n 3, 1), (68, .laload, 1), (69, .lor, 1), (70, .lastore, 1), (71, .iinc 4 1, 3), (74, .goto (-41), 3), (77, .iinc 3 1, 3), (80, .goto (-55), 3), (83, .iconst 0, 1), (84, .istore_n 3, 1), (85, .iconst 0, 1), (86, .istore 4, 2), (88, .iload 4, 2), (90, .aload_n 1, 1), (91, .getfield 17, 3), (94, .if_icmp .ge 59, 3), (97, .iconst 0, 1), (98, .istore 5, 2), (100, .iload 5, 2), (102, .iload 4, 2), (104, .if_icmp .ge 43, 3), (107, .iload 4, 2), (109, .iload 5, 2), (111, .invokestatic 23, 3), (114, .istore 6, 2), (116, .iload_n 3, 1), (117, .aload_n 0, 1), (118, .getfield 9, 3), (121, .iload 6, 2), (123, .laload, 1), (124, .iload 6, 2), (126, .lushr, 1), (127, .lconst 1, 1), (128, .land, 1), (129, .lconst 0, 1), (130, .lcmp, 1), (131, .ifCond .eq 7, 3), (134, .iconst 2, 1), (135, .goto 4, 3), (138, .iconst 0, 1), (139, .iadd, 1), (140, .istore_n 3, 1), (141, .iinc 5 1, 3), (144, .goto (-44), 3), (147, .iinc 4 1, 3), (150, .goto (-62), 3), (153, .iload_n 3, 1), (154, .ireturn, 1)]
set_option maxRecDepth 20000 in
theorem oX3_countOnCycles : CtOk mX3_countOnCycles.2.1 tX3_countOnCycles := by unfold CtOk; decide +kernel
set_option maxRecDepth 20000 in
theorem kX3_countOnCycles : MK mX3_countOnCycles := ⟨tj2 160 (by rfl) rfl, tj1 8 (by rfl) rfl, by decide +kernel, by decide +kernel, by decide +kernel⟩
theorem vX3_countOnCycles : MKv mX3_countOnCycles 3 := ⟨tj2 158 (by rfl) rfl, tj2 159 (by rfl) rfl, _, _, rfl⟩
def mX3_placeOf : Mi := (yX3_placeOf, cX3_placeOf, 3, some .int, 2)
def tX3_placeOf : Ct := [(0, .iload_n 0, 1), (1, .iload_n 1, 1), (2, .invokestatic 27, 3), (5, .istore_n 2, 1), (6, .iload_n 2, 1), (7, .iload_n 2, 1), (8, .iconst 1, 1), (9, .iadd, 1), (10, .imul, 1), (11, .iconst 2, 1), (12, .idiv, 1), (13, .iload_n 0, 1), (14, .iload_n 1, 1), (15, .invokestatic 32, 3), (18, .iadd, 1), (19, .ireturn, 1)]
set_option maxRecDepth 20000 in
theorem oX3_placeOf : CtOk mX3_placeOf.2.1 tX3_placeOf := by unfold CtOk; decide +kernel
set_option maxRecDepth 20000 in
theorem kX3_placeOf : MK mX3_placeOf := ⟨tj2 167 (by rfl) rfl, tj1 8 (by rfl) rfl, by decide +kernel, by decide +kernel, by decide +kernel⟩
theorem sX3_placeOf : Cond.static mX3_placeOf.1 ∈ TSg := tj2 166 (by rfl) rfl
def mX3_readSteps : Mi := (yX3_readSteps, cX3_readSteps, 4, none, 1)
def tX3_readSteps : Ct := [(0, .iconst 0, 1), (1, .istore_n 2, 1), (2, .iload_n 2, 1), (3, .aload_n 1, 1), (4, .getfield 17, 3), (7, .if_icmp .ge 48, 3), (10, .iconst 0, 1), (11, .istore_n 3, 1), (12, .iload_n 3, 1), (13, .iload_n 2, 1), (14, .if_icmp .gt 35, 3), (17, .aload_n 0, 1), (18, .getfield 9, 3), (21, .iload_n 2, 1), (22, .iload_n 3, 1), (23, .invokestatic 23, 3), (26, .aload_n 1, 1), (27, .iload_n 2, 1), (28, .aload_n 1, 1), (29, .getfield 35, 3), (32, .imul, 1), (33, .iload_n 3, 1), (34, .aload_n 1, 1), (35, .getfield 35, 3), (38, .imul, 1), (39, .invokestatic 38, 3), (42, .lastore, 1), (43, .iinc 3 1, 3), (46, .goto (-34), 3), (49, .iinc 2 1, 3), (52, .goto (-50), 3), (55, .return_, 1)]
set_option maxRecDepth 20000 in
theorem oX3_readSteps : CtOk mX3_readSteps.2.1 tX3_readSteps := by unfold CtOk; decide +kernel
set_option maxRecDepth 20000 in
theorem kX3_readSteps : MK mX3_readSteps := ⟨tj2 164 (by rfl) rfl, tj1 8 (by rfl) rfl, by decide +kernel, by decide +kernel, by decide +kernel⟩
theorem vX3_readSteps : MKv mX3_readSteps 3 := ⟨tj2 163 (by rfl) rfl, tb0 3 (by rfl) rfl, _, _, rfl⟩
def mX3_stepsFrom : Mi := (yX3_stepsFrom, cX3_stepsFrom, 7, some .long, 3)
def tX3_stepsFrom : Ct := [(0, .lconst 0, 1), (1, .lstore_n 3, 1), (2, .iload_n 1, 1), (3, .istore 5, 2), (5, .iload 5, 2), (7, .iload_n 1, 1), (8, .aload_n 0, 1), (9, .getfield 35, 3), (12, .iadd, 1), (13, .if_icmp .ge 68, 3), (16, .iload_n 2, 1), (17, .istore 6, 2), (19, .iload 6, 2), (21, .iload_n 2, 1), (22, .aload_n 0, 1), (23, .getfield 35, 3), (26, .iadd, 1), (27, .if_icmp .ge 48, 3), (30, .aload_n 0, 1), (31, .getfield 42, 3), (34, .iload 5, 2), (36, .iaload, 1), (37, .aload_n 0, 1), (38, .getfield 42, 3), (41, .iload 6, 2), (43, .iaload, 1), (44, .if_icmp .ne 25, 3), (47, .lload_n 3, 1), (48, .lconst 1, 1), (49, .aload_n 0, 1), (50, .getfield 46, 3), (53, .iload 5, 2), (55, .iaload, 1), (56, .aload_n 0, 1), (57, .getfield 46, 3), (60, .iload 6, 2), (62, .iaload, 1), (63, .invokestatic 23, 3), (66, .lshl, 1), (67, .lor, 1), (68, .lstore_n 3, 1), (69, .iinc 6 1, 3), (72, .goto (-53), 3), (75, .iinc 5 1, 3), (78, .goto (-73), 3), (81, .lload_n 3, 1), (82, .lreturn, 1)]
set_option maxRecDepth 20000 in
theorem oX3_stepsFrom : CtOk mX3_stepsFrom.2.1 tX3_stepsFrom := by unfold CtOk; decide +kernel
set_option maxRecDepth 20000 in
theorem kX3_stepsFrom : MK mX3_stepsFrom := ⟨tj2 176 (by rfl) rfl, tj1 8 (by rfl) rfl, by decide +kernel, by decide +kernel, by decide +kernel⟩
theorem sX3_stepsFrom : Cond.static mX3_stepsFrom.1 ∈ TSg := tj2 175 (by rfl) rfl
def mX4_takeLabels : Mi := (yX4_takeLabels, cX4_takeLabels, 4, none, 3)
def tX4_takeLabels : Ct := [(0, .aload_n 0, 1), (1, .iload_n 2, 1), (2, .putfield 22, 3), (5, .aload_n 1, 1), (6, .iload_n 3, 1), (7, .iload_n 2, 1), (8, .aload_n 0, 1), (9, .getfield 9, 3), (12, .invokevirtual 26, 3), (15, .return_, 1)]
set_option maxRecDepth 20000 in
theorem oX4_takeLabels : CtOk mX4_takeLabels.2.1 tX4_takeLabels := by unfold CtOk; decide +kernel
set_option maxRecDepth 20000 in
theorem kX4_takeLabels : MK mX4_takeLabels := ⟨tj5 121 (by rfl) rfl, tj1 6 (by rfl) rfl, by decide +kernel, by decide +kernel, by decide +kernel⟩
theorem vX4_takeLabels : MKv mX4_takeLabels 4 := ⟨tj5 119 (by rfl) rfl, tj5 120 (by rfl) rfl, _, _, rfl⟩
def mX4_countAll : Mi := (yX4_countAll, cX4_countAll, 2, some .int, 1)
def tX4_countAll : Ct := [(0, .aload_n 0, 1), (1, .aload_n 1, 1), (2, .invokevirtual 30, 3), (5, .aload_n 1, 1), (6, .aload_n 0, 1), (7, .getfield 19, 3), (10, .iconst 0, 1), (11, .aaload, 1), (12, .invokestatic 34, 3), (15, .ireturn, 1)]
set_option maxRecDepth 20000 in
theorem oX4_countAll : CtOk mX4_countAll.2.1 tX4_countAll := by unfold CtOk; decide +kernel
set_option maxRecDepth 20000 in
theorem kX4_countAll : MK mX4_countAll := ⟨tj5 147 (by rfl) rfl, tj1 6 (by rfl) rfl, by decide +kernel, by decide +kernel, by decide +kernel⟩
theorem vX4_countAll : MKv mX4_countAll 4 := ⟨tj5 145 (by rfl) rfl, tj5 146 (by rfl) rfl, _, _, rfl⟩
def mX4_countBetween : Mi := (yX4_countBetween, cX4_countBetween, 4, some .int, 3)
def tX4_countBetween : Ct := [(0, .aload_n 0, 1), (1, .aload_n 1, 1), (2, .iload_n 3, 1), (3, .invokevirtual 38, 3), (6, .aload_n 0, 1), (7, .getfield 19, 3), (10, .iconst 0, 1), (11, .aaload, 1), (12, .iload_n 2, 1), (13, .iaload, 1), (14, .ireturn, 1)]
set_option maxRecDepth 20000 in
theorem oX4_countBetween : CtOk mX4_countBetween.2.1 tX4_countBetween := by unfold CtOk; decide +kernel
set_option maxRecDepth 20000 in
theorem kX4_countBetween : MK mX4_countBetween := ⟨tj5 130 (by rfl) rfl, tj1 6 (by rfl) rfl, by decide +kernel, by decide +kernel, by decide +kernel⟩
theorem vX4_countBetween : MKv mX4_countBetween 4 := ⟨tj5 128 (by rfl) rfl, tj5 129 (by rfl) rfl, _, _, rfl⟩
def mX4_countClosed : Mi := (yX4_countClosed, cX4_countClosed, 4, some .int, 1)
def tX4_countClosed : Ct := [(0, .iconst 0, 1), (1, .istore_n 2, 1), (2, .aload_n 0, 1), (3, .getfield 22, 3), (6, .ifCond .le 29, 3), (9, .iconst 0, 1), (10, .istore_n 3, 1), (11, .iload_n 3, 1), (12, .aload_n 1, 1), (13, .getfield 42, 3), (16, .if_icmp .ge 19, 3), (19, .iload_n 2, 1), (20, .aload_n 0, 1), (21, .aload_n 1, 1), (22, .iload_n 3, 1), (23, .iload_n 3, 1), (24, .invokevirtual 45, 3), (27, .iadd, 1), (28, .istore_n 2, 1), (29, .iinc 3 1, 3), (32, .goto (-21), 3), (35, .iload_n 2, 1), (36, .ireturn, 1)]
set_option maxRecDepth 20000 in
theorem oX4_countClosed : CtOk mX4_countClosed.2.1 tX4_countClosed := by unfold CtOk; decide +kernel
set_option maxRecDepth 20000 in
theorem kX4_countClosed : MK mX4_countClosed := ⟨tj5 126 (by rfl) rfl, tj1 6 (by rfl) rfl, by decide +kernel, by decide +kernel, by decide +kernel⟩
theorem vX4_countClosed : MKv mX4_countClosed 4 := ⟨tj5 124 (by rfl) rfl, tj5 125 (by rfl) rfl, _, _, rfl⟩
def mX4_openWord : Mi := (yX4_openWord, cX4_openWord, 5, some .int, 2)
def tX4_openWord : Ct := [(0, .iload_n 2, 1), (1, .ifCond .ge 5, 3), (4, .iconst (-1), 1), (5, .ireturn, 1), (6, .aload_n 0, 1), (7, .aload_n 1, 1), (8, .invokevirtual 30, 3), (11, .iload_n 2, 1), (12, .istore_n 3, 1), (13, .iconst 0, 1), (14, .istore 4, 2), (16, .iload 4, 2), (18, .aload_n 1, 1), (19, .getfield 42, 3), (22, .if_icmp .ge 43, 3), (25, .iload_n 3, 1), (26, .aload_n 0, 1), (27, .getfield 19, 3), (30, .iconst 0, 1), (31, .aaload, 1), (32, .iload 4, 2), (34, .iaload, 1), (35, .if_icmp .ge 12, 3), (38, .aload_n 0, 1), (39, .aload_n 1, 1), (40, .iload 4, 2), (42, .iload_n 3, 1), (43, .invokevirtual 49, 3), (46, .ireturn, 1), (47, .iload_n 3, 1), (48, .aload_n 0, 1), (49, .getfield 19, 3), (52, .iconst 0, 1), (53, .aaload, 1), (54, .iload 4, 2), (56, .iaload, 1), (57, .isub, 1), (58, .istore_n 3, 1), (59, .iinc 4 1, 3), (62, .goto (-46), 3), (65, .iconst (-1), 1), (66, .ireturn, 1)]
set_option maxRecDepth 20000 in
theorem oX4_openWord : CtOk mX4_openWord.2.1 tX4_openWord := by unfold CtOk; decide +kernel
set_option maxRecDepth 20000 in
theorem kX4_openWord : MK mX4_openWord := ⟨tj5 179 (by rfl) rfl, tj1 6 (by rfl) rfl, by decide +kernel, by decide +kernel, by decide +kernel⟩
theorem vX4_openWord : MKv mX4_openWord 4 := ⟨tj5 177 (by rfl) rfl, tj5 178 (by rfl) rfl, _, _, rfl⟩
def mX4_closedWord : Mi := (yX4_closedWord, cX4_closedWord, 6, some .int, 2)
def tX4_closedWord : Ct := [(0, .iload_n 2, 1), (1, .ifCond .lt 10, 3), (4, .aload_n 0, 1), (5, .getfield 22, 3), (8, .ifCond .ne 5, 3), (11, .iconst (-1), 1), (12, .ireturn, 1), (13, .iload_n 2, 1), (14, .istore_n 3, 1), (15, .iconst 0, 1), (16, .istore 4, 2), (18, .iload 4, 2), (20, .aload_n 1, 1), (21, .getfield 42, 3), (24, .if_icmp .ge 44, 3), (27, .aload_n 0, 1), (28, .aload_n 1, 1), (29, .iload 4, 2), (31, .iload 4, 2), (33, .invokevirtual 45, 3), (36, .istore 5, 2), (38, .iload_n 3, 1), (39, .iload 5, 2), (41, .if_icmp .ge 16, 3), (44, .aload_n 1, 1), (45, .aload_n 0, 1), (46, .aload_n 1, 1), (47, .iload 4, 2), (49, .iload_n 3, 1), (50, .invokevirtual 49, 3), (53, .invokestatic 52, 3), (56, .ireturn, 1), (57, .iload_n 3, 1), (58, .iload 5, 2), (60, .isub, 1), (61, .istore_n 3, 1), (62, .iinc 4 1, 3), (65, .goto (-47), 3), (68, .iconst (-1), 1), (69, .ireturn, 1)]
set_option maxRecDepth 20000 in
theorem oX4_closedWord : CtOk mX4_closedWord.2.1 tX4_closedWord := by unfold CtOk; decide +kernel
set_option maxRecDepth 20000 in
theorem kX4_closedWord : MK mX4_closedWord := ⟨tj5 167 (by rfl) rfl, tj1 6 (by rfl) rfl, by decide +kernel, by decide +kernel, by decide +kernel⟩
theorem vX4_closedWord : MKv mX4_closedWord 4 := ⟨tj5 165 (by rfl) rfl, tj5 166 (by rfl) rfl, _, _, rfl⟩
def mX4_withoutEnd : Mi := (yX4_withoutEnd, cX4_withoutEnd, 4, some .int, 2)
def tX4_withoutEnd : Ct := [(0, .iload_n 1, 1), (1, .istore_n 2, 1), (2, .iconst 0, 1), (3, .istore_n 3, 1), (4, .iload_n 3, 1), (5, .aload_n 0, 1), (6, .getfield 56, 3), (9, .iconst 1, 1), (10, .isub, 1), (11, .if_icmp .ge 15, 3), (14, .aload_n 0, 1), (15, .iload_n 2, 1), (16, .invokevirtual 59, 3), (19, .istore_n 2, 1), (20, .iinc 3 1, 3), (23, .goto (-19), 3), (26, .iload_n 2, 1), (27, .ireturn, 1)]
set_option maxRecDepth 20000 in
theorem oX4_withoutEnd : CtOk mX4_withoutEnd.2.1 tX4_withoutEnd := by unfold CtOk; decide +kernel
set_option maxRecDepth 20000 in
theorem kX4_withoutEnd : MK mX4_withoutEnd := ⟨tj5 174 (by rfl) rfl, tj1 6 (by rfl) rfl, by decide +kernel, by decide +kernel, by decide +kernel⟩
theorem sX4_withoutEnd : Cond.static mX4_withoutEnd.1 ∈ TSg := tj5 173 (by rfl) rfl
def mX4_walk : Mi := (yX4_walk, cX4_walk, 10, some .int, 3)
def tX4_walk : Ct := [(0, .iload_n 2, 1), (1, .istore 4, 2), (3, .iload_n 2, 1), (4, .istore 5, 2), (6, .iload_n 3, 1), (7, .istore 6, 2), (9, .iconst 0, 1), (10, .istore 7, 2), (12, .iload 7, 2), (14, .aload_n 0, 1), (15, .getfield 22, 3), (18, .if_icmp .ge 107, 3), (21, .iconst 0, 1), (22, .istore 8, 2), (24, .aload_n 0, 1), (25, .aload_n 1, 1), (26, .iload 5, 2), (28, .aload_n 1, 1), (29, .getfield 63, 3), (32, .imul, 1), (33, .iload 7, 2), (35, .invokevirtual 66, 3), (38, .istore 9, 2), (40, .iload 6, 2), (42, .iload 9, 2), (44, .if_icmp .lt 46, 3), (47, .iload 8, 2), (49, .aload_n 1, 1), (50, .getfield 63, 3), (53, .iconst 1, 1), (54, .isub, 1), (55, .if_icmp .ge 35, 3), (58, .iload 6, 2), (60, .iload 9, 2), (62, .isub, 1), (63, .istore 6, 2), (65, .iinc 8 1, 3), (68, .aload_n 0, 1), (69, .aload_n 1, 1), (70, .iload 5, 2), (72, .aload_n 1, 1), (73, .getfield 63, 3), (76, .imul, 1), (77, .iload 8, 2), (79, .iadd, 1), (80, .iload 7, 2), (82, .invokevirtual 66, 3), (85, .istore 9, 2), (87, .goto (-47), 3), (90, .iload 4, 2), (92, .aload_n 1, 1), (93, .getfield 63, 3), (96, .imul, 1), (97, .iload 8, 2), (99, .iadd, 1), (100, .istore 4, 2), (102, .aload_n 1, 1), (103, .getfield 69, 3), (106, .iload 5, 2), (108, .aload_n 1, 1), (109, .getfield 63, 3), (112, .imul, 1), (113, .iload 8, 2), (115, .iadd, 1), (116, .iaload, 1), (117, .istore 5, 2), (119, .iinc 7 1, 3), (122, .goto (-110), 3), (125, .iload 4, 2), (127, .ireturn, 1)]
set_option maxRecDepth 20000 in
theorem oX4_walk : CtOk mX4_walk.2.1 tX4_walk := by unfold CtOk; decide +kernel
set_option maxRecDepth 20000 in
theorem kX4_walk : MK mX4_walk := ⟨tj5 171 (by rfl) rfl, tj1 6 (by rfl) rfl, by decide +kernel, by decide +kernel, by decide +kernel⟩
theorem vX4_walk : MKv mX4_walk 4 := ⟨tj5 170 (by rfl) rfl, tb0 23 (by rfl) rfl, _, _, rfl⟩
def mX4_countTo : Mi := (yX4_countTo, cX4_countTo, 3, none, 2)
def tX4_countTo : Ct := [(0, .aload_n 0, 1), (1, .getfield 19, 3), (4, .aload_n 0, 1), (5, .getfield 22, 3), (8, .aaload, 1), (9, .iconst 0, 1), (10, .invokestatic 72, 3), (13, .aload_n 0, 1), (14, .getfield 19, 3), (17, .aload_n 0, 1), (18, .getfield 22, 3), (21, .aaload, 1), (22, .iload_n 2, 1), (23, .iconst 1, 1), (24, .iastore, 1), (25, .aload_n 0, 1), (26, .aload_n 1, 1), (27, .invokevirtual 78, 3), (30, .return_, 1)]
set_option maxRecDepth 20000 in
theorem oX4_countTo : CtOk mX4_countTo.2.1 tX4_countTo := by unfold CtOk; decide +kernel
set_option maxRecDepth 20000 in
theorem kX4_countTo : MK mX4_countTo := ⟨tj5 134 (by rfl) rfl, tj1 6 (by rfl) rfl, by decide +kernel, by decide +kernel, by decide +kernel⟩
theorem vX4_countTo : MKv mX4_countTo 4 := ⟨tj5 133 (by rfl) rfl, tb0 19 (by rfl) rfl, _, _, rfl⟩
def mX4_countToAnywhere : Mi := (yX4_countToAnywhere, cX4_countToAnywhere, 2, none, 1)
def tX4_countToAnywhere : Ct := [(0, .aload_n 0, 1), (1, .getfield 19, 3), (4, .aload_n 0, 1), (5, .getfield 22, 3), (8, .aaload, 1), (9, .iconst 1, 1), (10, .invokestatic 72, 3), (13, .aload_n 0, 1), (14, .aload_n 1, 1), (15, .invokevirtual 78, 3), (18, .return_, 1)]
set_option maxRecDepth 20000 in
theorem oX4_countToAnywhere : CtOk mX4_countToAnywhere.2.1 tX4_countToAnywhere := by unfold CtOk; decide +kernel
set_option maxRecDepth 20000 in
theorem kX4_countToAnywhere : MK mX4_countToAnywhere := ⟨tj5 151 (by rfl) rfl, tj1 6 (by rfl) rfl, by decide +kernel, by decide +kernel, by decide +kernel⟩
theorem vX4_countToAnywhere : MKv mX4_countToAnywhere 4 := ⟨tj5 150 (by rfl) rfl, tb0 22 (by rfl) rfl, _, _, rfl⟩
def mX4_countBackwards : Mi := (yX4_countBackwards, cX4_countBackwards, 6, none, 1)
def tX4_countBackwards : Ct := [(0, .aload_n 0, 1), (1, .getfield 22, 3), (4, .iconst 1, 1), (5, .isub, 1), (6, .istore_n 2, 1), (7, .iload_n 2, 1), (8, .ifCond .lt 76, 3), (11, .iconst 0, 1), (12, .istore_n 3, 1), (13, .iload_n 3, 1), (14, .aload_n 1, 1), (15, .getfield 42, 3), (18, .if_icmp .ge 60, 3), (21, .iconst 0, 1), (22, .istore 4, 2), (24, .iconst 0, 1), (25, .istore 5, 2), (27, .iload 5, 2), (29, .aload_n 1, 1), (30, .getfield 63, 3), (33, .if_icmp .ge 29, 3), (36, .iload 4, 2), (38, .aload_n 0, 1), (39, .aload_n 1, 1), (40, .iload_n 3, 1), (41, .aload_n 1, 1), (42, .getfield 63, 3), (45, .imul, 1), (46, .iload 5, 2), (48, .iadd, 1), (49, .iload_n 2, 1), (50, .invokevirtual 66, 3), (53, .iadd, 1), (54, .istore 4, 2), (56, .iinc 5 1, 3), (59, .goto (-32), 3), (62, .aload_n 0, 1), (63, .getfield 19, 3), (66, .iload_n 2, 1), (67, .aaload, 1), (68, .iload_n 3, 1), (69, .iload 4, 2), (71, .iastore, 1), (72, .iinc 3 1, 3), (75, .goto (-62), 3), (78, .iinc 2 (-1), 3), (81, .goto (-74), 3), (84, .return_, 1)]
set_option maxRecDepth 20000 in
theorem oX4_countBackwards : CtOk mX4_countBackwards.2.1 tX4_countBackwards := by unfold CtOk; decide +kernel
set_option maxRecDepth 20000 in
theorem kX4_countBackwards : MK mX4_countBackwards := ⟨tj5 139 (by rfl) rfl, tj1 6 (by rfl) rfl, by decide +kernel, by decide +kernel, by decide +kernel⟩
theorem vX4_countBackwards : MKv mX4_countBackwards 4 := ⟨tj5 138 (by rfl) rfl, tb0 20 (by rfl) rfl, _, _, rfl⟩
def mX4_waysBy : Mi := (yX4_waysBy, cX4_waysBy, 4, some .int, 3)
def tX4_waysBy : Ct := [(0, .aload_n 1, 1), (1, .getfield 81, 3), (4, .iload_n 2, 1), (5, .iaload, 1), (6, .aload_n 0, 1), (7, .getfield 9, 3), (10, .iload_n 3, 1), (11, .iaload, 1), (12, .if_icmp .ne 21, 3), (15, .aload_n 0, 1), (16, .getfield 19, 3), (19, .iload_n 3, 1), (20, .iconst 1, 1), (21, .iadd, 1), (22, .aaload, 1), (23, .aload_n 1, 1), (24, .getfield 69, 3), (27, .iload_n 2, 1), (28, .iaload, 1), (29, .iaload, 1), (30, .goto 4, 3), (33, .iconst 0, 1), (34, .ireturn, 1)]
set_option maxRecDepth 20000 in
theorem oX4_waysBy : CtOk mX4_waysBy.2.1 tX4_waysBy := by unfold CtOk; decide +kernel
set_option maxRecDepth 20000 in
theorem kX4_waysBy : MK mX4_waysBy := ⟨tj5 143 (by rfl) rfl, tj1 6 (by rfl) rfl, by decide +kernel, by decide +kernel, by decide +kernel⟩
theorem vX4_waysBy : MKv mX4_waysBy 4 := ⟨tj5 142 (by rfl) rfl, tb0 21 (by rfl) rfl, _, _, rfl⟩
def mX4_sumOf : Mi := (yX4_sumOf, cX4_sumOf, 4, some .int, 2)
def tX4_sumOf : Ct := [(0, .iconst 0, 1), (1, .istore_n 2, 1), (2, .iconst 0, 1), (3, .istore_n 3, 1), (4, .iload_n 3, 1), (5, .aload_n 0, 1), (6, .getfield 42, 3), (9, .if_icmp .ge 15, 3), (12, .iload_n 2, 1), (13, .aload_n 1, 1), (14, .iload_n 3, 1), (15, .iaload, 1), (16, .iadd, 1), (17, .istore_n 2, 1), (18, .iinc 3 1, 3), (21, .goto (-17), 3), (24, .iload_n 2, 1), (25, .ireturn, 1)]
set_option maxRecDepth 20000 in
theorem oX4_sumOf : CtOk mX4_sumOf.2.1 tX4_sumOf := by unfold CtOk; decide +kernel
set_option maxRecDepth 20000 in
theorem kX4_sumOf : MK mX4_sumOf := ⟨tj5 154 (by rfl) rfl, tj1 6 (by rfl) rfl, by decide +kernel, by decide +kernel, by decide +kernel⟩
theorem sX4_sumOf : Cond.static mX4_sumOf.1 ∈ TSg := tj5 153 (by rfl) rfl
def mX4_surveyWords : Mi := (yX4_surveyWords, cX4_surveyWords, 8, none, 3)
def tX4_surveyWords : Ct := [(0, .aload_n 0, 1), (1, .iconst 0, 1), (2, .putfield 84, 3), (5, .aload_n 0, 1), (6, .iconst 0, 1), (7, .putfield 87, 3), (10, .aload_n 0, 1), (11, .getfield 9, 3), (14, .iconst 0, 1), (15, .invokestatic 72, 3), (18, .aload_n 0, 1), (19, .getfield 19, 3), (22, .iconst 0, 1), (23, .aaload, 1), (24, .iconst 1, 1), (25, .invokestatic 72, 3), (28, .aload_n 1, 1), (29, .iload_n 2, 1), (30, .invokevirtual 90, 3), (33, .istore 4, 2), (35, .iconst 0, 1), (36, .istore 5, 2), (38, .iconst 0, 1), (39, .istore 6, 2), (41, .iload 6, 2), (43, .iload 4, 2), (45, .if_icmp .ge 85, 3), (48, .iload 5, 2), (50, .istore 7, 2), (52, .iload 7, 2), (54, .iload_n 2, 1), (55, .if_icmp .ge 16, 3), (58, .aload_n 0, 1), (59, .aload_n 1, 1), (60, .iload 7, 2), (62, .invokevirtual 93, 3), (65, .iinc 7 1, 3), (68, .goto (-16), 3), (71, .aload_n 1, 1), (72, .aload_n 0, 1), (73, .getfield 19, 3), (76, .iload_n 2, 1), (77, .aaload, 1), (78, .invokestatic 34, 3), (81, .istore 7, 2), (83, .aload_n 0, 1), (84, .dup, 1), (85, .getfield 84, 3), (88, .iload 7, 2), (90, .iload_n 3, 1), (91, .if_icmp .ne 7, 3), (94, .iconst 1, 1), (95, .goto 4, 3), (98, .iconst 0, 1), (99, .iadd, 1), (100, .putfield 84, 3), (103, .aload_n 0, 1), (104, .aload_n 0, 1), (105, .getfield 87, 3), (108, .iload 7, 2), (110, .invokestatic 96, 3), (113, .putfield 87, 3), (116, .aload_n 0, 1), (117, .aload_n 1, 1), (118, .iload_n 2, 1), (119, .invokevirtual 102, 3), (122, .istore 5, 2), (124, .iinc 6 1, 3), (127, .goto (-86), 3), (130, .return_, 1)]
set_option maxRecDepth 20000 in
theorem oX4_surveyWords : CtOk mX4_surveyWords.2.1 tX4_surveyWords := by unfold CtOk; decide +kernel
set_option maxRecDepth 20000 in
theorem kX4_surveyWords : MK mX4_surveyWords := ⟨tj5 222 (by rfl) rfl, tj1 6 (by rfl) rfl, by decide +kernel, by decide +kernel, by decide +kernel⟩
theorem vX4_surveyWords : MKv mX4_surveyWords 4 := ⟨tj5 220 (by rfl) rfl, tj5 221 (by rfl) rfl, _, _, rfl⟩
def mX4_stepForward : Mi := (yX4_stepForward, cX4_stepForward, 8, none, 2)
def tX4_stepForward : Ct := [(0, .aload_n 0, 1), (1, .getfield 19, 3), (4, .iload_n 2, 1), (5, .aaload, 1), (6, .astore_n 3, 1), (7, .aload_n 0, 1), (8, .getfield 19, 3), (11, .iload_n 2, 1), (12, .iconst 1, 1), (13, .iadd, 1), (14, .aaload, 1), (15, .astore 4, 2), (17, .aload 4, 2), (19, .iconst 0, 1), (20, .invokestatic 72, 3), (23, .iconst 0, 1), (24, .istore 5, 2), (26, .iload 5, 2), (28, .aload_n 1, 1), (29, .getfield 42, 3), (32, .if_icmp .ge 79, 3), (35, .aload_n 3, 1), (36, .iload 5, 2), (38, .iaload, 1), (39, .ifCond .eq 66, 3), (42, .iconst 0, 1), (43, .istore 6, 2), (45, .iload 6, 2), (47, .aload_n 1, 1), (48, .getfield 63, 3), (51, .if_icmp .ge 54, 3), (54, .iload 5, 2), (56, .aload_n 1, 1), (57, .getfield 63, 3), (60, .imul, 1), (61, .iload 6, 2), (63, .iadd, 1), (64, .istore 7, 2), (66, .aload_n 1, 1), (67, .getfield 81, 3), (70, .iload 7, 2), (72, .iaload, 1), (73, .aload_n 0, 1), (74, .getfield 9, 3), (77, .iload_n 2, 1), (78, .iaload, 1), (79, .if_icmp .ne 20, 3), (82, .aload 4, 2), (84, .aload_n 1, 1), (85, .getfield 69, 3), (88, .iload 7, 2), (90, .iaload, 1), (91, .dup2, 1), (92, .iaload, 1), (93, .aload_n 3, 1), (94, .iload 5, 2), (96, .iaload, 1), (97, .iadd, 1), (98, .iastore, 1), (99, .iinc 6 1, 3), (102, .goto (-57), 3), (105, .iinc 5 1, 3), (108, .goto (-82), 3), (111, .return_, 1)]
set_option maxRecDepth 20000 in
theorem oX4_stepForward : CtOk mX4_stepForward.2.1 tX4_stepForward := by unfold CtOk; decide +kernel
set_option maxRecDepth 20000 in
theorem kX4_stepForward : MK mX4_stepForward := ⟨tj5 227 (by rfl) rfl, tj1 6 (by rfl) rfl, by decide +kernel, by decide +kernel, by decide +kernel⟩
theorem vX4_stepForward : MKv mX4_stepForward 4 := ⟨tj5 226 (by rfl) rfl, tb0 25 (by rfl) rfl, _, _, rfl⟩
def mX4_moveToNextWord : Mi := (yX4_moveToNextWord, cX4_moveToNextWord, 4, some .int, 2)
def tX4_moveToNextWord : Ct := [(0, .iload_n 2, 1), (1, .iconst 1, 1), (2, .isub, 1), (3, .istore_n 3, 1), (4, .iload_n 3, 1), (5, .ifCond .lt 43, 3), (8, .aload_n 0, 1), (9, .getfield 9, 3), (12, .iload_n 3, 1), (13, .iaload, 1), (14, .aload_n 1, 1), (15, .getfield 63, 3), (18, .iconst 1, 1), (19, .isub, 1), (20, .if_icmp .ge 15, 3), (23, .aload_n 0, 1), (24, .getfield 9, 3), (27, .iload_n 3, 1), (28, .dup2, 1), (29, .iaload, 1), (30, .iconst 1, 1), (31, .iadd, 1), (32, .iastore, 1), (33, .iload_n 3, 1), (34, .ireturn, 1), (35, .aload_n 0, 1), (36, .getfield 9, 3), (39, .iload_n 3, 1), (40, .iconst 0, 1), (41, .iastore, 1), (42, .iinc 3 (-1), 3), (45, .goto (-41), 3), (48, .iconst 0, 1), (49, .ireturn, 1)]
set_option maxRecDepth 20000 in
theorem oX4_moveToNextWord : CtOk mX4_moveToNextWord.2.1 tX4_moveToNextWord := by unfold CtOk; decide +kernel
set_option maxRecDepth 20000 in
theorem kX4_moveToNextWord : MK mX4_moveToNextWord := ⟨tj5 232 (by rfl) rfl, tj1 6 (by rfl) rfl, by decide +kernel, by decide +kernel, by decide +kernel⟩
theorem vX4_moveToNextWord : MKv mX4_moveToNextWord 4 := ⟨tj5 231 (by rfl) rfl, tb0 26 (by rfl) rfl, _, _, rfl⟩
def mX4_countFixed : Mi := (yX4_countFixed, cX4_countFixed, 6, some .int, 2)
def tX4_countFixed : Ct := [(0, .iconst 0, 1), (1, .istore_n 3, 1), (2, .iconst 0, 1), (3, .istore 4, 2), (5, .iload 4, 2), (7, .aload_n 1, 1), (8, .getfield 42, 3), (11, .if_icmp .ge 76, 3), (14, .aload_n 0, 1), (15, .getfield 19, 3), (18, .iconst 0, 1), (19, .aaload, 1), (20, .iconst 0, 1), (21, .invokestatic 72, 3), (24, .aload_n 0, 1), (25, .getfield 19, 3), (28, .iconst 0, 1), (29, .aaload, 1), (30, .iload 4, 2), (32, .iconst 1, 1), (33, .iastore, 1), (34, .iconst 0, 1), (35, .istore 5, 2), (37, .iload 5, 2), (39, .iload_n 2, 1), (40, .if_icmp .ge 29, 3), (43, .aload_n 1, 1), (44, .aload_n 0, 1), (45, .getfield 19, 3), (48, .iload 5, 2), (50, .aaload, 1), (51, .aload_n 0, 1), (52, .getfield 19, 3), (55, .iload 5, 2), (57, .iconst 1, 1), (58, .iadd, 1), (59, .aaload, 1), (60, .invokestatic 105, 3), (63, .iinc 5 1, 3), (66, .goto (-29), 3), (69, .iload_n 3, 1), (70, .aload_n 0, 1), (71, .getfield 19, 3), (74, .iload_n 2, 1), (75, .aaload, 1), (76, .iload 4, 2), (78, .iaload, 1), (79, .iadd, 1), (80, .istore_n 3, 1), (81, .iinc 4 1, 3), (84, .goto (-79), 3), (87, .iload_n 3, 1), (88, .ireturn, 1)]
set_option maxRecDepth 20000 in
theorem oX4_countFixed : CtOk mX4_countFixed.2.1 tX4_countFixed := by unfold CtOk; decide +kernel
set_option maxRecDepth 20000 in
theorem kX4_countFixed : MK mX4_countFixed := ⟨tj6 10 (by rfl) rfl, tj1 6 (by rfl) rfl, by decide +kernel, by decide +kernel, by decide +kernel⟩
theorem vX4_countFixed : MKv mX4_countFixed 4 := ⟨tj6 8 (by rfl) rfl, tj6 9 (by rfl) rfl, _, _, rfl⟩
def mX4_stepAlongFixed : Mi := (yX4_stepAlongFixed, cX4_stepAlongFixed, 6, none, 3)
def tX4_stepAlongFixed : Ct := [(0, .aload_n 2, 1), (1, .iconst 0, 1), (2, .invokestatic 72, 3), (5, .iconst 0, 1), (6, .istore_n 3, 1), (7, .iload_n 3, 1), (8, .aload_n 0, 1), (9, .getfield 42, 3), (12, .if_icmp .ge 70, 3), (15, .iconst 0, 1), (16, .istore 4, 2), (18, .iload 4, 2), (20, .aload_n 0, 1), (21, .getfield 63, 3), (24, .if_icmp .ge 52, 3), (27, .iload_n 3, 1), (28, .aload_n 0, 1), (29, .getfield 63, 3), (32, .imul, 1), (33, .iload 4, 2), (35, .iadd, 1), (36, .istore 5, 2), (38, .aload_n 0, 1), (39, .getfield 81, 3), (42, .iload 5, 2), (44, .iaload, 1), (45, .aload_n 0, 1), (46, .getfield 109, 3), (49, .iload 5, 2), (51, .iaload, 1), (52, .if_icmp .ne 18, 3), (55, .aload_n 2, 1), (56, .aload_n 0, 1), (57, .getfield 69, 3), (60, .iload 5, 2), (62, .iaload, 1), (63, .dup2, 1), (64, .iaload, 1), (65, .aload_n 1, 1), (66, .iload_n 3, 1), (67, .iaload, 1), (68, .iadd, 1), (69, .iastore, 1), (70, .iinc 4 1, 3), (73, .goto (-55), 3), (76, .iinc 3 1, 3), (79, .goto (-72), 3), (82, .return_, 1)]
set_option maxRecDepth 20000 in
theorem oX4_stepAlongFixed : CtOk mX4_stepAlongFixed.2.1 tX4_stepAlongFixed := by unfold CtOk; decide +kernel
set_option maxRecDepth 20000 in
theorem kX4_stepAlongFixed : MK mX4_stepAlongFixed := ⟨tj6 13 (by rfl) rfl, tj1 6 (by rfl) rfl, by decide +kernel, by decide +kernel, by decide +kernel⟩
theorem sX4_stepAlongFixed : Cond.static mX4_stepAlongFixed.1 ∈ TSg := tj6 12 (by rfl) rfl
def mX5_empty : Mi := (yX5_empty, cX5_empty, 1, none, 0)
def tX5_empty : Ct := [(0, .aload_n 0, 1), (1, .getfield 9, 3), (4, .iconst 0, 1), (5, .invokestatic 18, 3), (8, .aload_n 0, 1), (9, .getfield 15, 3), (12, .iconst 0, 1), (13, .invokestatic 18, 3), (16, .return_, 1)]
set_option maxRecDepth 20000 in
theorem oX5_empty : CtOk mX5_empty.2.1 tX5_empty := by unfold CtOk; decide +kernel
set_option maxRecDepth 20000 in
theorem kX5_empty : MK mX5_empty := ⟨tj3 39 (by rfl) rfl, tj1 3 (by rfl) rfl, by decide +kernel, by decide +kernel, by decide +kernel⟩
theorem vX5_empty : MKv mX5_empty 5 := ⟨tj3 37 (by rfl) rfl, tj3 38 (by rfl) rfl, _, _, rfl⟩
def mX5_put : Mi := (yX5_put, cX5_put, 4, none, 3)
def tX5_put : Ct := [(0, .aload_n 0, 1), (1, .getfield 9, 3), (4, .iload_n 1, 1), (5, .iload_n 2, 1), (6, .iastore, 1), (7, .aload_n 0, 1), (8, .getfield 15, 3), (11, .iload_n 1, 1), (12, .iload_n 3, 1), (13, .iastore, 1), (14, .return_, 1)]
set_option maxRecDepth 20000 in
theorem oX5_put : CtOk mX5_put.2.1 tX5_put := by unfold CtOk; decide +kernel
set_option maxRecDepth 20000 in
theorem kX5_put : MK mX5_put := ⟨tj4 47 (by rfl) rfl, tj1 3 (by rfl) rfl, by decide +kernel, by decide +kernel, by decide +kernel⟩
theorem vX5_put : MKv mX5_put 5 := ⟨tj4 45 (by rfl) rfl, tj4 46 (by rfl) rfl, _, _, rfl⟩
def mX5_copyFrom : Mi := (yX5_copyFrom, cX5_copyFrom, 2, none, 1)
def tX5_copyFrom : Ct := [(0, .aload_n 1, 1), (1, .getfield 9, 3), (4, .iconst 0, 1), (5, .aload_n 0, 1), (6, .getfield 9, 3), (9, .iconst 0, 1), (10, .iconst 4, 1), (11, .invokestatic 24, 3), (14, .aload_n 1, 1), (15, .getfield 15, 3), (18, .iconst 0, 1), (19, .aload_n 0, 1), (20, .getfield 15, 3), (23, .iconst 0, 1), (24, .iconst 4, 1), (25, .invokestatic 24, 3), (28, .return_, 1)]
set_option maxRecDepth 20000 in
theorem oX5_copyFrom : CtOk mX5_copyFrom.2.1 tX5_copyFrom := by unfold CtOk; decide +kernel
set_option maxRecDepth 20000 in
theorem kX5_copyFrom : MK mX5_copyFrom := ⟨tj2 191 (by rfl) rfl, tj1 3 (by rfl) rfl, by decide +kernel, by decide +kernel, by decide +kernel⟩
theorem vX5_copyFrom : MKv mX5_copyFrom 5 := ⟨tj2 189 (by rfl) rfl, tj2 190 (by rfl) rfl, _, _, rfl⟩
def mX6_exists : Mi := (yX6_exists, cX6_exists, 2, some .boolean, 2)
def tX6_exists : Ct := [(0, .iload_n 1, 1), (1, .iconst 2, 1), (2, .if_icmp .lt 27, 3), (5, .iload_n 0, 1), (6, .iconst 2, 1), (7, .if_icmp .ne 8, 3), (10, .iload_n 1, 1), (11, .iconst 4, 1), (12, .if_icmp .le 13, 3), (15, .iload_n 0, 1), (16, .iconst 3, 1), (17, .if_icmp .ne 12, 3), (20, .iload_n 1, 1), (21, .iconst 3, 1), (22, .if_icmp .gt 7, 3), (25, .iconst 1, 1), (26, .goto 4, 3), (29, .iconst 0, 1), (30, .ireturn, 1)]
set_option maxRecDepth 20000 in
theorem oX6_exists : CtOk mX6_exists.2.1 tX6_exists := by unfold CtOk; decide +kernel
set_option maxRecDepth 20000 in
theorem kX6_exists : MK mX6_exists := ⟨tj2 203 (by rfl) rfl, tj1 2 (by rfl) rfl, by decide +kernel, by decide +kernel, by decide +kernel⟩
theorem sX6_exists : Cond.static mX6_exists.1 ∈ TSg := tj2 202 (by rfl) rfl
def mX6_resize : Mi := (yX6_resize, cX6_resize, 6, none, 2)
def tX6_resize : Ct := [(0, .aload_n 0, 1), (1, .iload_n 1, 1), (2, .putfield 29, 3), (5, .aload_n 0, 1), (6, .iload_n 2, 1), (7, .putfield 33, 3), (10, .aload_n 0, 1), (11, .aload_n 0, 1), (12, .iload_n 2, 1), (13, .iconst 1, 1), (14, .isub, 1), (15, .invokevirtual 36, 3), (18, .putfield 40, 3), (21, .aload_n 0, 1), (22, .aload_n 0, 1), (23, .getfield 40, 3), (26, .iload_n 1, 1), (27, .imul, 1), (28, .putfield 43, 3), (31, .iconst 0, 1), (32, .istore_n 3, 1), (33, .iconst 0, 1), (34, .istore 4, 2), (36, .iconst 0, 1), (37, .istore 5, 2), (39, .iload 5, 2), (41, .aload_n 0, 1), (42, .getfield 43, 3), (45, .if_icmp .ge 50, 3), (48, .aload_n 0, 1), (49, .getfield 9, 3), (52, .iload 5, 2), (54, .iconst 0, 1), (55, .iastore, 1), (56, .aload_n 0, 1), (57, .getfield 13, 3), (60, .iload 5, 2), (62, .iload_n 3, 1), (63, .iastore, 1), (64, .aload_n 0, 1), (65, .getfield 16, 3), (68, .iload 5, 2), (70, .iload 4, 2), (72, .iastore, 1), (73, .iinc 3 1, 3), (76, .iload_n 3, 1), (77, .aload_n 0, 1), (78, .getfield 40, 3), (81, .if_icmp .ne 8, 3), (84, .iconst 0, 1), (85, .istore_n 3, 1), (86, .iinc 4 1, 3), (89, .iinc 5 1, 3), (92, .goto (-53), 3), (95, .return_, 1)]
set_option maxRecDepth 20000 in
theorem oX6_resize : CtOk mX6_resize.2.1 tX6_resize := by unfold CtOk; decide +kernel
set_option maxRecDepth 20000 in
theorem kX6_resize : MK mX6_resize := ⟨tj1 49 (by rfl) rfl, tj1 2 (by rfl) rfl, by decide +kernel, by decide +kernel, by decide +kernel⟩
theorem vX6_resize : MKv mX6_resize 6 := ⟨tj1 47 (by rfl) rfl, tj1 48 (by rfl) rfl, _, _, rfl⟩
def mX6_copyFrom : Mi := (yX6_copyFrom, cX6_copyFrom, 2, none, 1)
def tX6_copyFrom : Ct := [(0, .aload_n 0, 1), (1, .aload_n 1, 1), (2, .getfield 29, 3), (5, .aload_n 1, 1), (6, .getfield 33, 3), (9, .invokevirtual 25, 3), (12, .aload_n 1, 1), (13, .getfield 9, 3), (16, .iconst 0, 1), (17, .aload_n 0, 1), (18, .getfield 9, 3), (21, .iconst 0, 1), (22, .bipush 27, 2), (24, .invokestatic 46, 3), (27, .return_, 1)]
set_option maxRecDepth 20000 in
theorem oX6_copyFrom : CtOk mX6_copyFrom.2.1 tX6_copyFrom := by unfold CtOk; decide +kernel
set_option maxRecDepth 20000 in
theorem kX6_copyFrom : MK mX6_copyFrom := ⟨tj2 184 (by rfl) rfl, tj1 2 (by rfl) rfl, by decide +kernel, by decide +kernel, by decide +kernel⟩
theorem vX6_copyFrom : MKv mX6_copyFrom 6 := ⟨tj2 182 (by rfl) rfl, tj2 183 (by rfl) rfl, _, _, rfl⟩
def mX6_takeTable : Mi := (yX6_takeTable, cX6_takeTable, 4, some .int, 1)
def tX6_takeTable : Ct := [(0, .iconst 0, 1), (1, .istore_n 2, 1), (2, .iconst 0, 1), (3, .istore_n 3, 1), (4, .iload_n 3, 1), (5, .aload_n 0, 1), (6, .getfield 43, 3), (9, .if_icmp .ge 38, 3), (12, .iload_n 2, 1), (13, .aload_n 0, 1), (14, .getfield 9, 3), (17, .iload_n 3, 1), (18, .iaload, 1), (19, .aload_n 1, 1), (20, .iload_n 3, 1), (21, .iaload, 1), (22, .if_icmp .ne 7, 3), (25, .iconst 0, 1), (26, .goto 4, 3), (29, .iconst 1, 1), (30, .iadd, 1), (31, .istore_n 2, 1), (32, .aload_n 0, 1), (33, .getfield 9, 3), (36, .iload_n 3, 1), (37, .aload_n 1, 1), (38, .iload_n 3, 1), (39, .iaload, 1), (40, .iastore, 1), (41, .iinc 3 1, 3), (44, .goto (-40), 3), (47, .iload_n 2, 1), (48, .ireturn, 1)]
set_option maxRecDepth 20000 in
theorem oX6_takeTable : CtOk mX6_takeTable.2.1 tX6_takeTable := by unfold CtOk; decide +kernel
set_option maxRecDepth 20000 in
theorem kX6_takeTable : MK mX6_takeTable := ⟨tj2 114 (by rfl) rfl, tj1 2 (by rfl) rfl, by decide +kernel, by decide +kernel, by decide +kernel⟩
theorem vX6_takeTable : MKv mX6_takeTable 6 := ⟨tj2 112 (by rfl) rfl, tj2 113 (by rfl) rfl, _, _, rfl⟩
def mX6_countOfWords : Mi := (yX6_countOfWords, cX6_countOfWords, 4, some .int, 1)
def tX6_countOfWords : Ct := [(0, .iconst 1, 1), (1, .istore_n 2, 1), (2, .iconst 0, 1), (3, .istore_n 3, 1), (4, .iload_n 3, 1), (5, .iload_n 1, 1), (6, .if_icmp .ge 16, 3), (9, .iload_n 2, 1), (10, .aload_n 0, 1), (11, .getfield 29, 3), (14, .imul, 1), (15, .istore_n 2, 1), (16, .iinc 3 1, 3), (19, .goto (-15), 3), (22, .iload_n 2, 1), (23, .ireturn, 1)]
set_option maxRecDepth 20000 in
theorem oX6_countOfWords : CtOk mX6_countOfWords.2.1 tX6_countOfWords := by unfold CtOk; decide +kernel
set_option maxRecDepth 20000 in
theorem kX6_countOfWords : MK mX6_countOfWords := ⟨tj1 53 (by rfl) rfl, tj1 2 (by rfl) rfl, by decide +kernel, by decide +kernel, by decide +kernel⟩
theorem vX6_countOfWords : MKv mX6_countOfWords 6 := ⟨tj1 51 (by rfl) rfl, tj1 52 (by rfl) rfl, _, _, rfl⟩
def mX6_countOfRules : Mi := (yX6_countOfRules, cX6_countOfRules, 4, some .long, 0)
def tX6_countOfRules : Ct := [(0, .lconst 1, 1), (1, .lstore_n 1, 1), (2, .iconst 0, 1), (3, .istore_n 3, 1), (4, .iload_n 3, 1), (5, .aload_n 0, 1), (6, .getfield 43, 3), (9, .if_icmp .ge 17, 3), (12, .lload_n 1, 1), (13, .aload_n 0, 1), (14, .getfield 29, 3), (17, .i2l, 1), (18, .lmul, 1), (19, .lstore_n 1, 1), (20, .iinc 3 1, 3), (23, .goto (-19), 3), (26, .lload_n 1, 1), (27, .lreturn, 1)]
set_option maxRecDepth 20000 in
theorem oX6_countOfRules : CtOk mX6_countOfRules.2.1 tX6_countOfRules := by unfold CtOk; decide +kernel
set_option maxRecDepth 20000 in
theorem kX6_countOfRules : MK mX6_countOfRules := ⟨tj3 115 (by rfl) rfl, tj1 2 (by rfl) rfl, by decide +kernel, by decide +kernel, by decide +kernel⟩
theorem vX6_countOfRules : MKv mX6_countOfRules 6 := ⟨tj3 113 (by rfl) rfl, tj3 114 (by rfl) rfl, _, _, rfl⟩
def mX6_numberOf : Mi := (yX6_numberOf, cX6_numberOf, 5, some .long, 1)
def tX6_numberOf : Ct := [(0, .lconst 0, 1), (1, .lstore_n 2, 1), (2, .aload_n 0, 1), (3, .getfield 43, 3), (6, .iconst 1, 1), (7, .isub, 1), (8, .istore 4, 2), (10, .iload 4, 2), (12, .ifCond .lt 23, 3), (15, .lload_n 2, 1), (16, .aload_n 0, 1), (17, .getfield 29, 3), (20, .i2l, 1), (21, .lmul, 1), (22, .aload_n 1, 1), (23, .iload 4, 2), (25, .iaload, 1), (26, .i2l, 1), (27, .ladd, 1), (28, .lstore_n 2, 1), (29, .iinc 4 (-1), 3), (32, .goto (-22), 3), (35, .lload_n 2, 1), (36, .lreturn, 1)]
set_option maxRecDepth 20000 in
theorem oX6_numberOf : CtOk mX6_numberOf.2.1 tX6_numberOf := by unfold CtOk; decide +kernel
set_option maxRecDepth 20000 in
theorem kX6_numberOf : MK mX6_numberOf := ⟨tj2 90 (by rfl) rfl, tj1 2 (by rfl) rfl, by decide +kernel, by decide +kernel, by decide +kernel⟩
theorem vX6_numberOf : MKv mX6_numberOf 6 := ⟨tj2 88 (by rfl) rfl, tj2 89 (by rfl) rfl, _, _, rfl⟩
def mX6_spreadNumber : Mi := (yX6_spreadNumber, cX6_spreadNumber, 7, none, 2)
def tX6_spreadNumber : Ct := [(0, .lload_n 1, 1), (1, .lstore 4, 2), (3, .iconst 0, 1), (4, .istore 6, 2), (6, .iload 6, 2), (8, .aload_n 0, 1), (9, .getfield 43, 3), (12, .if_icmp .ge 62, 3), (15, .aload_n 3, 1), (16, .iload 6, 2), (18, .aload_n 0, 1), (19, .getfield 29, 3), (22, .iconst 2, 1), (23, .if_icmp .ne 12, 3), (26, .lload 4, 2), (28, .ldc2_w 52, 3), (31, .lrem, 1), (32, .goto 9, 3), (35, .lload 4, 2), (37, .ldc2_w 54, 3), (40, .lrem, 1), (41, .l2i, 1), (42, .iastore, 1), (43, .aload_n 0, 1), (44, .getfield 29, 3), (47, .iconst 2, 1), (48, .if_icmp .ne 12, 3), (51, .lload 4, 2), (53, .ldc2_w 52, 3), (56, .ldiv, 1), (57, .goto 9, 3), (60, .lload 4, 2), (62, .ldc2_w 54, 3), (65, .ldiv, 1), (66, .lstore 4, 2), (68, .iinc 6 1, 3), (71, .goto (-65), 3), (74, .return_, 1)]
set_option maxRecDepth 20000 in
theorem oX6_spreadNumber : CtOk mX6_spreadNumber.2.1 tX6_spreadNumber := by unfold CtOk; decide +kernel
set_option maxRecDepth 20000 in
theorem kX6_spreadNumber : MK mX6_spreadNumber := ⟨tj3 120 (by rfl) rfl, tj1 2 (by rfl) rfl, by decide +kernel, by decide +kernel, by decide +kernel⟩
theorem vX6_spreadNumber : MKv mX6_spreadNumber 6 := ⟨tj3 118 (by rfl) rfl, tj3 119 (by rfl) rfl, _, _, rfl⟩
def mX6_lastCell : Mi := (yX6_lastCell, cX6_lastCell, 2, some .int, 1)
def tX6_lastCell : Ct := [(0, .aload_n 0, 1), (1, .getfield 29, 3), (4, .iconst 2, 1), (5, .if_icmp .ne 9, 3), (8, .iload_n 1, 1), (9, .iconst 2, 1), (10, .irem, 1), (11, .goto 6, 3), (14, .iload_n 1, 1), (15, .iconst 3, 1), (16, .irem, 1), (17, .ireturn, 1)]
set_option maxRecDepth 20000 in
theorem oX6_lastCell : CtOk mX6_lastCell.2.1 tX6_lastCell := by unfold CtOk; decide +kernel
set_option maxRecDepth 20000 in
theorem kX6_lastCell : MK mX6_lastCell := ⟨tj2 106 (by rfl) rfl, tj1 2 (by rfl) rfl, by decide +kernel, by decide +kernel, by decide +kernel⟩
theorem vX6_lastCell : MKv mX6_lastCell 6 := ⟨tj2 104 (by rfl) rfl, tj2 105 (by rfl) rfl, _, _, rfl⟩
def mX6_withoutLastCell : Mi := (yX6_withoutLastCell, cX6_withoutLastCell, 2, some .int, 1)
def tX6_withoutLastCell : Ct := [(0, .aload_n 0, 1), (1, .getfield 29, 3), (4, .iconst 2, 1), (5, .if_icmp .ne 9, 3), (8, .iload_n 1, 1), (9, .iconst 2, 1), (10, .idiv, 1), (11, .goto 6, 3), (14, .iload_n 1, 1), (15, .iconst 3, 1), (16, .idiv, 1), (17, .ireturn, 1)]
set_option maxRecDepth 20000 in
theorem oX6_withoutLastCell : CtOk mX6_withoutLastCell.2.1 tX6_withoutLastCell := by unfold CtOk; decide +kernel
set_option maxRecDepth 20000 in
theorem kX6_withoutLastCell : MK mX6_withoutLastCell := ⟨tj2 110 (by rfl) rfl, tj1 2 (by rfl) rfl, by decide +kernel, by decide +kernel, by decide +kernel⟩
theorem vX6_withoutLastCell : MKv mX6_withoutLastCell 6 := ⟨tj2 108 (by rfl) rfl, tj2 109 (by rfl) rfl, _, _, rfl⟩
def mX6_cellOf : Mi := (yX6_cellOf, cX6_cellOf, 6, some .int, 3)
def tX6_cellOf : Ct := [(0, .iload_n 1, 1), (1, .istore 4, 2), (3, .iload_n 2, 1), (4, .iconst 1, 1), (5, .isub, 1), (6, .istore 5, 2), (8, .iload 5, 2), (10, .iload_n 3, 1), (11, .if_icmp .le 17, 3), (14, .aload_n 0, 1), (15, .iload 4, 2), (17, .invokevirtual 56, 3), (20, .istore 4, 2), (22, .iinc 5 (-1), 3), (25, .goto (-17), 3), (28, .aload_n 0, 1), (29, .iload 4, 2), (31, .invokevirtual 59, 3), (34, .ireturn, 1)]
set_option maxRecDepth 20000 in
theorem oX6_cellOf : CtOk mX6_cellOf.2.1 tX6_cellOf := by unfold CtOk; decide +kernel
set_option maxRecDepth 20000 in
theorem kX6_cellOf : MK mX6_cellOf := ⟨tj4 73 (by rfl) rfl, tj1 2 (by rfl) rfl, by decide +kernel, by decide +kernel, by decide +kernel⟩
theorem vX6_cellOf : MKv mX6_cellOf 6 := ⟨tj4 71 (by rfl) rfl, tj4 72 (by rfl) rfl, _, _, rfl⟩
def mX6_spreadWord : Mi := (yX6_spreadWord, cX6_spreadWord, 6, none, 3)
def tX6_spreadWord : Ct := [(0, .iload_n 1, 1), (1, .istore 4, 2), (3, .iload_n 2, 1), (4, .iconst 1, 1), (5, .isub, 1), (6, .istore 5, 2), (8, .iload 5, 2), (10, .ifCond .lt 27, 3), (13, .aload_n 3, 1), (14, .iload 5, 2), (16, .aload_n 0, 1), (17, .iload 4, 2), (19, .invokevirtual 59, 3), (22, .iastore, 1), (23, .aload_n 0, 1), (24, .iload 4, 2), (26, .invokevirtual 56, 3), (29, .istore 4, 2), (31, .iinc 5 (-1), 3), (34, .goto (-26), 3), (37, .return_, 1)]
set_option maxRecDepth 20000 in
theorem oX6_spreadWord : CtOk mX6_spreadWord.2.1 tX6_spreadWord := by unfold CtOk; decide +kernel
set_option maxRecDepth 20000 in
theorem kX6_spreadWord : MK mX6_spreadWord := ⟨tj2 102 (by rfl) rfl, tj1 2 (by rfl) rfl, by decide +kernel, by decide +kernel, by decide +kernel⟩
theorem vX6_spreadWord : MKv mX6_spreadWord 6 := ⟨tj2 100 (by rfl) rfl, tj2 101 (by rfl) rfl, _, _, rfl⟩
def mX6_mirrorTable : Mi := (yX6_mirrorTable, cX6_mirrorTable, 6, none, 2)
def tX6_mirrorTable : Ct := [(0, .iconst 0, 1), (1, .istore_n 3, 1), (2, .iload_n 3, 1), (3, .aload_n 0, 1), (4, .getfield 43, 3), (7, .if_icmp .ge 68, 3), (10, .aload_n 0, 1), (11, .iload_n 3, 1), (12, .aload_n 0, 1), (13, .getfield 33, 3), (16, .aload_n 0, 1), (17, .getfield 19, 3), (20, .invokevirtual 62, 3), (23, .iconst 0, 1), (24, .istore 4, 2), (26, .aload_n 0, 1), (27, .getfield 33, 3), (30, .iconst 1, 1), (31, .isub, 1), (32, .istore 5, 2), (34, .iload 5, 2), (36, .ifCond .lt 26, 3), (39, .iload 4, 2), (41, .aload_n 0, 1), (42, .getfield 29, 3), (45, .imul, 1), (46, .aload_n 0, 1), (47, .getfield 19, 3), (50, .iload 5, 2), (52, .iaload, 1), (53, .iadd, 1), (54, .istore 4, 2), (56, .iinc 5 (-1), 3), (59, .goto (-25), 3), (62, .aload_n 2, 1), (63, .iload_n 3, 1), (64, .aload_n 1, 1), (65, .iload 4, 2), (67, .iaload, 1), (68, .iastore, 1), (69, .iinc 3 1, 3), (72, .goto (-70), 3), (75, .return_, 1)]
set_option maxRecDepth 20000 in
theorem oX6_mirrorTable : CtOk mX6_mirrorTable.2.1 tX6_mirrorTable := by unfold CtOk; decide +kernel
set_option maxRecDepth 20000 in
theorem kX6_mirrorTable : MK mX6_mirrorTable := ⟨tj2 98 (by rfl) rfl, tj1 2 (by rfl) rfl, by decide +kernel, by decide +kernel, by decide +kernel⟩
theorem vX6_mirrorTable : MKv mX6_mirrorTable 6 := ⟨tj2 96 (by rfl) rfl, tj2 97 (by rfl) rfl, _, _, rfl⟩
def mX6_complementTable : Mi := (yX6_complementTable, cX6_complementTable, 4, none, 2)
def tX6_complementTable : Ct := [(0, .iconst 0, 1), (1, .istore_n 3, 1), (2, .iload_n 3, 1), (3, .aload_n 0, 1), (4, .getfield 43, 3), (7, .if_icmp .ge 29, 3), (10, .aload_n 2, 1), (11, .iload_n 3, 1), (12, .aload_n 0, 1), (13, .getfield 29, 3), (16, .iconst 1, 1), (17, .isub, 1), (18, .aload_n 1, 1), (19, .aload_n 0, 1), (20, .getfield 43, 3), (23, .iconst 1, 1), (24, .isub, 1), (25, .iload_n 3, 1), (26, .isub, 1), (27, .iaload, 1), (28, .isub, 1), (29, .iastore, 1), (30, .iinc 3 1, 3), (33, .goto (-31), 3), (36, .return_, 1)]
set_option maxRecDepth 20000 in
theorem oX6_complementTable : CtOk mX6_complementTable.2.1 tX6_complementTable := by unfold CtOk; decide +kernel
set_option maxRecDepth 20000 in
theorem kX6_complementTable : MK mX6_complementTable := ⟨tj2 122 (by rfl) rfl, tj1 2 (by rfl) rfl, by decide +kernel, by decide +kernel, by decide +kernel⟩
theorem vX6_complementTable : MKv mX6_complementTable 6 := ⟨tj2 120 (by rfl) rfl, tj2 121 (by rfl) rfl, _, _, rfl⟩
def mX6_isLeftPermutive : Mi := (yX6_isLeftPermutive, cX6_isLeftPermutive, 2, some .boolean, 0)
def tX6_isLeftPermutive : Ct := [(0, .iconst 0, 1), (1, .istore_n 1, 1), (2, .iload_n 1, 1), (3, .aload_n 0, 1), (4, .getfield 40, 3), (7, .if_icmp .ge 23, 3), (10, .aload_n 0, 1), (11, .iload_n 1, 1), (12, .aload_n 0, 1), (13, .getfield 40, 3), (16, .invokevirtual 66, 3), (19, .ifCond .ne 5, 3), (22, .iconst 0, 1), (23, .ireturn, 1), (24, .iinc 1 1, 3), (27, .goto (-25), 3), (30, .iconst 1, 1), (31, .ireturn, 1)]
set_option maxRecDepth 20000 in
theorem oX6_isLeftPermutive : CtOk mX6_isLeftPermutive.2.1 tX6_isLeftPermutive := by unfold CtOk; decide +kernel
set_option maxRecDepth 20000 in
theorem kX6_isLeftPermutive : MK mX6_isLeftPermutive := ⟨tj6 71 (by rfl) rfl, tj1 2 (by rfl) rfl, by decide +kernel, by decide +kernel, by decide +kernel⟩
theorem vX6_isLeftPermutive : MKv mX6_isLeftPermutive 6 := ⟨tj6 69 (by rfl) rfl, tj6 70 (by rfl) rfl, _, _, rfl⟩
def mX6_isRightPermutive : Mi := (yX6_isRightPermutive, cX6_isRightPermutive, 2, some .boolean, 0)
def tX6_isRightPermutive : Ct := [(0, .iconst 0, 1), (1, .istore_n 1, 1), (2, .iload_n 1, 1), (3, .aload_n 0, 1), (4, .getfield 40, 3), (7, .if_icmp .ge 25, 3), (10, .aload_n 0, 1), (11, .iload_n 1, 1), (12, .aload_n 0, 1), (13, .getfield 29, 3), (16, .imul, 1), (17, .iconst 1, 1), (18, .invokevirtual 66, 3), (21, .ifCond .ne 5, 3), (24, .iconst 0, 1), (25, .ireturn, 1), (26, .iinc 1 1, 3), (29, .goto (-27), 3), (32, .iconst 1, 1), (33, .ireturn, 1)]
set_option maxRecDepth 20000 in
theorem oX6_isRightPermutive : CtOk mX6_isRightPermutive.2.1 tX6_isRightPermutive := by unfold CtOk; decide +kernel
set_option maxRecDepth 20000 in
theorem kX6_isRightPermutive : MK mX6_isRightPermutive := ⟨tj6 79 (by rfl) rfl, tj1 2 (by rfl) rfl, by decide +kernel, by decide +kernel, by decide +kernel⟩
theorem vX6_isRightPermutive : MKv mX6_isRightPermutive 6 := ⟨tj6 77 (by rfl) rfl, tj6 78 (by rfl) rfl, _, _, rfl⟩
def mX6_areDifferent : Mi := (yX6_areDifferent, cX6_areDifferent, 5, some .boolean, 2)
def tX6_areDifferent : Ct := [(0, .iconst 0, 1), (1, .istore_n 3, 1), (2, .iconst 0, 1), (3, .istore 4, 2), (5, .iload 4, 2), (7, .aload_n 0, 1), (8, .getfield 29, 3), (11, .if_icmp .ge 25, 3), (14, .iload_n 3, 1), (15, .iconst 1, 1), (16, .aload_n 0, 1), (17, .getfield 9, 3), (20, .iload_n 1, 1), (21, .iload 4, 2), (23, .iload_n 2, 1), (24, .imul, 1), (25, .iadd, 1), (26, .iaload, 1), (27, .ishl, 1), (28, .ior, 1), (29, .istore_n 3, 1), (30, .iinc 4 1, 3), (33, .goto (-28), 3), (36, .iload_n 3, 1), (37, .iconst 1, 1), (38, .aload_n 0, 1), (39, .getfield 29, 3), (42, .ishl, 1), (43, .iconst 1, 1), (44, .isub, 1), (45, .if_icmp .ne 7, 3), (48, .iconst 1, 1), (49, .goto 4, 3), (52, .iconst 0, 1), (53, .ireturn, 1)]
set_option maxRecDepth 20000 in
theorem oX6_areDifferent : CtOk mX6_areDifferent.2.1 tX6_areDifferent := by unfold CtOk; decide +kernel
set_option maxRecDepth 20000 in
theorem kX6_areDifferent : MK mX6_areDifferent := ⟨tj6 75 (by rfl) rfl, tj1 2 (by rfl) rfl, by decide +kernel, by decide +kernel, by decide +kernel⟩
theorem vX6_areDifferent : MKv mX6_areDifferent 6 := ⟨tj6 74 (by rfl) rfl, tb0 28 (by rfl) rfl, _, _, rfl⟩
def mX6_isBalanced : Mi := (yX6_isBalanced, cX6_isBalanced, 2, some .boolean, 0)
def tX6_isBalanced : Ct := [(0, .aload_n 0, 1), (1, .getfield 22, 3), (4, .iconst 0, 1), (5, .invokestatic 70, 3), (8, .iconst 0, 1), (9, .istore_n 1, 1), (10, .iload_n 1, 1), (11, .aload_n 0, 1), (12, .getfield 43, 3), (15, .if_icmp .ge 24, 3), (18, .aload_n 0, 1), (19, .getfield 22, 3), (22, .aload_n 0, 1), (23, .getfield 9, 3), (26, .iload_n 1, 1), (27, .iaload, 1), (28, .dup2, 1), (29, .iaload, 1), (30, .iconst 1, 1), (31, .iadd, 1), (32, .iastore, 1), (33, .iinc 1 1, 3), (36, .goto (-26), 3), (39, .iconst 0, 1), (40, .istore_n 1, 1), (41, .iload_n 1, 1), (42, .aload_n 0, 1), (43, .getfield 29, 3), (46, .if_icmp .ge 24, 3), (49, .aload_n 0, 1), (50, .getfield 22, 3), (53, .iload_n 1, 1), (54, .iaload, 1), (55, .aload_n 0, 1), (56, .getfield 40, 3), (59, .if_icmp .eq 5, 3), (62, .iconst 0, 1), (63, .ireturn, 1), (64, .iinc 1 1, 3), (67, .goto (-26), 3), (70, .iconst 1, 1), (71, .ireturn, 1)]
set_option maxRecDepth 20000 in
theorem oX6_isBalanced : CtOk mX6_isBalanced.2.1 tX6_isBalanced := by unfold CtOk; decide +kernel
set_option maxRecDepth 20000 in
theorem kX6_isBalanced : MK mX6_isBalanced := ⟨tj6 83 (by rfl) rfl, tj1 2 (by rfl) rfl, by decide +kernel, by decide +kernel, by decide +kernel⟩
theorem vX6_isBalanced : MKv mX6_isBalanced 6 := ⟨tj6 81 (by rfl) rfl, tj6 82 (by rfl) rfl, _, _, rfl⟩
def mX7_explore : Mi := (yX7_explore, cX7_explore, 5, none, 1)
def tX7_explore : Ct := [(0, .aload_n 0, 1), (1, .aload_n 1, 1), (2, .invokevirtual 40, 3), (5, .aload_n 0, 1), (6, .getfield 17, 3), (9, .iconst (-1), 1), (10, .invokestatic 44, 3), (13, .aload_n 0, 1), (14, .iconst 0, 1), (15, .putfield 7, 3), (18, .aload_n 0, 1), (19, .iconst 1, 1), (20, .aload_n 1, 1), (21, .getfield 50, 3), (24, .ishl, 1), (25, .iconst 1, 1), (26, .isub, 1), (27, .iconst 0, 1), (28, .iconst 0, 1), (29, .invokevirtual 53, 3), (32, .pop, 1), (33, .iconst 0, 1), (34, .istore_n 2, 1), (35, .iload_n 2, 1), (36, .aload_n 0, 1), (37, .getfield 7, 3), (40, .if_icmp .ge 86, 3), (43, .iload_n 2, 1), (44, .sipush 512, 3), (47, .if_icmp .ge 79, 3), (50, .iconst 0, 1), (51, .istore_n 3, 1), (52, .iload_n 3, 1), (53, .aload_n 1, 1), (54, .getfield 57, 3), (57, .if_icmp .ge 63, 3), (60, .aload_n 0, 1), (61, .aload_n 1, 1), (62, .aload_n 0, 1), (63, .getfield 13, 3), (66, .iload_n 2, 1), (67, .iaload, 1), (68, .iload_n 3, 1), (69, .invokevirtual 60, 3), (72, .istore 4, 2), (74, .aload_n 0, 1), (75, .getfield 28, 3), (78, .iload_n 2, 1), (79, .aload_n 1, 1), (80, .getfield 57, 3), (83, .imul, 1), (84, .iload_n 3, 1), (85, .iadd, 1), (86, .aload_n 0, 1), (87, .iload 4, 2), (89, .aload_n 0, 1), (90, .getfield 20, 3), (93, .iload_n 2, 1), (94, .iaload, 1), (95, .iconst 1, 1), (96, .iadd, 1), (97, .aload_n 0, 1), (98, .getfield 23, 3), (101, .iload_n 2, 1), (102, .iaload, 1), (103, .aload_n 1, 1), (104, .getfield 57, 3), (107, .imul, 1), (108, .iload_n 3, 1), (109, .iadd, 1), (110, .invokevirtual 53, 3), (113, .iastore, 1), (114, .iinc 3 1, 3), (117, .goto (-65), 3), (120, .iinc 2 1, 3), (123, .goto (-88), 3), (126, .return_, 1)]
set_option maxRecDepth 20000 in
theorem oX7_explore : CtOk mX7_explore.2.1 tX7_explore := by unfold CtOk; decide +kernel
set_option maxRecDepth 20000 in
theorem kX7_explore : MK mX7_explore := ⟨tj2 137 (by rfl) rfl, tj1 7 (by rfl) rfl, by decide +kernel, by decide +kernel, by decide +kernel⟩
theorem vX7_explore : MKv mX7_explore 7 := ⟨tj2 135 (by rfl) rfl, tj2 136 (by rfl) rfl, _, _, rfl⟩
def mX7_readSingle : Mi := (yX7_readSingle, cX7_readSingle, 5, none, 1)
def tX7_readSingle : Ct := [(0, .aload_n 0, 1), (1, .getfield 31, 3), (4, .iconst 0, 1), (5, .invokestatic 44, 3), (8, .iconst 0, 1), (9, .istore_n 2, 1), (10, .iload_n 2, 1), (11, .aload_n 1, 1), (12, .getfield 50, 3), (15, .if_icmp .ge 66, 3), (18, .iconst 0, 1), (19, .istore_n 3, 1), (20, .iload_n 3, 1), (21, .aload_n 1, 1), (22, .getfield 57, 3), (25, .if_icmp .ge 50, 3), (28, .iload_n 2, 1), (29, .aload_n 1, 1), (30, .getfield 57, 3), (33, .imul, 1), (34, .iload_n 3, 1), (35, .iadd, 1), (36, .istore 4, 2), (38, .aload_n 0, 1), (39, .getfield 31, 3), (42, .iload_n 2, 1), (43, .aload_n 1, 1), (44, .getfield 57, 3), (47, .imul, 1), (48, .aload_n 1, 1), (49, .getfield 64, 3), (52, .iload 4, 2), (54, .iaload, 1), (55, .iadd, 1), (56, .dup2, 1), (57, .iaload, 1), (58, .iconst 1, 1), (59, .aload_n 1, 1), (60, .getfield 67, 3), (63, .iload 4, 2), (65, .iaload, 1), (66, .ishl, 1), (67, .ior, 1), (68, .iastore, 1), (69, .iinc 3 1, 3), (72, .goto (-52), 3), (75, .iinc 2 1, 3), (78, .goto (-68), 3), (81, .return_, 1)]
set_option maxRecDepth 20000 in
theorem oX7_readSingle : CtOk mX7_readSingle.2.1 tX7_readSingle := by unfold CtOk; decide +kernel
set_option maxRecDepth 20000 in
theorem kX7_readSingle : MK mX7_readSingle := ⟨tj2 141 (by rfl) rfl, tj1 7 (by rfl) rfl, by decide +kernel, by decide +kernel, by decide +kernel⟩
theorem vX7_readSingle : MKv mX7_readSingle 7 := ⟨tj2 140 (by rfl) rfl, tb0 0 (by rfl) rfl, _, _, rfl⟩
def mX7_successors : Mi := (yX7_successors, cX7_successors, 6, some .int, 3)
def tX7_successors : Ct := [(0, .iconst 0, 1), (1, .istore 4, 2), (3, .iconst 0, 1), (4, .istore 5, 2), (6, .iload 5, 2), (8, .aload_n 1, 1), (9, .getfield 50, 3), (12, .if_icmp .ge 37, 3), (15, .iload_n 2, 1), (16, .iload 5, 2), (18, .iushr, 1), (19, .iconst 1, 1), (20, .iand, 1), (21, .ifCond .eq 22, 3), (24, .iload 4, 2), (26, .aload_n 0, 1), (27, .getfield 31, 3), (30, .iload 5, 2), (32, .aload_n 1, 1), (33, .getfield 57, 3), (36, .imul, 1), (37, .iload_n 3, 1), (38, .iadd, 1), (39, .iaload, 1), (40, .ior, 1), (41, .istore 4, 2), (43, .iinc 5 1, 3), (46, .goto (-40), 3), (49, .iload 4, 2), (51, .ireturn, 1)]
set_option maxRecDepth 20000 in
theorem oX7_successors : CtOk mX7_successors.2.1 tX7_successors := by unfold CtOk; decide +kernel
set_option maxRecDepth 20000 in
theorem kX7_successors : MK mX7_successors := ⟨tj2 152 (by rfl) rfl, tj1 7 (by rfl) rfl, by decide +kernel, by decide +kernel, by decide +kernel⟩
theorem vX7_successors : MKv mX7_successors 7 := ⟨tj2 151 (by rfl) rfl, tb0 2 (by rfl) rfl, _, _, rfl⟩
def mX7_placeOf : Mi := (yX7_placeOf, cX7_placeOf, 4, some .int, 3)
def tX7_placeOf : Ct := [(0, .aload_n 0, 1), (1, .getfield 17, 3), (4, .iload_n 1, 1), (5, .iaload, 1), (6, .ifCond .ge 53, 3), (9, .aload_n 0, 1), (10, .getfield 17, 3), (13, .iload_n 1, 1), (14, .aload_n 0, 1), (15, .getfield 7, 3), (18, .iastore, 1), (19, .aload_n 0, 1), (20, .getfield 13, 3), (23, .aload_n 0, 1), (24, .getfield 7, 3), (27, .iload_n 1, 1), (28, .iastore, 1), (29, .aload_n 0, 1), (30, .getfield 20, 3), (33, .aload_n 0, 1), (34, .getfield 7, 3), (37, .iload_n 2, 1), (38, .iastore, 1), (39, .aload_n 0, 1), (40, .getfield 23, 3), (43, .aload_n 0, 1), (44, .getfield 7, 3), (47, .iload_n 3, 1), (48, .iastore, 1), (49, .aload_n 0, 1), (50, .dup, 1), (51, .getfield 7, 3), (54, .iconst 1, 1), (55, .iadd, 1), (56, .putfield 7, 3), (59, .aload_n 0, 1), (60, .getfield 17, 3), (63, .iload_n 1, 1), (64, .iaload, 1), (65, .ireturn, 1)]
set_option maxRecDepth 20000 in
theorem oX7_placeOf : CtOk mX7_placeOf.2.1 tX7_placeOf := by unfold CtOk; decide +kernel
set_option maxRecDepth 20000 in
theorem kX7_placeOf : MK mX7_placeOf := ⟨tj2 148 (by rfl) rfl, tj1 7 (by rfl) rfl, by decide +kernel, by decide +kernel, by decide +kernel⟩
theorem vX7_placeOf : MKv mX7_placeOf 7 := ⟨tj2 147 (by rfl) rfl, tb0 1 (by rfl) rfl, _, _, rfl⟩
def mX7_isWithoutOrphans : Mi := (yX7_isWithoutOrphans, cX7_isWithoutOrphans, 1, some .boolean, 0)
def tX7_isWithoutOrphans : Ct := [(0, .aload_n 0, 1), (1, .getfield 17, 3), (4, .iconst 0, 1), (5, .iaload, 1), (6, .ifCond .ge 7, 3), (9, .iconst 1, 1), (10, .goto 4, 3), (13, .iconst 0, 1), (14, .ireturn, 1)]
set_option maxRecDepth 20000 in
theorem oX7_isWithoutOrphans : CtOk mX7_isWithoutOrphans.2.1 tX7_isWithoutOrphans := by unfold CtOk; decide +kernel
set_option maxRecDepth 20000 in
theorem kX7_isWithoutOrphans : MK mX7_isWithoutOrphans := ⟨tj6 36 (by rfl) rfl, tj1 7 (by rfl) rfl, by decide +kernel, by decide +kernel, by decide +kernel⟩
theorem vX7_isWithoutOrphans : MKv mX7_isWithoutOrphans 7 := ⟨tj6 34 (by rfl) rfl, tj6 35 (by rfl) rfl, _, _, rfl⟩
def mX7_orphanLength : Mi := (yX7_orphanLength, cX7_orphanLength, 1, some .int, 0)
def tX7_orphanLength : Ct := [(0, .aload_n 0, 1), (1, .getfield 17, 3), (4, .iconst 0, 1), (5, .iaload, 1), (6, .ifCond .ge 7, 3), (9, .iconst 0, 1), (10, .goto 14, 3), (13, .aload_n 0, 1), (14, .getfield 20, 3), (17, .aload_n 0, 1), (18, .getfield 17, 3), (21, .iconst 0, 1), (22, .iaload, 1), (23, .iaload, 1), (24, .ireturn, 1)]
set_option maxRecDepth 20000 in
theorem oX7_orphanLength : CtOk mX7_orphanLength.2.1 tX7_orphanLength := by unfold CtOk; decide +kernel
set_option maxRecDepth 20000 in
theorem kX7_orphanLength : MK mX7_orphanLength := ⟨tj6 55 (by rfl) rfl, tj1 7 (by rfl) rfl, by decide +kernel, by decide +kernel, by decide +kernel⟩
theorem vX7_orphanLength : MKv mX7_orphanLength 7 := ⟨tj6 53 (by rfl) rfl, tj6 54 (by rfl) rfl, _, _, rfl⟩
def mX7_orphanIndex : Mi := (yX7_orphanIndex, cX7_orphanIndex, 1, some .int, 0)
def tX7_orphanIndex : Ct := [(0, .aload_n 0, 1), (1, .getfield 17, 3), (4, .iconst 0, 1), (5, .iaload, 1), (6, .ifCond .ge 7, 3), (9, .iconst 0, 1), (10, .goto 14, 3), (13, .aload_n 0, 1), (14, .getfield 23, 3), (17, .aload_n 0, 1), (18, .getfield 17, 3), (21, .iconst 0, 1), (22, .iaload, 1), (23, .iaload, 1), (24, .ireturn, 1)]
set_option maxRecDepth 20000 in
theorem oX7_orphanIndex : CtOk mX7_orphanIndex.2.1 tX7_orphanIndex := by unfold CtOk; decide +kernel
set_option maxRecDepth 20000 in
theorem kX7_orphanIndex : MK mX7_orphanIndex := ⟨tj6 60 (by rfl) rfl, tj1 7 (by rfl) rfl, by decide +kernel, by decide +kernel, by decide +kernel⟩
theorem vX7_orphanIndex : MKv mX7_orphanIndex 7 := ⟨tj6 58 (by rfl) rfl, tj6 59 (by rfl) rfl, _, _, rfl⟩
def mX7_countOrphans : Mi := (yX7_countOrphans, cX7_countOrphans, 4, some .int, 2)
def tX7_countOrphans : Ct := [(0, .aload_n 0, 1), (1, .invokevirtual 70, 3), (4, .ifCond .eq 5, 3), (7, .iconst 0, 1), (8, .ireturn, 1), (9, .aload_n 0, 1), (10, .getfield 34, 3), (13, .iconst 0, 1), (14, .invokestatic 44, 3), (17, .aload_n 0, 1), (18, .getfield 34, 3), (21, .iconst 0, 1), (22, .iconst 1, 1), (23, .iastore, 1), (24, .iconst 0, 1), (25, .istore_n 3, 1), (26, .iload_n 3, 1), (27, .iload_n 2, 1), (28, .if_icmp .ge 14, 3), (31, .aload_n 0, 1), (32, .aload_n 1, 1), (33, .invokevirtual 74, 3), (36, .iinc 3 1, 3), (39, .goto (-13), 3), (42, .aload_n 0, 1), (43, .getfield 34, 3), (46, .aload_n 0, 1), (47, .getfield 17, 3), (50, .iconst 0, 1), (51, .iaload, 1), (52, .iaload, 1), (53, .ireturn, 1)]
set_option maxRecDepth 20000 in
theorem oX7_countOrphans : CtOk mX7_countOrphans.2.1 tX7_countOrphans := by unfold CtOk; decide +kernel
set_option maxRecDepth 20000 in
theorem kX7_countOrphans : MK mX7_countOrphans := ⟨tj6 32 (by rfl) rfl, tj1 7 (by rfl) rfl, by decide +kernel, by decide +kernel, by decide +kernel⟩
theorem vX7_countOrphans : MKv mX7_countOrphans 7 := ⟨tj6 30 (by rfl) rfl, tj6 31 (by rfl) rfl, _, _, rfl⟩
def mX7_countNext : Mi := (yX7_countNext, cX7_countNext, 4, none, 1)
def tX7_countNext : Ct := [(0, .aload_n 0, 1), (1, .getfield 37, 3), (4, .iconst 0, 1), (5, .aload_n 0, 1), (6, .getfield 7, 3), (9, .iconst 0, 1), (10, .invokestatic 77, 3), (13, .iconst 0, 1), (14, .istore_n 2, 1), (15, .iload_n 2, 1), (16, .aload_n 0, 1), (17, .getfield 7, 3), (20, .if_icmp .ge 61, 3), (23, .aload_n 0, 1), (24, .getfield 34, 3), (27, .iload_n 2, 1), (28, .iaload, 1), (29, .ifCond .eq 46, 3), (32, .iconst 0, 1), (33, .istore_n 3, 1), (34, .iload_n 3, 1), (35, .aload_n 1, 1), (36, .getfield 57, 3), (39, .if_icmp .ge 36, 3), (42, .aload_n 0, 1), (43, .getfield 37, 3), (46, .aload_n 0, 1), (47, .getfield 28, 3), (50, .iload_n 2, 1), (51, .aload_n 1, 1), (52, .getfield 57, 3), (55, .imul, 1), (56, .iload_n 3, 1), (57, .iadd, 1), (58, .iaload, 1), (59, .dup2, 1), (60, .iaload, 1), (61, .aload_n 0, 1), (62, .getfield 34, 3), (65, .iload_n 2, 1), (66, .iaload, 1), (67, .iadd, 1), (68, .iastore, 1), (69, .iinc 3 1, 3), (72, .goto (-38), 3), (75, .iinc 2 1, 3), (78, .goto (-63), 3), (81, .aload_n 0, 1), (82, .getfield 37, 3), (85, .iconst 0, 1), (86, .aload_n 0, 1), (87, .getfield 34, 3), (90, .iconst 0, 1), (91, .aload_n 0, 1), (92, .getfield 7, 3), (95, .invokestatic 80, 3), (98, .return_, 1)]
set_option maxRecDepth 20000 in
theorem oX7_countNext : CtOk mX7_countNext.2.1 tX7_countNext := by unfold CtOk; decide +kernel
set_option maxRecDepth 20000 in
theorem kX7_countNext : MK mX7_countNext := ⟨tj6 40 (by rfl) rfl, tj1 7 (by rfl) rfl, by decide +kernel, by decide +kernel, by decide +kernel⟩
theorem vX7_countNext : MKv mX7_countNext 7 := ⟨tj6 39 (by rfl) rfl, tb0 27 (by rfl) rfl, _, _, rfl⟩
def mX8_setSize : Mi := (yX8_setSize, cX8_setSize, 3, some .int, 2)
def tX8_setSize : Ct := [(0, .iload_n 1, 1), (1, .iload_n 2, 1), (2, .invokestatic 82, 3), (5, .ifCond .ne 13, 3), (8, .new 86, 3), (11, .dup, 1), (12, .ldc 88, 2), (14, .invokespecial 90, 3), (17, .athrow, 1), (18, .aload_n 0, 1), (19, .getfield 10, 3), (22, .iload_n 1, 1), (23, .iload_n 2, 1), (24, .invokevirtual 93, 3), (27, .aload_n 0, 1), (28, .getfield 22, 3), (31, .invokevirtual 97, 3), (34, .aload_n 0, 1), (35, .getfield 10, 3), (38, .getfield 100, 3), (41, .ireturn, 1)]
set_option maxRecDepth 20000 in
theorem oX8_setSize : CtOk mX8_setSize.2.1 tX8_setSize := by unfold CtOk; decide +kernel
set_option maxRecDepth 20000 in
theorem kX8_setSize : MK mX8_setSize := ⟨tj2 200 (by rfl) rfl, tj1 1 (by rfl) rfl, by decide +kernel, by decide +kernel, by decide +kernel⟩
theorem vX8_setSize : MKv mX8_setSize 8 := ⟨tj2 198 (by rfl) rfl, tj2 199 (by rfl) rfl, _, _, rfl⟩
def mX8_size : Mi := (yX8_size, cX8_size, 2, some .int, 1)
def tX8_size : Ct := [(0, .iload_n 1, 1), (1, .tableswitch 63 0 3 #[31, 39, 47, 55], 31), (32, .aload_n 0, 1), (33, .getfield 10, 3), (36, .getfield 104, 3), (39, .ireturn, 1), (40, .aload_n 0, 1), (41, .getfield 10, 3), (44, .getfield 107, 3), (47, .ireturn, 1), (48, .aload_n 0, 1), (49, .getfield 10, 3), (52, .getfield 100, 3), (55, .ireturn, 1), (56, .aload_n 0, 1), (57, .getfield 10, 3), (60, .getfield 110, 3), (63, .ireturn, 1), (64, .new 113, 3), (67, .dup, 1), (68, .ldc 115, 2), (70, .invokespecial 117, 3), (73, .athrow, 1)]
set_option maxRecDepth 20000 in
theorem oX8_size : CtOk mX8_size.2.1 tX8_size := by unfold CtOk; decide +kernel
set_option maxRecDepth 20000 in
theorem kX8_size : MK mX8_size := ⟨tj3 71 (by rfl) rfl, tj1 1 (by rfl) rfl, by decide +kernel, by decide +kernel, by decide +kernel⟩
theorem vX8_size : MKv mX8_size 8 := ⟨tj3 69 (by rfl) rfl, tj3 70 (by rfl) rfl, _, _, rfl⟩
def mX8_setOutput : Mi := (yX8_setOutput, cX8_setOutput, 4, some .int, 2)
def tX8_setOutput : Ct := [(0, .aload_n 0, 1), (1, .iload_n 1, 1), (2, .invokevirtual 118, 3), (5, .iload_n 2, 1), (6, .ifCond .lt 14, 3), (9, .iload_n 2, 1), (10, .aload_n 0, 1), (11, .getfield 10, 3), (14, .getfield 104, 3), (17, .if_icmp .lt 13, 3), (20, .new 86, 3), (23, .dup, 1), (24, .ldc 122, 2), (26, .invokespecial 90, 3), (29, .athrow, 1), (30, .aload_n 0, 1), (31, .getfield 10, 3), (34, .getfield 124, 3), (37, .iload_n 1, 1), (38, .iaload, 1), (39, .istore_n 3, 1), (40, .aload_n 0, 1), (41, .getfield 10, 3), (44, .getfield 124, 3), (47, .iload_n 1, 1), (48, .iload_n 2, 1), (49, .iastore, 1), (50, .iload_n 3, 1), (51, .ireturn, 1)]
set_option maxRecDepth 20000 in
theorem oX8_setOutput : CtOk mX8_setOutput.2.1 tX8_setOutput := by unfold CtOk; decide +kernel
set_option maxRecDepth 20000 in
theorem kX8_setOutput : MK mX8_setOutput := ⟨tj3 91 (by rfl) rfl, tj1 1 (by rfl) rfl, by decide +kernel, by decide +kernel, by decide +kernel⟩
theorem vX8_setOutput : MKv mX8_setOutput 8 := ⟨tj3 89 (by rfl) rfl, tj3 90 (by rfl) rfl, _, _, rfl⟩
def mX8_output : Mi := (yX8_output, cX8_output, 2, some .int, 1)
def tX8_output : Ct := [(0, .aload_n 0, 1), (1, .iload_n 1, 1), (2, .invokevirtual 118, 3), (5, .aload_n 0, 1), (6, .getfield 10, 3), (9, .getfield 124, 3), (12, .iload_n 1, 1), (13, .iaload, 1), (14, .ireturn, 1)]
set_option maxRecDepth 20000 in
theorem oX8_output : CtOk mX8_output.2.1 tX8_output := by unfold CtOk; decide +kernel
set_option maxRecDepth 20000 in
theorem kX8_output : MK mX8_output := ⟨tj3 104 (by rfl) rfl, tj1 1 (by rfl) rfl, by decide +kernel, by decide +kernel, by decide +kernel⟩
theorem vX8_output : MKv mX8_output 8 := ⟨tj3 102 (by rfl) rfl, tj3 103 (by rfl) rfl, _, _, rfl⟩
def mX8_setNumber : Mi := (yX8_setNumber, cX8_setNumber, 3, some .int, 1)
def tX8_setNumber : Ct := [(0, .lload_n 1, 1), (1, .lconst 0, 1), (2, .lcmp, 1), (3, .ifCond .lt 15, 3), (6, .lload_n 1, 1), (7, .aload_n 0, 1), (8, .getfield 10, 3), (11, .invokevirtual 127, 3), (14, .lcmp, 1), (15, .ifCond .lt 13, 3), (18, .new 86, 3), (21, .dup, 1), (22, .ldc 131, 2), (24, .invokespecial 90, 3), (27, .athrow, 1), (28, .aload_n 0, 1), (29, .getfield 10, 3), (32, .lload_n 1, 1), (33, .aload_n 0, 1), (34, .getfield 75, 3), (37, .invokevirtual 133, 3), (40, .aload_n 0, 1), (41, .getfield 10, 3), (44, .aload_n 0, 1), (45, .getfield 75, 3), (48, .invokevirtual 137, 3), (51, .ireturn, 1)]
set_option maxRecDepth 20000 in
theorem oX8_setNumber : CtOk mX8_setNumber.2.1 tX8_setNumber := by unfold CtOk; decide +kernel
set_option maxRecDepth 20000 in
theorem kX8_setNumber : MK mX8_setNumber := ⟨tj3 111 (by rfl) rfl, tj1 1 (by rfl) rfl, by decide +kernel, by decide +kernel, by decide +kernel⟩
theorem vX8_setNumber : MKv mX8_setNumber 8 := ⟨tj3 109 (by rfl) rfl, tj3 110 (by rfl) rfl, _, _, rfl⟩
def mX8_number : Mi := (yX8_number, cX8_number, 1, some .long, 0)
def tX8_number : Ct := [(0, .aload_n 0, 1), (1, .getfield 10, 3), (4, .aload_n 0, 1), (5, .getfield 10, 3), (8, .getfield 124, 3), (11, .invokevirtual 141, 3), (14, .lreturn, 1)]
set_option maxRecDepth 20000 in
theorem oX8_number : CtOk mX8_number.2.1 tX8_number := by unfold CtOk; decide +kernel
set_option maxRecDepth 20000 in
theorem kX8_number : MK mX8_number := ⟨tj2 86 (by rfl) rfl, tj1 1 (by rfl) rfl, by decide +kernel, by decide +kernel, by decide +kernel⟩
theorem vX8_number : MKv mX8_number 8 := ⟨tj2 84 (by rfl) rfl, tj2 85 (by rfl) rfl, _, _, rfl⟩
def mX8_append : Mi := (yX8_append, cX8_append, 5, some .int, 1)
def tX8_append : Ct := [(0, .iconst 0, 1), (1, .istore_n 2, 1), (2, .bipush 24, 2), (4, .istore_n 3, 1), (5, .iload_n 3, 1), (6, .ifCond .lt 58, 3), (9, .iload_n 1, 1), (10, .iload_n 3, 1), (11, .invokestatic 145, 3), (14, .istore 4, 2), (16, .iload 4, 2), (18, .ifCond .eq 27, 3), (21, .iload 4, 2), (23, .bipush 33, 2), (25, .if_icmp .lt 10, 3), (28, .iload 4, 2), (30, .bipush 126, 2), (32, .if_icmp .le 13, 3), (35, .new 86, 3), (38, .dup, 1), (39, .ldc 149, 2), (41, .invokespecial 90, 3), (44, .athrow, 1), (45, .iload_n 2, 1), (46, .iload 4, 2), (48, .ifCond .ne 7, 3), (51, .iconst 0, 1), (52, .goto 4, 3), (55, .iconst 1, 1), (56, .iadd, 1), (57, .istore_n 2, 1), (58, .iinc 3 (-8), 3), (61, .goto (-56), 3), (64, .aload_n 0, 1), (65, .getfield 36, 3), (68, .getfield 151, 3), (71, .iload_n 2, 1), (72, .iadd, 1), (73, .bipush 40, 2), (75, .if_icmp .le 13, 3), (78, .new 154, 3), (81, .dup, 1), (82, .ldc 156, 2), (84, .invokespecial 158, 3), (87, .athrow, 1), (88, .bipush 24, 2), (90, .istore_n 3, 1), (91, .iload_n 3, 1), (92, .ifCond .lt 30, 3), (95, .iload_n 1, 1), (96, .iload_n 3, 1), (97, .invokestatic 145, 3), (100, .istore 4, 2), (102, .iload 4, 2), (104, .ifCond .eq 12, 3), (107, .aload_n 0, 1), (108, .getfield 36, 3), (111, .iload 4, 2), (113, .invokevirtual 159, 3), (116, .iinc 3 (-8), 3), (119, .goto (-28), 3), (122, .aload_n 0, 1), (123, .getfield 36, 3), (126, .getfield 151, 3), (129, .ireturn, 1)]
set_option maxRecDepth 20000 in
theorem oX8_append : CtOk mX8_append.2.1 tX8_append := by unfold CtOk; decide +kernel
set_option maxRecDepth 20000 in
theorem kX8_append : MK mX8_append := ⟨tj3 130 (by rfl) rfl, tj1 1 (by rfl) rfl, by decide +kernel, by decide +kernel, by decide +kernel⟩
theorem vX8_append : MKv mX8_append 8 := ⟨tj3 128 (by rfl) rfl, tj3 129 (by rfl) rfl, _, _, rfl⟩
def mX8_compile : Mi := (yX8_compile, cX8_compile, 1, some .int, 0)
def tX8_compile : Ct := [(0, .aload_n 0, 1), (1, .getfield 36, 3), (4, .aload_n 0, 1), (5, .getfield 10, 3), (8, .getfield 107, 3), (11, .invokevirtual 162, 3), (14, .aload_n 0, 1), (15, .getfield 36, 3), (18, .getfield 165, 3), (21, .ifCond .ne 18, 3), (24, .aload_n 0, 1), (25, .getfield 36, 3), (28, .aload_n 0, 1), (29, .getfield 10, 3), (32, .aload_n 0, 1), (33, .getfield 75, 3), (36, .invokevirtual 168, 3), (39, .aload_n 0, 1), (40, .getfield 36, 3), (43, .iconst 0, 1), (44, .putfield 151, 3), (47, .aload_n 0, 1), (48, .getfield 36, 3), (51, .getfield 165, 3), (54, .ifCond .ne 15, 3), (57, .aload_n 0, 1), (58, .getfield 10, 3), (61, .aload_n 0, 1), (62, .getfield 75, 3), (65, .invokevirtual 137, 3), (68, .ireturn, 1), (69, .aload_n 0, 1), (70, .getfield 36, 3), (73, .getfield 165, 3), (76, .iconst 4, 1), (77, .if_icmp .eq 14, 3), (80, .aload_n 0, 1), (81, .getfield 36, 3), (84, .getfield 165, 3), (87, .iconst 5, 1), (88, .if_icmp .ne 13, 3), (91, .new 172, 3), (94, .dup, 1), (95, .ldc 174, 2), (97, .invokespecial 176, 3), (100, .athrow, 1), (101, .new 86, 3), (104, .dup, 1), (105, .ldc 177, 2), (107, .invokespecial 90, 3), (110, .athrow, 1)]
set_option maxRecDepth 20000 in
theorem oX8_compile : CtOk mX8_compile.2.1 tX8_compile := by unfold CtOk; decide +kernel
set_option maxRecDepth 20000 in
theorem kX8_compile : MK mX8_compile := ⟨tj3 175 (by rfl) rfl, tj1 1 (by rfl) rfl, by decide +kernel, by decide +kernel, by decide +kernel⟩
theorem vX8_compile : MKv mX8_compile 8 := ⟨tj3 173 (by rfl) rfl, tj3 174 (by rfl) rfl, _, _, rfl⟩
def mX8_error : Mi := (yX8_error, cX8_error, 2, some .int, 1)
def tX8_error : Ct := [(0, .iload_n 1, 1), (1, .invokestatic 179, 3), (4, .iload_n 1, 1), (5, .ifCond .ne 13, 3), (8, .aload_n 0, 1), (9, .getfield 36, 3), (12, .getfield 165, 3), (15, .goto 10, 3), (18, .aload_n 0, 1), (19, .getfield 36, 3), (22, .getfield 182, 3), (25, .ireturn, 1)]
set_option maxRecDepth 20000 in
theorem oX8_error : CtOk mX8_error.2.1 tX8_error := by unfold CtOk; decide +kernel
set_option maxRecDepth 20000 in
theorem kX8_error : MK mX8_error := ⟨tj4 7 (by rfl) rfl, tj1 1 (by rfl) rfl, by decide +kernel, by decide +kernel, by decide +kernel⟩
theorem vX8_error : MKv mX8_error 8 := ⟨tj4 5 (by rfl) rfl, tj4 6 (by rfl) rfl, _, _, rfl⟩
def mX8_mirror : Mi := (yX8_mirror, cX8_mirror, 1, some .int, 0)
def tX8_mirror : Ct := [(0, .aload_n 0, 1), (1, .getfield 10, 3), (4, .aload_n 0, 1), (5, .getfield 10, 3), (8, .getfield 124, 3), (11, .aload_n 0, 1), (12, .getfield 75, 3), (15, .invokevirtual 185, 3), (18, .aload_n 0, 1), (19, .getfield 10, 3), (22, .aload_n 0, 1), (23, .getfield 75, 3), (26, .invokevirtual 137, 3), (29, .ireturn, 1)]
set_option maxRecDepth 20000 in
theorem oX8_mirror : CtOk mX8_mirror.2.1 tX8_mirror := by unfold CtOk; decide +kernel
set_option maxRecDepth 20000 in
theorem kX8_mirror : MK mX8_mirror := ⟨tj2 94 (by rfl) rfl, tj1 1 (by rfl) rfl, by decide +kernel, by decide +kernel, by decide +kernel⟩
theorem vX8_mirror : MKv mX8_mirror 8 := ⟨tj2 92 (by rfl) rfl, tj2 93 (by rfl) rfl, _, _, rfl⟩
def mX8_complement : Mi := (yX8_complement, cX8_complement, 1, some .int, 0)
def tX8_complement : Ct := [(0, .aload_n 0, 1), (1, .getfield 10, 3), (4, .aload_n 0, 1), (5, .getfield 10, 3), (8, .getfield 124, 3), (11, .aload_n 0, 1), (12, .getfield 75, 3), (15, .invokevirtual 189, 3), (18, .aload_n 0, 1), (19, .getfield 10, 3), (22, .aload_n 0, 1), (23, .getfield 75, 3), (26, .invokevirtual 137, 3), (29, .ireturn, 1)]
set_option maxRecDepth 20000 in
theorem oX8_complement : CtOk mX8_complement.2.1 tX8_complement := by unfold CtOk; decide +kernel
set_option maxRecDepth 20000 in
theorem kX8_complement : MK mX8_complement := ⟨tj2 118 (by rfl) rfl, tj1 1 (by rfl) rfl, by decide +kernel, by decide +kernel, by decide +kernel⟩
theorem vX8_complement : MKv mX8_complement 8 := ⟨tj2 116 (by rfl) rfl, tj2 117 (by rfl) rfl, _, _, rfl⟩
def mX8_leastNumber : Mi := (yX8_leastNumber, cX8_leastNumber, 3, some .long, 0)
def tX8_leastNumber : Ct := [(0, .aload_n 0, 1), (1, .getfield 10, 3), (4, .aload_n 0, 1), (5, .getfield 10, 3), (8, .getfield 124, 3), (11, .invokevirtual 141, 3), (14, .lstore_n 1, 1), (15, .aload_n 0, 1), (16, .getfield 10, 3), (19, .aload_n 0, 1), (20, .getfield 10, 3), (23, .getfield 124, 3), (26, .aload_n 0, 1), (27, .getfield 75, 3), (30, .invokevirtual 189, 3), (33, .lload_n 1, 1), (34, .aload_n 0, 1), (35, .getfield 10, 3), (38, .aload_n 0, 1), (39, .getfield 75, 3), (42, .invokevirtual 141, 3), (45, .invokestatic 192, 3), (48, .lstore_n 1, 1), (49, .aload_n 0, 1), (50, .getfield 10, 3), (53, .aload_n 0, 1), (54, .getfield 10, 3), (57, .getfield 124, 3), (60, .aload_n 0, 1), (61, .getfield 79, 3), (64, .invokevirtual 185, 3), (67, .lload_n 1, 1), (68, .aload_n 0, 1), (69, .getfield 10, 3), (72, .aload_n 0, 1), (73, .getfield 79, 3), (76, .invokevirtual 141, 3), (79, .invokestatic 192, 3), (82, .lstore_n 1, 1), (83, .aload_n 0, 1), (84, .getfield 10, 3), (87, .aload_n 0, 1), (88, .getfield 79, 3), (91, .aload_n 0, 1), (92, .getfield 75, 3), (95, .invokevirtual 189, 3), (98, .lload_n 1, 1), (99, .aload_n 0, 1), (100, .getfield 10, 3), (103, .aload_n 0, 1), (104, .getfield 75, 3), (107, .invokevirtual 141, 3), (110, .invokestatic 192, 3), (113, .lreturn, 1)]
set_option maxRecDepth 20000 in
theorem oX8_leastNumber : CtOk mX8_leastNumber.2.1 tX8_leastNumber := by unfold CtOk; decide +kernel
set_option maxRecDepth 20000 in
theorem kX8_leastNumber : MK mX8_leastNumber := ⟨tj2 126 (by rfl) rfl, tj1 1 (by rfl) rfl, by decide +kernel, by decide +kernel, by decide +kernel⟩
theorem vX8_leastNumber : MKv mX8_leastNumber 8 := ⟨tj2 124 (by rfl) rfl, tj2 125 (by rfl) rfl, _, _, rfl⟩
def mX8_compose : Mi := (yX8_compose, cX8_compose, 4, some .int, 0)
def tX8_compose : Ct := [(0, .aload_n 0, 1), (1, .getfield 29, 3), (4, .ifCond .eq 20, 3), (7, .aload_n 0, 1), (8, .getfield 16, 3), (11, .getfield 104, 3), (14, .aload_n 0, 1), (15, .getfield 10, 3), (18, .getfield 104, 3), (21, .if_icmp .eq 13, 3), (24, .new 154, 3), (27, .dup, 1), (28, .ldc 198, 2), (30, .invokespecial 158, 3), (33, .athrow, 1), (34, .aload_n 0, 1), (35, .getfield 10, 3), (38, .getfield 107, 3), (41, .aload_n 0, 1), (42, .getfield 16, 3), (45, .getfield 107, 3), (48, .iadd, 1), (49, .iconst 1, 1), (50, .isub, 1), (51, .istore_n 1, 1), (52, .aload_n 0, 1), (53, .getfield 10, 3), (56, .getfield 104, 3), (59, .iload_n 1, 1), (60, .invokestatic 82, 3), (63, .ifCond .ne 13, 3), (66, .new 154, 3), (69, .dup, 1), (70, .ldc 200, 2), (72, .invokespecial 158, 3), (75, .athrow, 1), (76, .aload_n 0, 1), (77, .getfield 10, 3), (80, .iload_n 1, 1), (81, .invokevirtual 202, 3), (84, .istore_n 2, 1), (85, .iconst 0, 1), (86, .istore_n 3, 1), (87, .iload_n 3, 1), (88, .iload_n 2, 1), (89, .if_icmp .ge 46, 3), (92, .aload_n 0, 1), (93, .getfield 75, 3), (96, .iload_n 3, 1), (97, .aload_n 0, 1), (98, .getfield 43, 3), (101, .aload_n 0, 1), (102, .getfield 10, 3), (105, .aload_n 0, 1), (106, .getfield 10, 3), (109, .getfield 107, 3), (112, .aload_n 0, 1), (113, .getfield 43, 3), (116, .aload_n 0, 1), (117, .getfield 16, 3), (120, .iload_n 1, 1), (121, .iload_n 3, 1), (122, .invokevirtual 206, 3), (125, .invokevirtual 206, 3), (128, .iastore, 1), (129, .iinc 3 1, 3), (132, .goto (-45), 3), (135, .aload_n 0, 1), (136, .getfield 10, 3), (139, .aload_n 0, 1), (140, .getfield 10, 3), (143, .getfield 104, 3), (146, .iload_n 1, 1), (147, .invokevirtual 93, 3), (150, .aload_n 0, 1), (151, .getfield 10, 3), (154, .aload_n 0, 1), (155, .getfield 75, 3), (158, .invokevirtual 137, 3), (161, .pop, 1), (162, .iload_n 1, 1), (163, .ireturn, 1)]
set_option maxRecDepth 20000 in
theorem oX8_compose : CtOk mX8_compose.2.1 tX8_compose := by unfold CtOk; decide +kernel
set_option maxRecDepth 20000 in
theorem kX8_compose : MK mX8_compose := ⟨tj4 18 (by rfl) rfl, tj1 1 (by rfl) rfl, by decide +kernel, by decide +kernel, by decide +kernel⟩
theorem vX8_compose : MKv mX8_compose 8 := ⟨tj4 16 (by rfl) rfl, tj4 17 (by rfl) rfl, _, _, rfl⟩
def mX8_setWord : Mi := (yX8_setWord, cX8_setWord, 5, some .int, 3)
def tX8_setWord : Ct := [(0, .iload_n 1, 1), (1, .invokestatic 210, 3), (4, .iload_n 2, 1), (5, .ifCond .lt 9, 3), (8, .iload_n 2, 1), (9, .bipush 14, 2), (11, .if_icmp .le 13, 3), (14, .new 86, 3), (17, .dup, 1), (18, .ldc 213, 2), (20, .invokespecial 90, 3), (23, .athrow, 1), (24, .iload_n 3, 1), (25, .ifCond .lt 15, 3), (28, .iload_n 3, 1), (29, .aload_n 0, 1), (30, .getfield 10, 3), (33, .iload_n 2, 1), (34, .invokevirtual 202, 3), (37, .if_icmp .lt 13, 3), (40, .new 86, 3), (43, .dup, 1), (44, .ldc 215, 2), (46, .invokespecial 90, 3), (49, .athrow, 1), (50, .aload_n 0, 1), (51, .getfield 22, 3), (54, .getfield 217, 3), (57, .iload_n 1, 1), (58, .iaload, 1), (59, .istore 4, 2), (61, .aload_n 0, 1), (62, .getfield 22, 3), (65, .iload_n 1, 1), (66, .iload_n 2, 1), (67, .iload_n 3, 1), (68, .invokevirtual 220, 3), (71, .iload 4, 2), (73, .ireturn, 1)]
set_option maxRecDepth 20000 in
theorem oX8_setWord : CtOk mX8_setWord.2.1 tX8_setWord := by unfold CtOk; decide +kernel
set_option maxRecDepth 20000 in
theorem kX8_setWord : MK mX8_setWord := ⟨tj4 37 (by rfl) rfl, tj1 1 (by rfl) rfl, by decide +kernel, by decide +kernel, by decide +kernel⟩
theorem vX8_setWord : MKv mX8_setWord 8 := ⟨tj4 35 (by rfl) rfl, tj4 36 (by rfl) rfl, _, _, rfl⟩
def mX8_wordLength : Mi := (yX8_wordLength, cX8_wordLength, 2, some .int, 1)
def tX8_wordLength : Ct := [(0, .iload_n 1, 1), (1, .invokestatic 210, 3), (4, .aload_n 0, 1), (5, .getfield 22, 3), (8, .getfield 217, 3), (11, .iload_n 1, 1), (12, .iaload, 1), (13, .ireturn, 1)]
set_option maxRecDepth 20000 in
theorem oX8_wordLength : CtOk mX8_wordLength.2.1 tX8_wordLength := by unfold CtOk; decide +kernel
set_option maxRecDepth 20000 in
theorem kX8_wordLength : MK mX8_wordLength := ⟨tj4 54 (by rfl) rfl, tj1 1 (by rfl) rfl, by decide +kernel, by decide +kernel, by decide +kernel⟩
theorem vX8_wordLength : MKv mX8_wordLength 8 := ⟨tj4 52 (by rfl) rfl, tj4 53 (by rfl) rfl, _, _, rfl⟩
def mX8_wordIndex : Mi := (yX8_wordIndex, cX8_wordIndex, 2, some .int, 1)
def tX8_wordIndex : Ct := [(0, .iload_n 1, 1), (1, .invokestatic 210, 3), (4, .aload_n 0, 1), (5, .getfield 22, 3), (8, .getfield 224, 3), (11, .iload_n 1, 1), (12, .iaload, 1), (13, .ireturn, 1)]
set_option maxRecDepth 20000 in
theorem oX8_wordIndex : CtOk mX8_wordIndex.2.1 tX8_wordIndex := by unfold CtOk; decide +kernel
set_option maxRecDepth 20000 in
theorem kX8_wordIndex : MK mX8_wordIndex := ⟨tj4 61 (by rfl) rfl, tj1 1 (by rfl) rfl, by decide +kernel, by decide +kernel, by decide +kernel⟩
theorem vX8_wordIndex : MKv mX8_wordIndex 8 := ⟨tj4 59 (by rfl) rfl, tj4 60 (by rfl) rfl, _, _, rfl⟩
def mX8_cell : Mi := (yX8_cell, cX8_cell, 4, some .int, 2)
def tX8_cell : Ct := [(0, .iload_n 1, 1), (1, .invokestatic 210, 3), (4, .aload_n 0, 1), (5, .getfield 22, 3), (8, .getfield 217, 3), (11, .iload_n 1, 1), (12, .iaload, 1), (13, .istore_n 3, 1), (14, .iload_n 2, 1), (15, .ifCond .lt 8, 3), (18, .iload_n 2, 1), (19, .iload_n 3, 1), (20, .if_icmp .lt 13, 3), (23, .new 113, 3), (26, .dup, 1), (27, .ldc 227, 2), (29, .invokespecial 117, 3), (32, .athrow, 1), (33, .aload_n 0, 1), (34, .getfield 10, 3), (37, .aload_n 0, 1), (38, .getfield 22, 3), (41, .getfield 224, 3), (44, .iload_n 1, 1), (45, .iaload, 1), (46, .iload_n 3, 1), (47, .iload_n 2, 1), (48, .invokevirtual 229, 3), (51, .ireturn, 1)]
set_option maxRecDepth 20000 in
theorem oX8_cell : CtOk mX8_cell.2.1 tX8_cell := by unfold CtOk; decide +kernel
set_option maxRecDepth 20000 in
theorem kX8_cell : MK mX8_cell := ⟨tj4 68 (by rfl) rfl, tj1 1 (by rfl) rfl, by decide +kernel, by decide +kernel, by decide +kernel⟩
theorem vX8_cell : MKv mX8_cell 8 := ⟨tj4 66 (by rfl) rfl, tj4 67 (by rfl) rfl, _, _, rfl⟩
def mX8_apply : Mi := (yX8_apply, cX8_apply, 5, some .int, 2)
def tX8_apply : Ct := [(0, .iload_n 1, 1), (1, .invokestatic 210, 3), (4, .aload_n 0, 1), (5, .getfield 22, 3), (8, .getfield 217, 3), (11, .iload_n 1, 1), (12, .iaload, 1), (13, .istore_n 3, 1), (14, .iload_n 3, 1), (15, .iload_n 2, 1), (16, .ifCond .eq 7, 3), (19, .iconst 1, 1), (20, .goto 10, 3), (23, .aload_n 0, 1), (24, .getfield 10, 3), (27, .getfield 107, 3), (30, .if_icmp .ge 13, 3), (33, .new 154, 3), (36, .dup, 1), (37, .ldc 233, 2), (39, .invokespecial 158, 3), (42, .athrow, 1), (43, .aload_n 0, 1), (44, .getfield 22, 3), (47, .getfield 224, 3), (50, .iload_n 1, 1), (51, .iaload, 1), (52, .istore 4, 2), (54, .iload_n 2, 1), (55, .ifCond .eq 29, 3), (58, .aload_n 0, 1), (59, .getfield 22, 3), (62, .iload_n 1, 1), (63, .iload_n 3, 1), (64, .aload_n 0, 1), (65, .getfield 43, 3), (68, .aload_n 0, 1), (69, .getfield 10, 3), (72, .iload_n 3, 1), (73, .iload 4, 2), (75, .invokevirtual 235, 3), (78, .invokevirtual 220, 3), (81, .goto 36, 3), (84, .aload_n 0, 1), (85, .getfield 22, 3), (88, .iload_n 1, 1), (89, .iload_n 3, 1), (90, .aload_n 0, 1), (91, .getfield 10, 3), (94, .getfield 107, 3), (97, .isub, 1), (98, .iconst 1, 1), (99, .iadd, 1), (100, .aload_n 0, 1), (101, .getfield 43, 3), (104, .aload_n 0, 1), (105, .getfield 10, 3), (108, .iload_n 3, 1), (109, .iload 4, 2), (111, .invokevirtual 206, 3), (114, .invokevirtual 220, 3), (117, .aload_n 0, 1), (118, .getfield 22, 3), (121, .getfield 217, 3), (124, .iload_n 1, 1), (125, .iaload, 1), (126, .ireturn, 1)]
set_option maxRecDepth 20000 in
theorem oX8_apply : CtOk mX8_apply.2.1 tX8_apply := by unfold CtOk; decide +kernel
set_option maxRecDepth 20000 in
theorem kX8_apply : MK mX8_apply := ⟨tj4 80 (by rfl) rfl, tj1 1 (by rfl) rfl, by decide +kernel, by decide +kernel, by decide +kernel⟩
theorem vX8_apply : MKv mX8_apply 8 := ⟨tj4 78 (by rfl) rfl, tj4 79 (by rfl) rfl, _, _, rfl⟩
def mX8_orbit : Mi := (yX8_orbit, cX8_orbit, 4, some .int, 2)
def tX8_orbit : Ct := [(0, .iload_n 1, 1), (1, .invokestatic 210, 3), (4, .iload_n 2, 1), (5, .invokestatic 179, 3), (8, .aload_n 0, 1), (9, .getfield 22, 3), (12, .getfield 217, 3), (15, .iload_n 1, 1), (16, .iaload, 1), (17, .istore_n 3, 1), (18, .iload_n 3, 1), (19, .ifCond .eq 9, 3), (22, .iload_n 3, 1), (23, .bipush 8, 2), (25, .if_icmp .le 13, 3), (28, .new 154, 3), (31, .dup, 1), (32, .ldc 238, 2), (34, .invokespecial 158, 3), (37, .athrow, 1), (38, .aload_n 0, 1), (39, .getfield 43, 3), (42, .aload_n 0, 1), (43, .getfield 10, 3), (46, .iload_n 3, 1), (47, .aload_n 0, 1), (48, .getfield 22, 3), (51, .getfield 224, 3), (54, .iload_n 1, 1), (55, .iaload, 1), (56, .invokevirtual 240, 3), (59, .iload_n 2, 1), (60, .ifCond .ne 13, 3), (63, .aload_n 0, 1), (64, .getfield 43, 3), (67, .getfield 244, 3), (70, .goto 10, 3), (73, .aload_n 0, 1), (74, .getfield 43, 3), (77, .getfield 247, 3), (80, .ireturn, 1)]
set_option maxRecDepth 20000 in
theorem oX8_orbit : CtOk mX8_orbit.2.1 tX8_orbit := by unfold CtOk; decide +kernel
set_option maxRecDepth 20000 in
theorem kX8_orbit : MK mX8_orbit := ⟨tj4 92 (by rfl) rfl, tj1 1 (by rfl) rfl, by decide +kernel, by decide +kernel, by decide +kernel⟩
theorem vX8_orbit : MKv mX8_orbit 8 := ⟨tj4 90 (by rfl) rfl, tj4 91 (by rfl) rfl, _, _, rfl⟩
def mX8_preimageCount : Mi := (yX8_preimageCount, cX8_preimageCount, 3, some .int, 2)
def tX8_preimageCount : Ct := [(0, .iload_n 1, 1), (1, .invokestatic 210, 3), (4, .aload_n 0, 1), (5, .iload_n 1, 1), (6, .invokevirtual 250, 3), (9, .iload_n 2, 1), (10, .ifCond .eq 17, 3), (13, .aload_n 0, 1), (14, .getfield 50, 3), (17, .aload_n 0, 1), (18, .getfield 10, 3), (21, .invokevirtual 253, 3), (24, .goto 14, 3), (27, .aload_n 0, 1), (28, .getfield 50, 3), (31, .aload_n 0, 1), (32, .getfield 10, 3), (35, .invokevirtual 257, 3), (38, .ireturn, 1)]
set_option maxRecDepth 20000 in
theorem oX8_preimageCount : CtOk mX8_preimageCount.2.1 tX8_preimageCount := by unfold CtOk; decide +kernel
set_option maxRecDepth 20000 in
theorem kX8_preimageCount : MK mX8_preimageCount := ⟨tj5 113 (by rfl) rfl, tj1 1 (by rfl) rfl, by decide +kernel, by decide +kernel, by decide +kernel⟩
theorem vX8_preimageCount : MKv mX8_preimageCount 8 := ⟨tj5 111 (by rfl) rfl, tj5 112 (by rfl) rfl, _, _, rfl⟩
def mX8_preimage : Mi := (yX8_preimage, cX8_preimage, 7, some .int, 4)
def tX8_preimage : Ct := [(0, .iload_n 1, 1), (1, .invokestatic 210, 3), (4, .iload 4, 2), (6, .invokestatic 210, 3), (9, .aload_n 0, 1), (10, .getfield 22, 3), (13, .getfield 217, 3), (16, .iload_n 1, 1), (17, .iaload, 1), (18, .iload_n 2, 1), (19, .ifCond .eq 7, 3), (22, .iconst 0, 1), (23, .goto 12, 3), (26, .aload_n 0, 1), (27, .getfield 10, 3), (30, .getfield 107, 3), (33, .iconst 1, 1), (34, .isub, 1), (35, .iadd, 1), (36, .istore 5, 2), (38, .iload 5, 2), (40, .bipush 14, 2), (42, .if_icmp .le 14, 3), (45, .new 154, 3), (48, .dup, 1), (49, .ldc_w 260, 3), (52, .invokespecial 158, 3), (55, .athrow, 1), (56, .aload_n 0, 1), (57, .iload_n 1, 1), (58, .invokevirtual 250, 3), (61, .iload_n 2, 1), (62, .ifCond .eq 18, 3), (65, .aload_n 0, 1), (66, .getfield 50, 3), (69, .aload_n 0, 1), (70, .getfield 10, 3), (73, .iload_n 3, 1), (74, .invokevirtual 262, 3), (77, .goto 15, 3), (80, .aload_n 0, 1), (81, .getfield 50, 3), (84, .aload_n 0, 1), (85, .getfield 10, 3), (88, .iload_n 3, 1), (89, .invokevirtual 266, 3), (92, .istore 6, 2), (94, .iload 6, 2), (96, .ifCond .ge 14, 3), (99, .new 269, 3), (102, .dup, 1), (103, .ldc_w 271, 3), (106, .invokespecial 273, 3), (109, .athrow, 1), (110, .aload_n 0, 1), (111, .getfield 22, 3), (114, .iload 4, 2), (116, .iload 5, 2), (118, .iload 6, 2), (120, .invokevirtual 220, 3), (123, .iload 6, 2), (125, .ireturn, 1)]
set_option maxRecDepth 20000 in
theorem oX8_preimage : CtOk mX8_preimage.2.1 tX8_preimage := by unfold CtOk; decide +kernel
set_option maxRecDepth 20000 in
theorem kX8_preimage : MK mX8_preimage := ⟨tj5 162 (by rfl) rfl, tj1 1 (by rfl) rfl, by decide +kernel, by decide +kernel, by decide +kernel⟩
theorem vX8_preimage : MKv mX8_preimage 8 := ⟨tj5 160 (by rfl) rfl, tj5 161 (by rfl) rfl, _, _, rfl⟩
def mX8_preimagesBetween : Mi := (yX8_preimagesBetween, cX8_preimagesBetween, 4, some .int, 3)
def tX8_preimagesBetween : Ct := [(0, .iload_n 1, 1), (1, .invokestatic 210, 3), (4, .aload_n 0, 1), (5, .iload_n 2, 1), (6, .invokevirtual 274, 3), (9, .aload_n 0, 1), (10, .iload_n 3, 1), (11, .invokevirtual 274, 3), (14, .aload_n 0, 1), (15, .iload_n 1, 1), (16, .invokevirtual 250, 3), (19, .aload_n 0, 1), (20, .getfield 50, 3), (23, .aload_n 0, 1), (24, .getfield 10, 3), (27, .iload_n 2, 1), (28, .iload_n 3, 1), (29, .invokevirtual 277, 3), (32, .ireturn, 1)]
set_option maxRecDepth 20000 in
theorem oX8_preimagesBetween : CtOk mX8_preimagesBetween.2.1 tX8_preimagesBetween := by unfold CtOk; decide +kernel
set_option maxRecDepth 20000 in
theorem kX8_preimagesBetween : MK mX8_preimagesBetween := ⟨tj5 202 (by rfl) rfl, tj1 1 (by rfl) rfl, by decide +kernel, by decide +kernel, by decide +kernel⟩
theorem vX8_preimagesBetween : MKv mX8_preimagesBetween 8 := ⟨tj5 200 (by rfl) rfl, tj5 201 (by rfl) rfl, _, _, rfl⟩
def mX8_wordsWith : Mi := (yX8_wordsWith, cX8_wordsWith, 3, some .int, 2)
def tX8_wordsWith : Ct := [(0, .iload_n 1, 1), (1, .iconst 0, 1), (2, .bipush 7, 2), (4, .invokestatic 280, 3), (7, .aload_n 0, 1), (8, .getfield 50, 3), (11, .aload_n 0, 1), (12, .getfield 10, 3), (15, .iload_n 1, 1), (16, .iload_n 2, 1), (17, .invokevirtual 283, 3), (20, .aload_n 0, 1), (21, .getfield 50, 3), (24, .getfield 286, 3), (27, .ireturn, 1)]
set_option maxRecDepth 20000 in
theorem oX8_wordsWith : CtOk mX8_wordsWith.2.1 tX8_wordsWith := by unfold CtOk; decide +kernel
set_option maxRecDepth 20000 in
theorem kX8_wordsWith : MK mX8_wordsWith := ⟨tj5 215 (by rfl) rfl, tj1 1 (by rfl) rfl, by decide +kernel, by decide +kernel, by decide +kernel⟩
theorem vX8_wordsWith : MKv mX8_wordsWith 8 := ⟨tj5 213 (by rfl) rfl, tj5 214 (by rfl) rfl, _, _, rfl⟩
def mX8_mostPreimages : Mi := (yX8_mostPreimages, cX8_mostPreimages, 2, some .int, 1)
def tX8_mostPreimages : Ct := [(0, .iload_n 1, 1), (1, .iconst 0, 1), (2, .bipush 7, 2), (4, .invokestatic 280, 3), (7, .aload_n 0, 1), (8, .getfield 50, 3), (11, .aload_n 0, 1), (12, .getfield 10, 3), (15, .iload_n 1, 1), (16, .iconst 0, 1), (17, .invokevirtual 283, 3), (20, .aload_n 0, 1), (21, .getfield 50, 3), (24, .getfield 289, 3), (27, .ireturn, 1)]
set_option maxRecDepth 20000 in
theorem oX8_mostPreimages : CtOk mX8_mostPreimages.2.1 tX8_mostPreimages := by unfold CtOk; decide +kernel
set_option maxRecDepth 20000 in
theorem kX8_mostPreimages : MK mX8_mostPreimages := ⟨tj5 239 (by rfl) rfl, tj1 1 (by rfl) rfl, by decide +kernel, by decide +kernel, by decide +kernel⟩
theorem vX8_mostPreimages : MKv mX8_mostPreimages 8 := ⟨tj5 237 (by rfl) rfl, tj5 238 (by rfl) rfl, _, _, rfl⟩
def mX8_fixedWords : Mi := (yX8_fixedWords, cX8_fixedWords, 2, some .int, 1)
def tX8_fixedWords : Ct := [(0, .iload_n 1, 1), (1, .iconst 1, 1), (2, .bipush 8, 2), (4, .invokestatic 280, 3), (7, .aload_n 0, 1), (8, .getfield 50, 3), (11, .aload_n 0, 1), (12, .getfield 10, 3), (15, .iload_n 1, 1), (16, .invokevirtual 292, 3), (19, .ireturn, 1)]
set_option maxRecDepth 20000 in
theorem oX8_fixedWords : CtOk mX8_fixedWords.2.1 tX8_fixedWords := by unfold CtOk; decide +kernel
set_option maxRecDepth 20000 in
theorem kX8_fixedWords : MK mX8_fixedWords := ⟨tj6 6 (by rfl) rfl, tj1 1 (by rfl) rfl, by decide +kernel, by decide +kernel, by decide +kernel⟩
theorem vX8_fixedWords : MKv mX8_fixedWords 8 := ⟨tj6 4 (by rfl) rfl, tj6 5 (by rfl) rfl, _, _, rfl⟩
def mX8_edge : Mi := (yX8_edge, cX8_edge, 5, some .int, 3)
def tX8_edge : Ct := [(0, .aload_n 0, 1), (1, .iload_n 1, 1), (2, .invokevirtual 274, 3), (5, .iload_n 2, 1), (6, .ifCond .lt 14, 3), (9, .iload_n 2, 1), (10, .aload_n 0, 1), (11, .getfield 10, 3), (14, .getfield 104, 3), (17, .if_icmp .lt 14, 3), (20, .new 113, 3), (23, .dup, 1), (24, .ldc_w 295, 3), (27, .invokespecial 117, 3), (30, .athrow, 1), (31, .iload_n 3, 1), (32, .invokestatic 179, 3), (35, .iload_n 1, 1), (36, .aload_n 0, 1), (37, .getfield 10, 3), (40, .getfield 104, 3), (43, .imul, 1), (44, .iload_n 2, 1), (45, .iadd, 1), (46, .istore 4, 2), (48, .iload_n 3, 1), (49, .ifCond .ne 16, 3), (52, .aload_n 0, 1), (53, .getfield 10, 3), (56, .getfield 297, 3), (59, .iload 4, 2), (61, .iaload, 1), (62, .goto 13, 3), (65, .aload_n 0, 1), (66, .getfield 10, 3), (69, .getfield 124, 3), (72, .iload 4, 2), (74, .iaload, 1), (75, .ireturn, 1)]
set_option maxRecDepth 20000 in
theorem oX8_edge : CtOk mX8_edge.2.1 tX8_edge := by unfold CtOk; decide +kernel
set_option maxRecDepth 20000 in
theorem kX8_edge : MK mX8_edge := ⟨tj6 20 (by rfl) rfl, tj1 1 (by rfl) rfl, by decide +kernel, by decide +kernel, by decide +kernel⟩
theorem vX8_edge : MKv mX8_edge 8 := ⟨tj6 18 (by rfl) rfl, tj6 19 (by rfl) rfl, _, _, rfl⟩
def mX8_subsets : Mi := (yX8_subsets, cX8_subsets, 1, some .int, 0)
def tX8_subsets : Ct := [(0, .aload_n 0, 1), (1, .getfield 57, 3), (4, .aload_n 0, 1), (5, .getfield 10, 3), (8, .invokevirtual 300, 3), (11, .aload_n 0, 1), (12, .getfield 57, 3), (15, .getfield 304, 3), (18, .ireturn, 1)]
set_option maxRecDepth 20000 in
theorem oX8_subsets : CtOk mX8_subsets.2.1 tX8_subsets := by unfold CtOk; decide +kernel
set_option maxRecDepth 20000 in
theorem kX8_subsets : MK mX8_subsets := ⟨tj2 133 (by rfl) rfl, tj1 1 (by rfl) rfl, by decide +kernel, by decide +kernel, by decide +kernel⟩
theorem vX8_subsets : MKv mX8_subsets 8 := ⟨tj2 131 (by rfl) rfl, tj2 132 (by rfl) rfl, _, _, rfl⟩
def mX8_orphans : Mi := (yX8_orphans, cX8_orphans, 2, some .int, 1)
def tX8_orphans : Ct := [(0, .iload_n 1, 1), (1, .iconst 0, 1), (2, .bipush 12, 2), (4, .invokestatic 280, 3), (7, .aload_n 0, 1), (8, .getfield 57, 3), (11, .aload_n 0, 1), (12, .getfield 10, 3), (15, .invokevirtual 300, 3), (18, .aload_n 0, 1), (19, .getfield 57, 3), (22, .aload_n 0, 1), (23, .getfield 10, 3), (26, .iload_n 1, 1), (27, .invokevirtual 307, 3), (30, .ireturn, 1)]
set_option maxRecDepth 20000 in
theorem oX8_orphans : CtOk mX8_orphans.2.1 tX8_orphans := by unfold CtOk; decide +kernel
set_option maxRecDepth 20000 in
theorem kX8_orphans : MK mX8_orphans := ⟨tj6 28 (by rfl) rfl, tj1 1 (by rfl) rfl, by decide +kernel, by decide +kernel, by decide +kernel⟩
theorem vX8_orphans : MKv mX8_orphans 8 := ⟨tj6 26 (by rfl) rfl, tj6 27 (by rfl) rfl, _, _, rfl⟩
def mX8_shortestOrphan : Mi := (yX8_shortestOrphan, cX8_shortestOrphan, 3, some .int, 1)
def tX8_shortestOrphan : Ct := [(0, .iload_n 1, 1), (1, .invokestatic 210, 3), (4, .aload_n 0, 1), (5, .getfield 57, 3), (8, .aload_n 0, 1), (9, .getfield 10, 3), (12, .invokevirtual 300, 3), (15, .aload_n 0, 1), (16, .getfield 57, 3), (19, .invokevirtual 310, 3), (22, .ifCond .eq 14, 3), (25, .new 269, 3), (28, .dup, 1), (29, .ldc_w 314, 3), (32, .invokespecial 273, 3), (35, .athrow, 1), (36, .aload_n 0, 1), (37, .getfield 57, 3), (40, .invokevirtual 316, 3), (43, .istore_n 2, 1), (44, .iload_n 2, 1), (45, .bipush 14, 2), (47, .if_icmp .le 14, 3), (50, .new 154, 3), (53, .dup, 1), (54, .ldc_w 320, 3), (57, .invokespecial 158, 3), (60, .athrow, 1), (61, .aload_n 0, 1), (62, .getfield 22, 3), (65, .iload_n 1, 1), (66, .iload_n 2, 1), (67, .aload_n 0, 1), (68, .getfield 57, 3), (71, .invokevirtual 322, 3), (74, .invokevirtual 220, 3), (77, .iload_n 2, 1), (78, .ireturn, 1)]
set_option maxRecDepth 20000 in
theorem oX8_shortestOrphan : CtOk mX8_shortestOrphan.2.1 tX8_shortestOrphan := by unfold CtOk; decide +kernel
set_option maxRecDepth 20000 in
theorem kX8_shortestOrphan : MK mX8_shortestOrphan := ⟨tj6 49 (by rfl) rfl, tj1 1 (by rfl) rfl, by decide +kernel, by decide +kernel, by decide +kernel⟩
theorem vX8_shortestOrphan : MKv mX8_shortestOrphan 8 := ⟨tj6 47 (by rfl) rfl, tj6 48 (by rfl) rfl, _, _, rfl⟩
def mX8_has : Mi := (yX8_has, cX8_has, 2, some .boolean, 1)
def tX8_has : Ct := [(0, .iload_n 1, 1), (1, .tableswitch 212 0 6 #[43, 62, 82, 90, 98, 106, 159], 43), (44, .aload_n 0, 1), (45, .getfield 57, 3), (48, .aload_n 0, 1), (49, .getfield 10, 3), (52, .invokevirtual 300, 3), (55, .aload_n 0, 1), (56, .getfield 57, 3), (59, .invokevirtual 310, 3), (62, .ireturn, 1), (63, .aload_n 0, 1), (64, .getfield 64, 3), (67, .aload_n 0, 1), (68, .getfield 10, 3), (71, .invokevirtual 325, 3), (74, .ifCond .ne 7, 3), (77, .iconst 1, 1), (78, .goto 4, 3), (81, .iconst 0, 1), (82, .ireturn, 1), (83, .aload_n 0, 1), (84, .getfield 10, 3), (87, .invokevirtual 328, 3), (90, .ireturn, 1), (91, .aload_n 0, 1), (92, .getfield 10, 3), (95, .invokevirtual 331, 3), (98, .ireturn, 1), (99, .aload_n 0, 1), (100, .getfield 10, 3), (103, .invokevirtual 334, 3), (106, .ireturn, 1), (107, .aload_n 0, 1), (108, .getfield 10, 3), (111, .aload_n 0, 1), (112, .getfield 10, 3), (115, .getfield 124, 3), (118, .aload_n 0, 1), (119, .getfield 75, 3), (122, .invokevirtual 185, 3), (125, .aload_n 0, 1), (126, .getfield 10, 3), (129, .aload_n 0, 1), (130, .getfield 75, 3), (133, .invokevirtual 141, 3), (136, .aload_n 0, 1), (137, .getfield 10, 3), (140, .aload_n 0, 1), (141, .getfield 10, 3), (144, .getfield 124, 3), (147, .invokevirtual 141, 3), (150, .lcmp, 1), (151, .ifCond .ne 7, 3), (154, .iconst 1, 1), (155, .goto 4, 3), (158, .iconst 0, 1), (159, .ireturn, 1), (160, .aload_n 0, 1), (161, .getfield 10, 3), (164, .aload_n 0, 1), (165, .getfield 10, 3), (168, .getfield 124, 3), (171, .aload_n 0, 1), (172, .getfield 75, 3), (175, .invokevirtual 189, 3), (178, .aload_n 0, 1), (179, .getfield 10, 3), (182, .aload_n 0, 1), (183, .getfield 75, 3), (186, .invokevirtual 141, 3), (189, .aload_n 0, 1), (190, .getfield 10, 3), (193, .aload_n 0, 1), (194, .getfield 10, 3), (197, .getfield 124, 3), (200, .invokevirtual 141, 3), (203, .lcmp, 1), (204, .ifCond .ne 7, 3), (207, .iconst 1, 1), (208, .goto 4, 3), (211, .iconst 0, 1), (212, .ireturn, 1), (213, .new 113, 3), (216, .dup, 1), (217, .ldc_w 337, 3), (220, .invokespecial 117, 3), (223, .athrow, 1)]
set_option maxRecDepth 20000 in
theorem oX8_has : CtOk mX8_has.2.1 tX8_has := by unfold CtOk; decide +kernel
set_option maxRecDepth 20000 in
theorem kX8_has : MK mX8_has := ⟨tj6 67 (by rfl) rfl, tj1 1 (by rfl) rfl, by decide +kernel, by decide +kernel, by decide +kernel⟩
theorem vX8_has : MKv mX8_has 8 := ⟨tj6 65 (by rfl) rfl, tj6 66 (by rfl) rfl, _, _, rfl⟩
def mX8_cyclicPairs : Mi := (yX8_cyclicPairs, cX8_cyclicPairs, 1, some .int, 0)
def tX8_cyclicPairs : Ct := [(0, .aload_n 0, 1), (1, .getfield 64, 3), (4, .aload_n 0, 1), (5, .getfield 10, 3), (8, .invokevirtual 325, 3), (11, .ireturn, 1)]
set_option maxRecDepth 20000 in
theorem oX8_cyclicPairs : CtOk mX8_cyclicPairs.2.1 tX8_cyclicPairs := by unfold CtOk; decide +kernel
set_option maxRecDepth 20000 in
theorem kX8_cyclicPairs : MK mX8_cyclicPairs := ⟨tj2 156 (by rfl) rfl, tj1 1 (by rfl) rfl, by decide +kernel, by decide +kernel, by decide +kernel⟩
theorem vX8_cyclicPairs : MKv mX8_cyclicPairs 8 := ⟨tj2 154 (by rfl) rfl, tj2 155 (by rfl) rfl, _, _, rfl⟩
def mX8_inverse : Mi := (yX8_inverse, cX8_inverse, 2, some .int, 1)
def tX8_inverse : Ct := [(0, .iload_n 1, 1), (1, .invokestatic 179, 3), (4, .aload_n 0, 1), (5, .invokevirtual 339, 3), (8, .iload_n 1, 1), (9, .ifCond .ne 13, 3), (12, .aload_n 0, 1), (13, .getfield 71, 3), (16, .getfield 342, 3), (19, .goto 10, 3), (22, .aload_n 0, 1), (23, .getfield 71, 3), (26, .getfield 343, 3), (29, .ireturn, 1)]
set_option maxRecDepth 20000 in
theorem oX8_inverse : CtOk mX8_inverse.2.1 tX8_inverse := by unfold CtOk; decide +kernel
set_option maxRecDepth 20000 in
theorem kX8_inverse : MK mX8_inverse := ⟨tj6 92 (by rfl) rfl, tj1 1 (by rfl) rfl, by decide +kernel, by decide +kernel, by decide +kernel⟩
theorem vX8_inverse : MKv mX8_inverse 8 := ⟨tj6 90 (by rfl) rfl, tj6 91 (by rfl) rfl, _, _, rfl⟩
def mX8_inverseOutput : Mi := (yX8_inverseOutput, cX8_inverseOutput, 2, some .int, 1)
def tX8_inverseOutput : Ct := [(0, .aload_n 0, 1), (1, .invokevirtual 339, 3), (4, .iload_n 1, 1), (5, .ifCond .lt 21, 3), (8, .iload_n 1, 1), (9, .aload_n 0, 1), (10, .getfield 10, 3), (13, .aload_n 0, 1), (14, .getfield 71, 3), (17, .getfield 342, 3), (20, .invokevirtual 202, 3), (23, .if_icmp .lt 14, 3), (26, .new 113, 3), (29, .dup, 1), (30, .ldc_w 346, 3), (33, .invokespecial 117, 3), (36, .athrow, 1), (37, .aload_n 0, 1), (38, .getfield 71, 3), (41, .aload_n 0, 1), (42, .getfield 10, 3), (45, .iload_n 1, 1), (46, .invokevirtual 348, 3), (49, .ireturn, 1)]
set_option maxRecDepth 20000 in
theorem oX8_inverseOutput : CtOk mX8_inverseOutput.2.1 tX8_inverseOutput := by unfold CtOk; decide +kernel
set_option maxRecDepth 20000 in
theorem kX8_inverseOutput : MK mX8_inverseOutput := ⟨tj6 128 (by rfl) rfl, tj1 1 (by rfl) rfl, by decide +kernel, by decide +kernel, by decide +kernel⟩
theorem vX8_inverseOutput : MKv mX8_inverseOutput 8 := ⟨tj6 126 (by rfl) rfl, tj6 127 (by rfl) rfl, _, _, rfl⟩
def mX8_save : Mi := (yX8_save, cX8_save, 1, some .long, 0)
def tX8_save : Ct := [(0, .aload_n 0, 1), (1, .getfield 16, 3), (4, .aload_n 0, 1), (5, .getfield 10, 3), (8, .invokevirtual 351, 3), (11, .aload_n 0, 1), (12, .getfield 26, 3), (15, .aload_n 0, 1), (16, .getfield 22, 3), (19, .invokevirtual 354, 3), (22, .aload_n 0, 1), (23, .iconst 1, 1), (24, .putfield 29, 3), (27, .aload_n 0, 1), (28, .getfield 10, 3), (31, .aload_n 0, 1), (32, .getfield 10, 3), (35, .getfield 124, 3), (38, .invokevirtual 141, 3), (41, .lreturn, 1)]
set_option maxRecDepth 20000 in
theorem oX8_save : CtOk mX8_save.2.1 tX8_save := by unfold CtOk; decide +kernel
set_option maxRecDepth 20000 in
theorem kX8_save : MK mX8_save := ⟨tj2 180 (by rfl) rfl, tj1 1 (by rfl) rfl, by decide +kernel, by decide +kernel, by decide +kernel⟩
theorem vX8_save : MKv mX8_save 8 := ⟨tj2 178 (by rfl) rfl, tj2 179 (by rfl) rfl, _, _, rfl⟩
def mX8_restore : Mi := (yX8_restore, cX8_restore, 1, some .long, 0)
def tX8_restore : Ct := [(0, .aload_n 0, 1), (1, .getfield 29, 3), (4, .ifCond .ne 14, 3), (7, .new 154, 3), (10, .dup, 1), (11, .ldc_w 357, 3), (14, .invokespecial 158, 3), (17, .athrow, 1), (18, .aload_n 0, 1), (19, .getfield 10, 3), (22, .aload_n 0, 1), (23, .getfield 16, 3), (26, .invokevirtual 351, 3), (29, .aload_n 0, 1), (30, .getfield 22, 3), (33, .aload_n 0, 1), (34, .getfield 26, 3), (37, .invokevirtual 354, 3), (40, .aload_n 0, 1), (41, .getfield 10, 3), (44, .aload_n 0, 1), (45, .getfield 10, 3), (48, .getfield 124, 3), (51, .invokevirtual 141, 3), (54, .lreturn, 1)]
set_option maxRecDepth 20000 in
theorem oX8_restore : CtOk mX8_restore.2.1 tX8_restore := by unfold CtOk; decide +kernel
set_option maxRecDepth 20000 in
theorem kX8_restore : MK mX8_restore := ⟨tj6 141 (by rfl) rfl, tj1 1 (by rfl) rfl, by decide +kernel, by decide +kernel, by decide +kernel⟩
theorem vX8_restore : MKv mX8_restore 8 := ⟨tj6 139 (by rfl) rfl, tj6 140 (by rfl) rfl, _, _, rfl⟩
def mX8_needRegister : Mi := (yX8_needRegister, cX8_needRegister, 1, none, 1)
def tX8_needRegister : Ct := [(0, .iload_n 0, 1), (1, .ifCond .lt 8, 3), (4, .iload_n 0, 1), (5, .iconst 4, 1), (6, .if_icmp .lt 14, 3), (9, .new 113, 3), (12, .dup, 1), (13, .ldc_w 359, 3), (16, .invokespecial 117, 3), (19, .athrow, 1), (20, .return_, 1)]
set_option maxRecDepth 20000 in
theorem oX8_needRegister : CtOk mX8_needRegister.2.1 tX8_needRegister := by unfold CtOk; decide +kernel
set_option maxRecDepth 20000 in
theorem kX8_needRegister : MK mX8_needRegister := ⟨tj4 40 (by rfl) rfl, tj1 1 (by rfl) rfl, by decide +kernel, by decide +kernel, by decide +kernel⟩
theorem sX8_needRegister : Cond.static mX8_needRegister.1 ∈ TSg := tj4 39 (by rfl) rfl
def mX8_needBit : Mi := (yX8_needBit, cX8_needBit, 1, none, 1)
def tX8_needBit : Ct := [(0, .iload_n 0, 1), (1, .ifCond .eq 19, 3), (4, .iload_n 0, 1), (5, .iconst 1, 1), (6, .if_icmp .eq 14, 3), (9, .new 113, 3), (12, .dup, 1), (13, .ldc_w 361, 3), (16, .invokespecial 117, 3), (19, .athrow, 1), (20, .return_, 1)]
set_option maxRecDepth 20000 in
theorem oX8_needBit : CtOk mX8_needBit.2.1 tX8_needBit := by unfold CtOk; decide +kernel
set_option maxRecDepth 20000 in
theorem kX8_needBit : MK mX8_needBit := ⟨tj4 10 (by rfl) rfl, tj1 1 (by rfl) rfl, by decide +kernel, by decide +kernel, by decide +kernel⟩
theorem sX8_needBit : Cond.static mX8_needBit.1 ∈ TSg := tj4 9 (by rfl) rfl
def mX8_needLength : Mi := (yX8_needLength, cX8_needLength, 3, none, 3)
def tX8_needLength : Ct := [(0, .iload_n 0, 1), (1, .iload_n 1, 1), (2, .if_icmp .lt 8, 3), (5, .iload_n 0, 1), (6, .iload_n 2, 1), (7, .if_icmp .le 13, 3), (10, .new 86, 3), (13, .dup, 1), (14, .ldc 213, 2), (16, .invokespecial 90, 3), (19, .athrow, 1), (20, .return_, 1)]
set_option maxRecDepth 20000 in
theorem oX8_needLength : CtOk mX8_needLength.2.1 tX8_needLength := by unfold CtOk; decide +kernel
set_option maxRecDepth 20000 in
theorem kX8_needLength : MK mX8_needLength := ⟨tj5 218 (by rfl) rfl, tj1 1 (by rfl) rfl, by decide +kernel, by decide +kernel, by decide +kernel⟩
theorem sX8_needLength : Cond.static mX8_needLength.1 ∈ TSg := tj5 217 (by rfl) rfl
def mX8_needNeighborhood : Mi := (yX8_needNeighborhood, cX8_needNeighborhood, 2, none, 1)
def tX8_needNeighborhood : Ct := [(0, .iload_n 1, 1), (1, .ifCond .lt 14, 3), (4, .iload_n 1, 1), (5, .aload_n 0, 1), (6, .getfield 10, 3), (9, .getfield 100, 3), (12, .if_icmp .lt 14, 3), (15, .new 113, 3), (18, .dup, 1), (19, .ldc_w 363, 3), (22, .invokespecial 117, 3), (25, .athrow, 1), (26, .return_, 1)]
set_option maxRecDepth 20000 in
theorem oX8_needNeighborhood : CtOk mX8_needNeighborhood.2.1 tX8_needNeighborhood := by unfold CtOk; decide +kernel
set_option maxRecDepth 20000 in
theorem kX8_needNeighborhood : MK mX8_needNeighborhood := ⟨tj3 95 (by rfl) rfl, tj1 1 (by rfl) rfl, by decide +kernel, by decide +kernel, by decide +kernel⟩
theorem vX8_needNeighborhood : MKv mX8_needNeighborhood 8 := ⟨tj3 94 (by rfl) rfl, tb0 5 (by rfl) rfl, _, _, rfl⟩
def mX8_needNode : Mi := (yX8_needNode, cX8_needNode, 2, none, 1)
def tX8_needNode : Ct := [(0, .iload_n 1, 1), (1, .ifCond .lt 14, 3), (4, .iload_n 1, 1), (5, .aload_n 0, 1), (6, .getfield 10, 3), (9, .getfield 110, 3), (12, .if_icmp .lt 14, 3), (15, .new 113, 3), (18, .dup, 1), (19, .ldc_w 365, 3), (22, .invokespecial 117, 3), (25, .athrow, 1), (26, .return_, 1)]
set_option maxRecDepth 20000 in
theorem oX8_needNode : CtOk mX8_needNode.2.1 tX8_needNode := by unfold CtOk; decide +kernel
set_option maxRecDepth 20000 in
theorem kX8_needNode : MK mX8_needNode := ⟨tj5 206 (by rfl) rfl, tj1 1 (by rfl) rfl, by decide +kernel, by decide +kernel, by decide +kernel⟩
theorem vX8_needNode : MKv mX8_needNode 8 := ⟨tj5 205 (by rfl) rfl, tb0 24 (by rfl) rfl, _, _, rfl⟩
def mX8_needInverse : Mi := (yX8_needInverse, cX8_needInverse, 1, none, 0)
def tX8_needInverse : Ct := [(0, .aload_n 0, 1), (1, .getfield 71, 3), (4, .aload_n 0, 1), (5, .getfield 10, 3), (8, .invokevirtual 367, 3), (11, .aload_n 0, 1), (12, .getfield 71, 3), (15, .getfield 342, 3), (18, .ifCond .ne 14, 3), (21, .new 269, 3), (24, .dup, 1), (25, .ldc_w 370, 3), (28, .invokespecial 273, 3), (31, .athrow, 1), (32, .return_, 1)]
set_option maxRecDepth 20000 in
theorem oX8_needInverse : CtOk mX8_needInverse.2.1 tX8_needInverse := by unfold CtOk; decide +kernel
set_option maxRecDepth 20000 in
theorem kX8_needInverse : MK mX8_needInverse := ⟨tj6 96 (by rfl) rfl, tj1 1 (by rfl) rfl, by decide +kernel, by decide +kernel, by decide +kernel⟩
theorem vX8_needInverse : MKv mX8_needInverse 8 := ⟨tj6 95 (by rfl) rfl, tb0 29 (by rfl) rfl, _, _, rfl⟩
def mX8_byteAt : Mi := (yX8_byteAt, cX8_byteAt, 2, some .int, 2)
def tX8_byteAt : Ct := [(0, .iload_n 0, 1), (1, .iload_n 1, 1), (2, .iushr, 1), (3, .sipush 255, 3), (6, .iand, 1), (7, .ireturn, 1)]
set_option maxRecDepth 20000 in
theorem oX8_byteAt : CtOk mX8_byteAt.2.1 tX8_byteAt := by unfold CtOk; decide +kernel
set_option maxRecDepth 20000 in
theorem kX8_byteAt : MK mX8_byteAt := ⟨tj3 133 (by rfl) rfl, tj1 1 (by rfl) rfl, by decide +kernel, by decide +kernel, by decide +kernel⟩
theorem sX8_byteAt : Cond.static mX8_byteAt.1 ∈ TSg := tj3 132 (by rfl) rfl
def mX8_takeLabels : Mi := (yX8_takeLabels, cX8_takeLabels, 2, none, 1)
def tX8_takeLabels : Ct := [(0, .aload_n 0, 1), (1, .getfield 50, 3), (4, .aload_n 0, 1), (5, .getfield 10, 3), (8, .aload_n 0, 1), (9, .getfield 22, 3), (12, .getfield 217, 3), (15, .iload_n 1, 1), (16, .iaload, 1), (17, .aload_n 0, 1), (18, .getfield 22, 3), (21, .getfield 224, 3), (24, .iload_n 1, 1), (25, .iaload, 1), (26, .invokevirtual 372, 3), (29, .return_, 1)]
set_option maxRecDepth 20000 in
theorem oX8_takeLabels : CtOk mX8_takeLabels.2.1 tX8_takeLabels := by unfold CtOk; decide +kernel
set_option maxRecDepth 20000 in
theorem kX8_takeLabels : MK mX8_takeLabels := ⟨tj5 117 (by rfl) rfl, tj1 1 (by rfl) rfl, by decide +kernel, by decide +kernel, by decide +kernel⟩
theorem vX8_takeLabels : MKv mX8_takeLabels 8 := ⟨tj5 116 (by rfl) rfl, tb0 18 (by rfl) rfl, _, _, rfl⟩
