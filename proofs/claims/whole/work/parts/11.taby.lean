/-! ===== code tables: reference ===== -/
def mX9_thrown : Mi := (yX9_thrown, cX9_thrown, 1, some .int, 0)
def tX9_thrown : Ct := [(0, .aload_n 0, 1), (1, .getfield 96, 3), (4, .ireturn, 1)]
set_option maxRecDepth 20000 in
theorem oX9_thrown : CtOk mX9_thrown.2.1 tX9_thrown := by unfold CtOk; decide +kernel
set_option maxRecDepth 20000 in
theorem kX9_thrown : MK mX9_thrown := ⟨tj7 40 (by rfl) rfl, tj1 10 (by rfl) rfl, by decide +kernel, by decide +kernel, by decide +kernel⟩
theorem vX9_thrown : MKv mX9_thrown 9 := ⟨tj7 38 (by rfl) rfl, tj7 39 (by rfl) rfl, _, _, rfl⟩
def mX9_no : Mi := (yX9_no, cX9_no, 2, some .int, 1)
def tX9_no : Ct := [(0, .aload_n 0, 1), (1, .iload_n 1, 1), (2, .putfield 96, 3), (5, .iconst 0, 1), (6, .ireturn, 1)]
set_option maxRecDepth 20000 in
theorem oX9_no : CtOk mX9_no.2.1 tX9_no := by unfold CtOk; decide +kernel
set_option maxRecDepth 20000 in
theorem kX9_no : MK mX9_no := ⟨tj7 54 (by rfl) rfl, tj1 10 (by rfl) rfl, by decide +kernel, by decide +kernel, by decide +kernel⟩
theorem vX9_no : MKv mX9_no 9 := ⟨tj7 53 (by rfl) rfl, tb0 32 (by rfl) rfl, _, _, rfl⟩
def mX9_isIn : Mi := (yX9_isIn, cX9_isIn, 3, some .boolean, 3)
def tX9_isIn : Ct := [(0, .iload_n 0, 1), (1, .iload_n 1, 1), (2, .if_icmp .lt 12, 3), (5, .iload_n 0, 1), (6, .iload_n 2, 1), (7, .if_icmp .gt 7, 3), (10, .iconst 1, 1), (11, .goto 4, 3), (14, .iconst 0, 1), (15, .ireturn, 1)]
set_option maxRecDepth 20000 in
theorem oX9_isIn : CtOk mX9_isIn.2.1 tX9_isIn := by unfold CtOk; decide +kernel
set_option maxRecDepth 20000 in
theorem kX9_isIn : MK mX9_isIn := ⟨tj7 50 (by rfl) rfl, tj1 10 (by rfl) rfl, by decide +kernel, by decide +kernel, by decide +kernel⟩
theorem sX9_isIn : Cond.static mX9_isIn.1 ∈ TSg := tj7 49 (by rfl) rfl
def mX9_power : Mi := (yX9_power, cX9_power, 4, some .int, 1)
def tX9_power : Ct := [(0, .iconst 1, 1), (1, .istore_n 2, 1), (2, .iconst 0, 1), (3, .istore_n 3, 1), (4, .iload_n 3, 1), (5, .iload_n 1, 1), (6, .if_icmp .ge 16, 3), (9, .iload_n 2, 1), (10, .aload_n 0, 1), (11, .getfield 7, 3), (14, .imul, 1), (15, .istore_n 2, 1), (16, .iinc 3 1, 3), (19, .goto (-15), 3), (22, .iload_n 2, 1), (23, .ireturn, 1)]
set_option maxRecDepth 20000 in
theorem oX9_power : CtOk mX9_power.2.1 tX9_power := by unfold CtOk; decide +kernel
set_option maxRecDepth 20000 in
theorem kX9_power : MK mX9_power := ⟨tj7 62 (by rfl) rfl, tj1 10 (by rfl) rfl, by decide +kernel, by decide +kernel, by decide +kernel⟩
theorem vX9_power : MKv mX9_power 9 := ⟨tj7 61 (by rfl) rfl, tb0 34 (by rfl) rfl, _, _, rfl⟩
def mX9_all : Mi := (yX9_all, cX9_all, 1, some .int, 0)
def tX9_all : Ct := [(0, .aload_n 0, 1), (1, .aload_n 0, 1), (2, .getfield 13, 3), (5, .invokevirtual 99, 3), (8, .ireturn, 1)]
set_option maxRecDepth 20000 in
theorem oX9_all : CtOk mX9_all.2.1 tX9_all := by unfold CtOk; decide +kernel
set_option maxRecDepth 20000 in
theorem kX9_all : MK mX9_all := ⟨tj7 58 (by rfl) rfl, tj1 10 (by rfl) rfl, by decide +kernel, by decide +kernel, by decide +kernel⟩
theorem vX9_all : MKv mX9_all 9 := ⟨tj7 57 (by rfl) rfl, tb0 33 (by rfl) rfl, _, _, rfl⟩
def mX9_nodes : Mi := (yX9_nodes, cX9_nodes, 1, some .int, 0)
def tX9_nodes : Ct := [(0, .aload_n 0, 1), (1, .aload_n 0, 1), (2, .getfield 13, 3), (5, .iconst 1, 1), (6, .isub, 1), (7, .invokevirtual 99, 3), (10, .ireturn, 1)]
set_option maxRecDepth 20000 in
theorem oX9_nodes : CtOk mX9_nodes.2.1 tX9_nodes := by unfold CtOk; decide +kernel
set_option maxRecDepth 20000 in
theorem kX9_nodes : MK mX9_nodes := ⟨tj7 70 (by rfl) rfl, tj1 10 (by rfl) rfl, by decide +kernel, by decide +kernel, by decide +kernel⟩
theorem vX9_nodes : MKv mX9_nodes 9 := ⟨tj7 69 (by rfl) rfl, tb0 35 (by rfl) rfl, _, _, rfl⟩
def mX9_isSize : Mi := (yX9_isSize, cX9_isSize, 2, some .boolean, 2)
def tX9_isSize : Ct := [(0, .iload_n 0, 1), (1, .iconst 2, 1), (2, .if_icmp .ne 12, 3), (5, .iload_n 1, 1), (6, .iconst 2, 1), (7, .iconst 4, 1), (8, .invokestatic 103, 3), (11, .ifCond .ne 17, 3), (14, .iload_n 0, 1), (15, .iconst 3, 1), (16, .if_icmp .ne 16, 3), (19, .iload_n 1, 1), (20, .iconst 2, 1), (21, .iconst 3, 1), (22, .invokestatic 103, 3), (25, .ifCond .eq 7, 3), (28, .iconst 1, 1), (29, .goto 4, 3), (32, .iconst 0, 1), (33, .ireturn, 1)]
set_option maxRecDepth 20000 in
theorem oX9_isSize : CtOk mX9_isSize.2.1 tX9_isSize := by unfold CtOk; decide +kernel
set_option maxRecDepth 20000 in
theorem kX9_isSize : MK mX9_isSize := ⟨tj7 47 (by rfl) rfl, tj1 10 (by rfl) rfl, by decide +kernel, by decide +kernel, by decide +kernel⟩
theorem sX9_isSize : Cond.static mX9_isSize.1 ∈ TSg := tj7 46 (by rfl) rfl
def mX9_setSize : Mi := (yX9_setSize, cX9_setSize, 4, some .int, 2)
def tX9_setSize : Ct := [(0, .aload_n 0, 1), (1, .iconst 0, 1), (2, .putfield 96, 3), (5, .iload_n 1, 1), (6, .iload_n 2, 1), (7, .invokestatic 107, 3), (10, .ifCond .ne 9, 3), (13, .aload_n 0, 1), (14, .iconst 1, 1), (15, .invokevirtual 111, 3), (18, .ireturn, 1), (19, .aload_n 0, 1), (20, .iload_n 1, 1), (21, .putfield 7, 3), (24, .aload_n 0, 1), (25, .iload_n 2, 1), (26, .putfield 13, 3), (29, .iconst 0, 1), (30, .istore_n 3, 1), (31, .iload_n 3, 1), (32, .bipush 27, 2), (34, .if_icmp .ge 16, 3), (37, .aload_n 0, 1), (38, .getfield 16, 3), (41, .iload_n 3, 1), (42, .iconst 0, 1), (43, .iastore, 1), (44, .iinc 3 1, 3), (47, .goto (-16), 3), (50, .iconst 0, 1), (51, .istore_n 3, 1), (52, .iload_n 3, 1), (53, .iconst 4, 1), (54, .if_icmp .ge 23, 3), (57, .aload_n 0, 1), (58, .getfield 20, 3), (61, .iload_n 3, 1), (62, .iconst 0, 1), (63, .iastore, 1), (64, .aload_n 0, 1), (65, .getfield 23, 3), (68, .iload_n 3, 1), (69, .iconst 0, 1), (70, .iastore, 1), (71, .iinc 3 1, 3), (74, .goto (-22), 3), (77, .aload_n 0, 1), (78, .invokevirtual 114, 3), (81, .ireturn, 1)]
set_option maxRecDepth 20000 in
theorem oX9_setSize : CtOk mX9_setSize.2.1 tX9_setSize := by unfold CtOk; decide +kernel
set_option maxRecDepth 20000 in
theorem kX9_setSize : MK mX9_setSize := ⟨tj7 44 (by rfl) rfl, tj1 10 (by rfl) rfl, by decide +kernel, by decide +kernel, by decide +kernel⟩
theorem vX9_setSize : MKv mX9_setSize 9 := ⟨tj7 42 (by rfl) rfl, tj7 43 (by rfl) rfl, _, _, rfl⟩
def mX9_size : Mi := (yX9_size, cX9_size, 2, some .int, 1)
def tX9_size : Ct := [(0, .aload_n 0, 1), (1, .iconst 0, 1), (2, .putfield 96, 3), (5, .iload_n 1, 1), (6, .iconst 0, 1), (7, .iconst 3, 1), (8, .invokestatic 103, 3), (11, .ifCond .ne 9, 3), (14, .aload_n 0, 1), (15, .iconst 1, 1), (16, .invokevirtual 111, 3), (19, .ireturn, 1), (20, .iload_n 1, 1), (21, .ifCond .ne 10, 3), (24, .aload_n 0, 1), (25, .getfield 7, 3), (28, .goto 31, 3), (31, .iload_n 1, 1), (32, .iconst 1, 1), (33, .if_icmp .ne 10, 3), (36, .aload_n 0, 1), (37, .getfield 13, 3), (40, .goto 19, 3), (43, .iload_n 1, 1), (44, .iconst 2, 1), (45, .if_icmp .ne 10, 3), (48, .aload_n 0, 1), (49, .invokevirtual 114, 3), (52, .goto 7, 3), (55, .aload_n 0, 1), (56, .invokevirtual 118, 3), (59, .ireturn, 1)]
set_option maxRecDepth 20000 in
theorem oX9_size : CtOk mX9_size.2.1 tX9_size := by unfold CtOk; decide +kernel
set_option maxRecDepth 20000 in
theorem kX9_size : MK mX9_size := ⟨tj7 66 (by rfl) rfl, tj1 10 (by rfl) rfl, by decide +kernel, by decide +kernel, by decide +kernel⟩
theorem vX9_size : MKv mX9_size 9 := ⟨tj7 64 (by rfl) rfl, tj7 65 (by rfl) rfl, _, _, rfl⟩
def mX9_setOutput : Mi := (yX9_setOutput, cX9_setOutput, 4, some .int, 2)
def tX9_setOutput : Ct := [(0, .aload_n 0, 1), (1, .iconst 0, 1), (2, .putfield 96, 3), (5, .iload_n 1, 1), (6, .iconst 0, 1), (7, .aload_n 0, 1), (8, .invokevirtual 114, 3), (11, .iconst 1, 1), (12, .isub, 1), (13, .invokestatic 103, 3), (16, .ifCond .ne 9, 3), (19, .aload_n 0, 1), (20, .iconst 1, 1), (21, .invokevirtual 111, 3), (24, .ireturn, 1), (25, .iload_n 2, 1), (26, .iconst 0, 1), (27, .aload_n 0, 1), (28, .getfield 7, 3), (31, .iconst 1, 1), (32, .isub, 1), (33, .invokestatic 103, 3), (36, .ifCond .ne 9, 3), (39, .aload_n 0, 1), (40, .iconst 2, 1), (41, .invokevirtual 111, 3), (44, .ireturn, 1), (45, .aload_n 0, 1), (46, .getfield 16, 3), (49, .iload_n 1, 1), (50, .iaload, 1), (51, .istore_n 3, 1), (52, .aload_n 0, 1), (53, .getfield 16, 3), (56, .iload_n 1, 1), (57, .iload_n 2, 1), (58, .iastore, 1), (59, .iload_n 3, 1), (60, .ireturn, 1)]
set_option maxRecDepth 20000 in
theorem oX9_setOutput : CtOk mX9_setOutput.2.1 tX9_setOutput := by unfold CtOk; decide +kernel
set_option maxRecDepth 20000 in
theorem kX9_setOutput : MK mX9_setOutput := ⟨tj7 74 (by rfl) rfl, tj1 10 (by rfl) rfl, by decide +kernel, by decide +kernel, by decide +kernel⟩
theorem vX9_setOutput : MKv mX9_setOutput 9 := ⟨tj7 72 (by rfl) rfl, tj7 73 (by rfl) rfl, _, _, rfl⟩
def mX9_output : Mi := (yX9_output, cX9_output, 2, some .int, 1)
def tX9_output : Ct := [(0, .aload_n 0, 1), (1, .iconst 0, 1), (2, .putfield 96, 3), (5, .iload_n 1, 1), (6, .iconst 0, 1), (7, .aload_n 0, 1), (8, .invokevirtual 114, 3), (11, .iconst 1, 1), (12, .isub, 1), (13, .invokestatic 103, 3), (16, .ifCond .eq 12, 3), (19, .aload_n 0, 1), (20, .getfield 16, 3), (23, .iload_n 1, 1), (24, .iaload, 1), (25, .goto 8, 3), (28, .aload_n 0, 1), (29, .iconst 1, 1), (30, .invokevirtual 111, 3), (33, .ireturn, 1)]
set_option maxRecDepth 20000 in
theorem oX9_output : CtOk mX9_output.2.1 tX9_output := by unfold CtOk; decide +kernel
set_option maxRecDepth 20000 in
theorem kX9_output : MK mX9_output := ⟨tj7 78 (by rfl) rfl, tj1 10 (by rfl) rfl, by decide +kernel, by decide +kernel, by decide +kernel⟩
theorem vX9_output : MKv mX9_output 9 := ⟨tj7 76 (by rfl) rfl, tj7 77 (by rfl) rfl, _, _, rfl⟩
def mX9_becomes : Mi := (yX9_becomes, cX9_becomes, 3, some .int, 0)
def tX9_becomes : Ct := [(0, .iconst 0, 1), (1, .istore_n 1, 1), (2, .iconst 0, 1), (3, .istore_n 2, 1), (4, .iload_n 2, 1), (5, .aload_n 0, 1), (6, .invokevirtual 114, 3), (9, .if_icmp .ge 44, 3), (12, .iload_n 1, 1), (13, .aload_n 0, 1), (14, .getfield 16, 3), (17, .iload_n 2, 1), (18, .iaload, 1), (19, .aload_n 0, 1), (20, .getfield 41, 3), (23, .iload_n 2, 1), (24, .iaload, 1), (25, .if_icmp .ne 7, 3), (28, .iconst 0, 1), (29, .goto 4, 3), (32, .iconst 1, 1), (33, .iadd, 1), (34, .istore_n 1, 1), (35, .aload_n 0, 1), (36, .getfield 16, 3), (39, .iload_n 2, 1), (40, .aload_n 0, 1), (41, .getfield 41, 3), (44, .iload_n 2, 1), (45, .iaload, 1), (46, .iastore, 1), (47, .iinc 2 1, 3), (50, .goto (-46), 3), (53, .iload_n 1, 1), (54, .ireturn, 1)]
set_option maxRecDepth 20000 in
theorem oX9_becomes : CtOk mX9_becomes.2.1 tX9_becomes := by unfold CtOk; decide +kernel
set_option maxRecDepth 20000 in
theorem kX9_becomes : MK mX9_becomes := ⟨tj7 86 (by rfl) rfl, tj1 10 (by rfl) rfl, by decide +kernel, by decide +kernel, by decide +kernel⟩
theorem vX9_becomes : MKv mX9_becomes 9 := ⟨tj7 85 (by rfl) rfl, tb0 36 (by rfl) rfl, _, _, rfl⟩
def mX9_numberOf : Mi := (yX9_numberOf, cX9_numberOf, 5, some .long, 1)
def tX9_numberOf : Ct := [(0, .lconst 0, 1), (1, .lstore_n 2, 1), (2, .aload_n 0, 1), (3, .invokevirtual 114, 3), (6, .iconst 1, 1), (7, .isub, 1), (8, .istore 4, 2), (10, .iload 4, 2), (12, .ifCond .lt 23, 3), (15, .aload_n 0, 1), (16, .getfield 7, 3), (19, .i2l, 1), (20, .lload_n 2, 1), (21, .lmul, 1), (22, .aload_n 1, 1), (23, .iload 4, 2), (25, .iaload, 1), (26, .i2l, 1), (27, .ladd, 1), (28, .lstore_n 2, 1), (29, .iinc 4 (-1), 3), (32, .goto (-22), 3), (35, .lload_n 2, 1), (36, .lreturn, 1)]
set_option maxRecDepth 20000 in
theorem oX9_numberOf : CtOk mX9_numberOf.2.1 tX9_numberOf := by unfold CtOk; decide +kernel
set_option maxRecDepth 20000 in
theorem kX9_numberOf : MK mX9_numberOf := ⟨tj7 94 (by rfl) rfl, tj1 10 (by rfl) rfl, by decide +kernel, by decide +kernel, by decide +kernel⟩
theorem vX9_numberOf : MKv mX9_numberOf 9 := ⟨tj7 93 (by rfl) rfl, tb0 37 (by rfl) rfl, _, _, rfl⟩
def mX9_setNumber : Mi := (yX9_setNumber, cX9_setNumber, 6, some .int, 1)
def tX9_setNumber : Ct := [(0, .aload_n 0, 1), (1, .iconst 0, 1), (2, .putfield 96, 3), (5, .lload_n 1, 1), (6, .lstore_n 3, 1), (7, .iconst 0, 1), (8, .istore 5, 2), (10, .iload 5, 2), (12, .aload_n 0, 1), (13, .invokevirtual 114, 3), (16, .if_icmp .ge 38, 3), (19, .lload_n 1, 1), (20, .lconst 0, 1), (21, .lcmp, 1), (22, .ifCond .lt 32, 3), (25, .aload_n 0, 1), (26, .getfield 41, 3), (29, .iload 5, 2), (31, .lload_n 3, 1), (32, .aload_n 0, 1), (33, .getfield 7, 3), (36, .i2l, 1), (37, .lrem, 1), (38, .l2i, 1), (39, .iastore, 1), (40, .lload_n 3, 1), (41, .aload_n 0, 1), (42, .getfield 7, 3), (45, .i2l, 1), (46, .ldiv, 1), (47, .lstore_n 3, 1), (48, .iinc 5 1, 3), (51, .goto (-41), 3), (54, .lload_n 1, 1), (55, .lconst 0, 1), (56, .lcmp, 1), (57, .ifCond .lt 9, 3), (60, .lload_n 3, 1), (61, .lconst 0, 1), (62, .lcmp, 1), (63, .ifCond .le 11, 3), (66, .aload_n 0, 1), (67, .iconst 1, 1), (68, .invokevirtual 111, 3), (71, .goto 7, 3), (74, .aload_n 0, 1), (75, .invokevirtual 121, 3), (78, .ireturn, 1)]
set_option maxRecDepth 20000 in
theorem oX9_setNumber : CtOk mX9_setNumber.2.1 tX9_setNumber := by unfold CtOk; decide +kernel
set_option maxRecDepth 20000 in
theorem kX9_setNumber : MK mX9_setNumber := ⟨tj7 82 (by rfl) rfl, tj1 10 (by rfl) rfl, by decide +kernel, by decide +kernel, by decide +kernel⟩
theorem vX9_setNumber : MKv mX9_setNumber 9 := ⟨tj7 80 (by rfl) rfl, tj7 81 (by rfl) rfl, _, _, rfl⟩
def mX9_number : Mi := (yX9_number, cX9_number, 1, some .long, 0)
def tX9_number : Ct := [(0, .aload_n 0, 1), (1, .iconst 0, 1), (2, .putfield 96, 3), (5, .aload_n 0, 1), (6, .aload_n 0, 1), (7, .getfield 16, 3), (10, .invokevirtual 124, 3), (13, .lreturn, 1)]
set_option maxRecDepth 20000 in
theorem oX9_number : CtOk mX9_number.2.1 tX9_number := by unfold CtOk; decide +kernel
set_option maxRecDepth 20000 in
theorem kX9_number : MK mX9_number := ⟨tj7 90 (by rfl) rfl, tj1 10 (by rfl) rfl, by decide +kernel, by decide +kernel, by decide +kernel⟩
theorem vX9_number : MKv mX9_number 9 := ⟨tj7 88 (by rfl) rfl, tj7 89 (by rfl) rfl, _, _, rfl⟩
def mX9_turned : Mi := (yX9_turned, cX9_turned, 6, some .int, 2)
def tX9_turned : Ct := [(0, .iconst 0, 1), (1, .istore_n 3, 1), (2, .iload_n 1, 1), (3, .istore 4, 2), (5, .iconst 0, 1), (6, .istore 5, 2), (8, .iload 5, 2), (10, .iload_n 2, 1), (11, .if_icmp .ge 33, 3), (14, .aload_n 0, 1), (15, .getfield 7, 3), (18, .iload_n 3, 1), (19, .imul, 1), (20, .iload 4, 2), (22, .aload_n 0, 1), (23, .getfield 7, 3), (26, .irem, 1), (27, .iadd, 1), (28, .istore_n 3, 1), (29, .iload 4, 2), (31, .aload_n 0, 1), (32, .getfield 7, 3), (35, .idiv, 1), (36, .istore 4, 2), (38, .iinc 5 1, 3), (41, .goto (-33), 3), (44, .iload_n 3, 1), (45, .ireturn, 1)]
set_option maxRecDepth 20000 in
theorem oX9_turned : CtOk mX9_turned.2.1 tX9_turned := by unfold CtOk; decide +kernel
set_option maxRecDepth 20000 in
theorem kX9_turned : MK mX9_turned := ⟨tj7 106 (by rfl) rfl, tj1 10 (by rfl) rfl, by decide +kernel, by decide +kernel, by decide +kernel⟩
theorem vX9_turned : MKv mX9_turned 9 := ⟨tj7 105 (by rfl) rfl, tb0 39 (by rfl) rfl, _, _, rfl⟩
def mX9_mirrors : Mi := (yX9_mirrors, cX9_mirrors, 4, none, 2)
def tX9_mirrors : Ct := [(0, .iconst 0, 1), (1, .istore_n 3, 1), (2, .iload_n 3, 1), (3, .aload_n 0, 1), (4, .invokevirtual 114, 3), (7, .if_icmp .ge 23, 3), (10, .aload_n 2, 1), (11, .iload_n 3, 1), (12, .aload_n 1, 1), (13, .aload_n 0, 1), (14, .iload_n 3, 1), (15, .aload_n 0, 1), (16, .getfield 13, 3), (19, .invokevirtual 128, 3), (22, .iaload, 1), (23, .iastore, 1), (24, .iinc 3 1, 3), (27, .goto (-25), 3), (30, .return_, 1)]
set_option maxRecDepth 20000 in
theorem oX9_mirrors : CtOk mX9_mirrors.2.1 tX9_mirrors := by unfold CtOk; decide +kernel
set_option maxRecDepth 20000 in
theorem kX9_mirrors : MK mX9_mirrors := ⟨tj7 102 (by rfl) rfl, tj1 10 (by rfl) rfl, by decide +kernel, by decide +kernel, by decide +kernel⟩
theorem vX9_mirrors : MKv mX9_mirrors 9 := ⟨tj7 101 (by rfl) rfl, tb0 38 (by rfl) rfl, _, _, rfl⟩
def mX9_complements : Mi := (yX9_complements, cX9_complements, 4, none, 2)
def tX9_complements : Ct := [(0, .iconst 0, 1), (1, .istore_n 3, 1), (2, .iload_n 3, 1), (3, .aload_n 0, 1), (4, .invokevirtual 114, 3), (7, .if_icmp .ge 29, 3), (10, .aload_n 2, 1), (11, .iload_n 3, 1), (12, .aload_n 0, 1), (13, .getfield 7, 3), (16, .iconst 1, 1), (17, .isub, 1), (18, .aload_n 1, 1), (19, .aload_n 0, 1), (20, .invokevirtual 114, 3), (23, .iconst 1, 1), (24, .isub, 1), (25, .iload_n 3, 1), (26, .isub, 1), (27, .iaload, 1), (28, .isub, 1), (29, .iastore, 1), (30, .iinc 3 1, 3), (33, .goto (-31), 3), (36, .return_, 1)]
set_option maxRecDepth 20000 in
theorem oX9_complements : CtOk mX9_complements.2.1 tX9_complements := by unfold CtOk; decide +kernel
set_option maxRecDepth 20000 in
theorem kX9_complements : MK mX9_complements := ⟨tj7 114 (by rfl) rfl, tj1 10 (by rfl) rfl, by decide +kernel, by decide +kernel, by decide +kernel⟩
theorem vX9_complements : MKv mX9_complements 9 := ⟨tj7 113 (by rfl) rfl, tb0 40 (by rfl) rfl, _, _, rfl⟩
def mX9_mirror : Mi := (yX9_mirror, cX9_mirror, 1, some .int, 0)
def tX9_mirror : Ct := [(0, .aload_n 0, 1), (1, .iconst 0, 1), (2, .putfield 96, 3), (5, .aload_n 0, 1), (6, .aload_n 0, 1), (7, .getfield 16, 3), (10, .aload_n 0, 1), (11, .getfield 41, 3), (14, .invokevirtual 132, 3), (17, .aload_n 0, 1), (18, .invokevirtual 121, 3), (21, .ireturn, 1)]
set_option maxRecDepth 20000 in
theorem oX9_mirror : CtOk mX9_mirror.2.1 tX9_mirror := by unfold CtOk; decide +kernel
set_option maxRecDepth 20000 in
theorem kX9_mirror : MK mX9_mirror := ⟨tj7 98 (by rfl) rfl, tj1 10 (by rfl) rfl, by decide +kernel, by decide +kernel, by decide +kernel⟩
theorem vX9_mirror : MKv mX9_mirror 9 := ⟨tj7 96 (by rfl) rfl, tj7 97 (by rfl) rfl, _, _, rfl⟩
def mX9_complement : Mi := (yX9_complement, cX9_complement, 1, some .int, 0)
def tX9_complement : Ct := [(0, .aload_n 0, 1), (1, .iconst 0, 1), (2, .putfield 96, 3), (5, .aload_n 0, 1), (6, .aload_n 0, 1), (7, .getfield 16, 3), (10, .aload_n 0, 1), (11, .getfield 41, 3), (14, .invokevirtual 136, 3), (17, .aload_n 0, 1), (18, .invokevirtual 121, 3), (21, .ireturn, 1)]
set_option maxRecDepth 20000 in
theorem oX9_complement : CtOk mX9_complement.2.1 tX9_complement := by unfold CtOk; decide +kernel
set_option maxRecDepth 20000 in
theorem kX9_complement : MK mX9_complement := ⟨tj7 110 (by rfl) rfl, tj1 10 (by rfl) rfl, by decide +kernel, by decide +kernel, by decide +kernel⟩
theorem vX9_complement : MKv mX9_complement 9 := ⟨tj7 108 (by rfl) rfl, tj7 109 (by rfl) rfl, _, _, rfl⟩
def mX9_leastNumber : Mi := (yX9_leastNumber, cX9_leastNumber, 3, some .long, 0)
def tX9_leastNumber : Ct := [(0, .aload_n 0, 1), (1, .iconst 0, 1), (2, .putfield 96, 3), (5, .aload_n 0, 1), (6, .aload_n 0, 1), (7, .getfield 16, 3), (10, .invokevirtual 124, 3), (13, .lstore_n 1, 1), (14, .aload_n 0, 1), (15, .aload_n 0, 1), (16, .getfield 16, 3), (19, .aload_n 0, 1), (20, .getfield 41, 3), (23, .invokevirtual 132, 3), (26, .aload_n 0, 1), (27, .aload_n 0, 1), (28, .getfield 41, 3), (31, .aload_n 0, 1), (32, .getfield 44, 3), (35, .invokevirtual 136, 3), (38, .aload_n 0, 1), (39, .aload_n 0, 1), (40, .getfield 41, 3), (43, .invokevirtual 124, 3), (46, .lload_n 1, 1), (47, .lcmp, 1), (48, .ifCond .ge 14, 3), (51, .aload_n 0, 1), (52, .aload_n 0, 1), (53, .getfield 41, 3), (56, .invokevirtual 124, 3), (59, .goto 4, 3), (62, .lload_n 1, 1), (63, .lstore_n 1, 1), (64, .aload_n 0, 1), (65, .aload_n 0, 1), (66, .getfield 44, 3), (69, .invokevirtual 124, 3), (72, .lload_n 1, 1), (73, .lcmp, 1), (74, .ifCond .ge 14, 3), (77, .aload_n 0, 1), (78, .aload_n 0, 1), (79, .getfield 44, 3), (82, .invokevirtual 124, 3), (85, .goto 4, 3), (88, .lload_n 1, 1), (89, .lstore_n 1, 1), (90, .aload_n 0, 1), (91, .aload_n 0, 1), (92, .getfield 16, 3), (95, .aload_n 0, 1), (96, .getfield 44, 3), (99, .invokevirtual 136, 3), (102, .aload_n 0, 1), (103, .aload_n 0, 1), (104, .getfield 44, 3), (107, .invokevirtual 124, 3), (110, .lload_n 1, 1), (111, .lcmp, 1), (112, .ifCond .ge 14, 3), (115, .aload_n 0, 1), (116, .aload_n 0, 1), (117, .getfield 44, 3), (120, .invokevirtual 124, 3), (123, .goto 4, 3), (126, .lload_n 1, 1), (127, .lreturn, 1)]
set_option maxRecDepth 20000 in
theorem oX9_leastNumber : CtOk mX9_leastNumber.2.1 tX9_leastNumber := by unfold CtOk; decide +kernel
set_option maxRecDepth 20000 in
theorem kX9_leastNumber : MK mX9_leastNumber := ⟨tj7 118 (by rfl) rfl, tj1 10 (by rfl) rfl, by decide +kernel, by decide +kernel, by decide +kernel⟩
theorem vX9_leastNumber : MKv mX9_leastNumber 9 := ⟨tj7 116 (by rfl) rfl, tj7 117 (by rfl) rfl, _, _, rfl⟩
def mX9_compose : Mi := (yX9_compose, cX9_compose, 3, some .int, 0)
def tX9_compose : Ct := [(0, .aload_n 0, 1), (1, .iconst 0, 1), (2, .putfield 96, 3), (5, .aload_n 0, 1), (6, .getfield 13, 3), (9, .aload_n 0, 1), (10, .getfield 139, 3), (13, .iadd, 1), (14, .iconst 1, 1), (15, .isub, 1), (16, .istore_n 1, 1), (17, .aload_n 0, 1), (18, .getfield 142, 3), (21, .ifCond .eq 25, 3), (24, .aload_n 0, 1), (25, .getfield 142, 3), (28, .aload_n 0, 1), (29, .getfield 7, 3), (32, .if_icmp .ne 14, 3), (35, .aload_n 0, 1), (36, .getfield 7, 3), (39, .iload_n 1, 1), (40, .invokestatic 107, 3), (43, .ifCond .ne 9, 3), (46, .aload_n 0, 1), (47, .iconst 1, 1), (48, .invokevirtual 111, 3), (51, .ireturn, 1), (52, .iconst 0, 1), (53, .istore_n 2, 1), (54, .iload_n 2, 1), (55, .aload_n 0, 1), (56, .iload_n 1, 1), (57, .invokevirtual 99, 3), (60, .if_icmp .ge 34, 3), (63, .aload_n 0, 1), (64, .getfield 41, 3), (67, .iload_n 2, 1), (68, .aload_n 0, 1), (69, .getfield 16, 3), (72, .aload_n 0, 1), (73, .iload_n 2, 1), (74, .iload_n 1, 1), (75, .aload_n 0, 1), (76, .getfield 26, 3), (79, .aload_n 0, 1), (80, .getfield 139, 3), (83, .invokevirtual 145, 3), (86, .iaload, 1), (87, .iastore, 1), (88, .iinc 2 1, 3), (91, .goto (-37), 3), (94, .aload_n 0, 1), (95, .iload_n 1, 1), (96, .putfield 13, 3), (99, .aload_n 0, 1), (100, .invokevirtual 121, 3), (103, .istore_n 2, 1), (104, .aload_n 0, 1), (105, .getfield 13, 3), (108, .ireturn, 1)]
set_option maxRecDepth 20000 in
theorem oX9_compose : CtOk mX9_compose.2.1 tX9_compose := by unfold CtOk; decide +kernel
set_option maxRecDepth 20000 in
theorem kX9_compose : MK mX9_compose := ⟨tj7 122 (by rfl) rfl, tj1 10 (by rfl) rfl, by decide +kernel, by decide +kernel, by decide +kernel⟩
theorem vX9_compose : MKv mX9_compose 9 := ⟨tj7 120 (by rfl) rfl, tj7 121 (by rfl) rfl, _, _, rfl⟩
def mX9_imageOf : Mi := (yX9_imageOf, cX9_imageOf, 7, some .int, 4)
def tX9_imageOf : Ct := [(0, .iconst 0, 1), (1, .istore 5, 2), (3, .iconst 0, 1), (4, .istore 6, 2), (6, .iload 6, 2), (8, .iload 4, 2), (10, .iadd, 1), (11, .iload_n 2, 1), (12, .if_icmp .gt 41, 3), (15, .aload_n 0, 1), (16, .getfield 7, 3), (19, .iload 5, 2), (21, .imul, 1), (22, .aload_n 3, 1), (23, .iload_n 1, 1), (24, .aload_n 0, 1), (25, .iload_n 2, 1), (26, .iload 4, 2), (28, .isub, 1), (29, .iload 6, 2), (31, .isub, 1), (32, .invokevirtual 99, 3), (35, .idiv, 1), (36, .aload_n 0, 1), (37, .iload 4, 2), (39, .invokevirtual 99, 3), (42, .irem, 1), (43, .iaload, 1), (44, .iadd, 1), (45, .istore 5, 2), (47, .iinc 6 1, 3), (50, .goto (-44), 3), (53, .iload 5, 2), (55, .ireturn, 1)]
set_option maxRecDepth 20000 in
theorem oX9_imageOf : CtOk mX9_imageOf.2.1 tX9_imageOf := by unfold CtOk; decide +kernel
set_option maxRecDepth 20000 in
theorem kX9_imageOf : MK mX9_imageOf := ⟨tj7 126 (by rfl) rfl, tj1 10 (by rfl) rfl, by decide +kernel, by decide +kernel, by decide +kernel⟩
theorem vX9_imageOf : MKv mX9_imageOf 9 := ⟨tj7 125 (by rfl) rfl, tb0 41 (by rfl) rfl, _, _, rfl⟩
def mX9_cyclicImage : Mi := (yX9_cyclicImage, cX9_cyclicImage, 7, some .int, 2)
def tX9_cyclicImage : Ct := [(0, .iconst 0, 1), (1, .istore_n 3, 1), (2, .iconst 0, 1), (3, .istore 4, 2), (5, .iload 4, 2), (7, .iload_n 2, 1), (8, .if_icmp .ge 77, 3), (11, .iconst 0, 1), (12, .istore 5, 2), (14, .iconst 0, 1), (15, .istore 6, 2), (17, .iload 6, 2), (19, .aload_n 0, 1), (20, .getfield 13, 3), (23, .if_icmp .ge 41, 3), (26, .aload_n 0, 1), (27, .getfield 7, 3), (30, .iload 5, 2), (32, .imul, 1), (33, .iload_n 1, 1), (34, .aload_n 0, 1), (35, .iload_n 2, 1), (36, .iconst 1, 1), (37, .isub, 1), (38, .iload 4, 2), (40, .iload 6, 2), (42, .iadd, 1), (43, .iload_n 2, 1), (44, .irem, 1), (45, .isub, 1), (46, .invokevirtual 99, 3), (49, .idiv, 1), (50, .aload_n 0, 1), (51, .getfield 7, 3), (54, .irem, 1), (55, .iadd, 1), (56, .istore 5, 2), (58, .iinc 6 1, 3), (61, .goto (-44), 3), (64, .aload_n 0, 1), (65, .getfield 7, 3), (68, .iload_n 3, 1), (69, .imul, 1), (70, .aload_n 0, 1), (71, .getfield 16, 3), (74, .iload 5, 2), (76, .iaload, 1), (77, .iadd, 1), (78, .istore_n 3, 1), (79, .iinc 4 1, 3), (82, .goto (-77), 3), (85, .iload_n 3, 1), (86, .ireturn, 1)]
set_option maxRecDepth 20000 in
theorem oX9_cyclicImage : CtOk mX9_cyclicImage.2.1 tX9_cyclicImage := by unfold CtOk; decide +kernel
set_option maxRecDepth 20000 in
theorem kX9_cyclicImage : MK mX9_cyclicImage := ⟨tj7 220 (by rfl) rfl, tj1 10 (by rfl) rfl, by decide +kernel, by decide +kernel, by decide +kernel⟩
theorem vX9_cyclicImage : MKv mX9_cyclicImage 9 := ⟨tj7 219 (by rfl) rfl, tb0 55 (by rfl) rfl, _, _, rfl⟩
def mX9_append : Mi := (yX9_append, cX9_append, 5, some .int, 1)
def tX9_append : Ct := [(0, .aload_n 0, 1), (1, .iconst 0, 1), (2, .putfield 96, 3), (5, .iconst 0, 1), (6, .istore_n 2, 1), (7, .bipush 24, 2), (9, .istore_n 3, 1), (10, .iload_n 3, 1), (11, .ifCond .lt 54, 3), (14, .iload_n 1, 1), (15, .iload_n 3, 1), (16, .ishr, 1), (17, .sipush 255, 3), (20, .iand, 1), (21, .istore 4, 2), (23, .iload 4, 2), (25, .ifCond .eq 21, 3), (28, .iload 4, 2), (30, .bipush 33, 2), (32, .bipush 126, 2), (34, .invokestatic 103, 3), (37, .ifCond .ne 9, 3), (40, .aload_n 0, 1), (41, .iconst 1, 1), (42, .invokevirtual 111, 3), (45, .ireturn, 1), (46, .iload_n 2, 1), (47, .iload 4, 2), (49, .ifCond .ne 7, 3), (52, .iconst 0, 1), (53, .goto 4, 3), (56, .iconst 1, 1), (57, .iadd, 1), (58, .istore_n 2, 1), (59, .iinc 3 (-8), 3), (62, .goto (-52), 3), (65, .aload_n 0, 1), (66, .getfield 149, 3), (69, .iload_n 2, 1), (70, .iadd, 1), (71, .bipush 40, 2), (73, .if_icmp .le 9, 3), (76, .aload_n 0, 1), (77, .iconst 2, 1), (78, .invokevirtual 111, 3), (81, .ireturn, 1), (82, .bipush 24, 2), (84, .istore_n 3, 1), (85, .iload_n 3, 1), (86, .ifCond .lt 47, 3), (89, .iload_n 1, 1), (90, .iload_n 3, 1), (91, .ishr, 1), (92, .sipush 255, 3), (95, .iand, 1), (96, .istore 4, 2), (98, .iload 4, 2), (100, .ifCond .ne 6, 3), (103, .goto 24, 3), (106, .aload_n 0, 1), (107, .getfield 35, 3), (110, .aload_n 0, 1), (111, .getfield 149, 3), (114, .iload 4, 2), (116, .iastore, 1), (117, .aload_n 0, 1), (118, .dup, 1), (119, .getfield 149, 3), (122, .iconst 1, 1), (123, .iadd, 1), (124, .putfield 149, 3), (127, .iinc 3 (-8), 3), (130, .goto (-45), 3), (133, .aload_n 0, 1), (134, .getfield 149, 3), (137, .ireturn, 1)]
set_option maxRecDepth 20000 in
theorem oX9_append : CtOk mX9_append.2.1 tX9_append := by unfold CtOk; decide +kernel
set_option maxRecDepth 20000 in
theorem kX9_append : MK mX9_append := ⟨tj7 130 (by rfl) rfl, tj1 10 (by rfl) rfl, by decide +kernel, by decide +kernel, by decide +kernel⟩
theorem vX9_append : MKv mX9_append 9 := ⟨tj7 128 (by rfl) rfl, tj7 129 (by rfl) rfl, _, _, rfl⟩
def mX9_here : Mi := (yX9_here, cX9_here, 1, some .int, 0)
def tX9_here : Ct := [(0, .aload_n 0, 1), (1, .getfield 152, 3), (4, .aload_n 0, 1), (5, .getfield 149, 3), (8, .if_icmp .ge 15, 3), (11, .aload_n 0, 1), (12, .getfield 35, 3), (15, .aload_n 0, 1), (16, .getfield 152, 3), (19, .iaload, 1), (20, .goto 4, 3), (23, .iconst (-1), 1), (24, .ireturn, 1)]
set_option maxRecDepth 20000 in
theorem oX9_here : CtOk mX9_here.2.1 tX9_here := by unfold CtOk; decide +kernel
set_option maxRecDepth 20000 in
theorem kX9_here : MK mX9_here := ⟨tj7 165 (by rfl) rfl, tj1 10 (by rfl) rfl, by decide +kernel, by decide +kernel, by decide +kernel⟩
theorem vX9_here : MKv mX9_here 9 := ⟨tj7 164 (by rfl) rfl, tb0 48 (by rfl) rfl, _, _, rfl⟩
def mX9_rank : Mi := (yX9_rank, cX9_rank, 1, some .int, 1)
def tX9_rank : Ct := [(0, .iload_n 0, 1), (1, .bipush 61, 2), (3, .if_icmp .eq 9, 3), (6, .iload_n 0, 1), (7, .bipush 60, 2), (9, .if_icmp .ne 7, 3), (12, .iconst 1, 1), (13, .goto 52, 3), (16, .iload_n 0, 1), (17, .bipush 43, 2), (19, .if_icmp .eq 9, 3), (22, .iload_n 0, 1), (23, .bipush 45, 2), (25, .if_icmp .ne 7, 3), (28, .iconst 2, 1), (29, .goto 36, 3), (32, .iload_n 0, 1), (33, .bipush 42, 2), (35, .if_icmp .eq 15, 3), (38, .iload_n 0, 1), (39, .bipush 47, 2), (41, .if_icmp .eq 9, 3), (44, .iload_n 0, 1), (45, .bipush 37, 2), (47, .if_icmp .ne 7, 3), (50, .iconst 3, 1), (51, .goto 14, 3), (54, .iload_n 0, 1), (55, .bipush 33, 2), (57, .if_icmp .ne 7, 3), (60, .iconst 4, 1), (61, .goto 4, 3), (64, .iconst 0, 1), (65, .ireturn, 1)]
set_option maxRecDepth 20000 in
theorem oX9_rank : CtOk mX9_rank.2.1 tX9_rank := by unfold CtOk; decide +kernel
set_option maxRecDepth 20000 in
theorem kX9_rank : MK mX9_rank := ⟨tj7 149 (by rfl) rfl, tj1 10 (by rfl) rfl, by decide +kernel, by decide +kernel, by decide +kernel⟩
theorem sX9_rank : Cond.static mX9_rank.1 ∈ TSg := tj7 148 (by rfl) rfl
def mX9_emits : Mi := (yX9_emits, cX9_emits, 2, none, 1)
def tX9_emits : Ct := [(0, .aload_n 0, 1), (1, .getfield 47, 3), (4, .aload_n 0, 1), (5, .getfield 155, 3), (8, .iload_n 1, 1), (9, .iastore, 1), (10, .aload_n 0, 1), (11, .dup, 1), (12, .getfield 155, 3), (15, .iconst 1, 1), (16, .iadd, 1), (17, .putfield 155, 3), (20, .return_, 1)]
set_option maxRecDepth 20000 in
theorem oX9_emits : CtOk mX9_emits.2.1 tX9_emits := by unfold CtOk; decide +kernel
set_option maxRecDepth 20000 in
theorem kX9_emits : MK mX9_emits := ⟨tj7 153 (by rfl) rfl, tj1 10 (by rfl) rfl, by decide +kernel, by decide +kernel, by decide +kernel⟩
theorem vX9_emits : MKv mX9_emits 9 := ⟨tj7 152 (by rfl) rfl, tb0 45 (by rfl) rfl, _, _, rfl⟩
def mX9_top : Mi := (yX9_top, cX9_top, 1, some .int, 0)
def tX9_top : Ct := [(0, .aload_n 0, 1), (1, .getfield 158, 3), (4, .ifCond .ne 7, 3), (7, .iconst 0, 1), (8, .goto 14, 3), (11, .aload_n 0, 1), (12, .getfield 50, 3), (15, .aload_n 0, 1), (16, .getfield 158, 3), (19, .iconst 1, 1), (20, .isub, 1), (21, .iaload, 1), (22, .ireturn, 1)]
set_option maxRecDepth 20000 in
theorem oX9_top : CtOk mX9_top.2.1 tX9_top := by unfold CtOk; decide +kernel
set_option maxRecDepth 20000 in
theorem kX9_top : MK mX9_top := ⟨tj7 146 (by rfl) rfl, tj1 10 (by rfl) rfl, by decide +kernel, by decide +kernel, by decide +kernel⟩
theorem vX9_top : MKv mX9_top 9 := ⟨tj7 145 (by rfl) rfl, tb0 44 (by rfl) rfl, _, _, rfl⟩
def mX9_waitsFor : Mi := (yX9_waitsFor, cX9_waitsFor, 2, none, 1)
def tX9_waitsFor : Ct := [(0, .aload_n 0, 1), (1, .getfield 50, 3), (4, .aload_n 0, 1), (5, .getfield 158, 3), (8, .iload_n 1, 1), (9, .iastore, 1), (10, .aload_n 0, 1), (11, .dup, 1), (12, .getfield 158, 3), (15, .iconst 1, 1), (16, .iadd, 1), (17, .putfield 158, 3), (20, .return_, 1)]
set_option maxRecDepth 20000 in
theorem oX9_waitsFor : CtOk mX9_waitsFor.2.1 tX9_waitsFor := by unfold CtOk; decide +kernel
set_option maxRecDepth 20000 in
theorem kX9_waitsFor : MK mX9_waitsFor := ⟨tj7 169 (by rfl) rfl, tj1 10 (by rfl) rfl, by decide +kernel, by decide +kernel, by decide +kernel⟩
theorem vX9_waitsFor : MKv mX9_waitsFor 9 := ⟨tj7 168 (by rfl) rfl, tb0 49 (by rfl) rfl, _, _, rfl⟩
def mX9_lets : Mi := (yX9_lets, cX9_lets, 2, none, 1)
def tX9_lets : Ct := [(0, .aload_n 0, 1), (1, .getfield 158, 3), (4, .ifCond .le 40, 3), (7, .aload_n 0, 1), (8, .invokevirtual 161, 3), (11, .invokestatic 164, 3), (14, .iload_n 1, 1), (15, .if_icmp .lt 29, 3), (18, .aload_n 0, 1), (19, .dup, 1), (20, .getfield 158, 3), (23, .iconst 1, 1), (24, .isub, 1), (25, .putfield 158, 3), (28, .aload_n 0, 1), (29, .aload_n 0, 1), (30, .getfield 50, 3), (33, .aload_n 0, 1), (34, .getfield 158, 3), (37, .iaload, 1), (38, .invokevirtual 167, 3), (41, .goto (-41), 3), (44, .return_, 1)]
set_option maxRecDepth 20000 in
theorem oX9_lets : CtOk mX9_lets.2.1 tX9_lets := by unfold CtOk; decide +kernel
set_option maxRecDepth 20000 in
theorem kX9_lets : MK mX9_lets := ⟨tj7 142 (by rfl) rfl, tj1 10 (by rfl) rfl, by decide +kernel, by decide +kernel, by decide +kernel⟩
theorem vX9_lets : MKv mX9_lets 9 := ⟨tj7 141 (by rfl) rfl, tb0 43 (by rfl) rfl, _, _, rfl⟩
def mX9_fails : Mi := (yX9_fails, cX9_fails, 2, some .boolean, 1)
def tX9_fails : Ct := [(0, .aload_n 0, 1), (1, .iload_n 1, 1), (2, .putfield 171, 3), (5, .aload_n 0, 1), (6, .aload_n 0, 1), (7, .getfield 152, 3), (10, .putfield 38, 3), (13, .iconst 0, 1), (14, .ireturn, 1)]
set_option maxRecDepth 20000 in
theorem oX9_fails : CtOk mX9_fails.2.1 tX9_fails := by unfold CtOk; decide +kernel
set_option maxRecDepth 20000 in
theorem kX9_fails : MK mX9_fails := ⟨tj7 157 (by rfl) rfl, tj1 10 (by rfl) rfl, by decide +kernel, by decide +kernel, by decide +kernel⟩
theorem vX9_fails : MKv mX9_fails 9 := ⟨tj7 156 (by rfl) rfl, tb0 46 (by rfl) rfl, _, _, rfl⟩
def mX9_isWrong : Mi := (yX9_isWrong, cX9_isWrong, 1, some .boolean, 0)
def tX9_isWrong : Ct := [(0, .aload_n 0, 1), (1, .aload_n 0, 1), (2, .getfield 152, 3), (5, .aload_n 0, 1), (6, .getfield 149, 3), (9, .if_icmp .ne 7, 3), (12, .iconst 2, 1), (13, .goto 4, 3), (16, .iconst 1, 1), (17, .invokevirtual 174, 3), (20, .ireturn, 1)]
set_option maxRecDepth 20000 in
theorem oX9_isWrong : CtOk mX9_isWrong.2.1 tX9_isWrong := by unfold CtOk; decide +kernel
set_option maxRecDepth 20000 in
theorem kX9_isWrong : MK mX9_isWrong := ⟨tj7 173 (by rfl) rfl, tj1 10 (by rfl) rfl, by decide +kernel, by decide +kernel, by decide +kernel⟩
theorem vX9_isWrong : MKv mX9_isWrong 9 := ⟨tj7 172 (by rfl) rfl, tb0 50 (by rfl) rfl, _, _, rfl⟩
def mX9_isBegun : Mi := (yX9_isBegun, cX9_isBegun, 3, some .boolean, 0)
def tX9_isBegun : Ct := [(0, .aload_n 0, 1), (1, .invokevirtual 178, 3), (4, .istore_n 1, 1), (5, .aload_n 0, 1), (6, .iconst 1, 1), (7, .putfield 181, 3), (10, .iload_n 1, 1), (11, .bipush 48, 2), (13, .bipush 57, 2), (15, .invokestatic 103, 3), (18, .ifCond .ne 14, 3), (21, .iload_n 1, 1), (22, .bipush 97, 2), (24, .bipush 100, 2), (26, .invokestatic 103, 3), (29, .ifCond .eq 72, 3), (32, .iload_n 1, 1), (33, .bipush 57, 2), (35, .if_icmp .le 20, 3), (38, .iload_n 1, 1), (39, .bipush 97, 2), (41, .isub, 1), (42, .aload_n 0, 1), (43, .getfield 13, 3), (46, .if_icmp .lt 9, 3), (49, .aload_n 0, 1), (50, .iconst 3, 1), (51, .invokevirtual 174, 3), (54, .ireturn, 1), (55, .aload_n 0, 1), (56, .iload_n 1, 1), (57, .bipush 57, 2), (59, .if_icmp .gt 10, 3), (62, .iload_n 1, 1), (63, .bipush 48, 2), (65, .isub, 1), (66, .goto 10, 3), (69, .bipush 10, 2), (71, .iload_n 1, 1), (72, .iadd, 1), (73, .bipush 97, 2), (75, .isub, 1), (76, .invokevirtual 167, 3), (79, .aload_n 0, 1), (80, .dup, 1), (81, .getfield 152, 3), (84, .iconst 1, 1), (85, .iadd, 1), (86, .putfield 152, 3), (89, .aload_n 0, 1), (90, .iconst 4, 1), (91, .invokevirtual 185, 3), (94, .aload_n 0, 1), (95, .iconst 0, 1), (96, .putfield 181, 3), (99, .iconst 1, 1), (100, .ireturn, 1), (101, .iload_n 1, 1), (102, .bipush 33, 2), (104, .if_icmp .eq 9, 3), (107, .iload_n 1, 1), (108, .bipush 40, 2), (110, .if_icmp .ne 20, 3), (113, .aload_n 0, 1), (114, .iload_n 1, 1), (115, .invokevirtual 188, 3), (118, .aload_n 0, 1), (119, .dup, 1), (120, .getfield 152, 3), (123, .iconst 1, 1), (124, .iadd, 1), (125, .putfield 152, 3), (128, .iconst 1, 1), (129, .ireturn, 1), (130, .iload_n 1, 1), (131, .bipush 109, 2), (133, .if_icmp .eq 8, 3), (136, .aload_n 0, 1), (137, .invokevirtual 191, 3), (140, .ireturn, 1), (141, .aload_n 0, 1), (142, .dup, 1), (143, .getfield 152, 3), (146, .iconst 1, 1), (147, .iadd, 1), (148, .putfield 152, 3), (151, .aload_n 0, 1), (152, .invokevirtual 178, 3), (155, .istore_n 2, 1), (156, .iload_n 2, 1), (157, .bipush 105, 2), (159, .if_icmp .eq 14, 3), (162, .iload_n 2, 1), (163, .bipush 97, 2), (165, .if_icmp .eq 8, 3), (168, .aload_n 0, 1), (169, .invokevirtual 191, 3), (172, .ireturn, 1), (173, .aload_n 0, 1), (174, .dup, 1), (175, .getfield 152, 3), (178, .iconst 1, 1), (179, .iadd, 1), (180, .putfield 152, 3), (183, .aload_n 0, 1), (184, .invokevirtual 178, 3), (187, .iload_n 2, 1), (188, .bipush 105, 2), (190, .if_icmp .ne 8, 3), (193, .bipush 110, 2), (195, .goto 5, 3), (198, .bipush 120, 2), (200, .if_icmp .eq 8, 3), (203, .aload_n 0, 1), (204, .invokevirtual 191, 3), (207, .ireturn, 1), (208, .aload_n 0, 1), (209, .dup, 1), (210, .getfield 152, 3), (213, .iconst 1, 1), (214, .iadd, 1), (215, .putfield 152, 3), (218, .aload_n 0, 1), (219, .invokevirtual 178, 3), (222, .bipush 40, 2), (224, .if_icmp .eq 8, 3), (227, .aload_n 0, 1), (228, .invokevirtual 191, 3), (231, .ireturn, 1), (232, .aload_n 0, 1), (233, .dup, 1), (234, .getfield 152, 3), (237, .iconst 1, 1), (238, .iadd, 1), (239, .putfield 152, 3), (242, .aload_n 0, 1), (243, .iload_n 2, 1), (244, .invokevirtual 188, 3), (247, .iconst 1, 1), (248, .ireturn, 1)]
set_option maxRecDepth 20000 in
theorem oX9_isBegun : CtOk mX9_isBegun.2.1 tX9_isBegun := by unfold CtOk; decide +kernel
set_option maxRecDepth 20000 in
theorem kX9_isBegun : MK mX9_isBegun := ⟨tj7 161 (by rfl) rfl, tj1 10 (by rfl) rfl, by decide +kernel, by decide +kernel, by decide +kernel⟩
theorem vX9_isBegun : MKv mX9_isBegun 9 := ⟨tj7 160 (by rfl) rfl, tb0 47 (by rfl) rfl, _, _, rfl⟩
def mX9_isGone : Mi := (yX9_isGone, cX9_isGone, 6, some .boolean, 0)
def tX9_isGone : Ct := [(0, .aload_n 0, 1), (1, .invokevirtual 178, 3), (4, .istore_n 1, 1), (5, .iload_n 1, 1), (6, .invokestatic 164, 3), (9, .istore_n 2, 1), (10, .iload_n 2, 1), (11, .ifCond .le 65, 3), (14, .iload_n 2, 1), (15, .iconst 4, 1), (16, .if_icmp .ge 60, 3), (19, .aload_n 0, 1), (20, .iload_n 2, 1), (21, .iconst 1, 1), (22, .if_icmp .ne 7, 3), (25, .iconst 2, 1), (26, .goto 4, 3), (29, .iload_n 2, 1), (30, .invokevirtual 185, 3), (33, .iload_n 2, 1), (34, .iconst 1, 1), (35, .if_icmp .ne 19, 3), (38, .aload_n 0, 1), (39, .invokevirtual 161, 3), (42, .invokestatic 164, 3), (45, .iconst 1, 1), (46, .if_icmp .ne 8, 3), (49, .aload_n 0, 1), (50, .invokevirtual 191, 3), (53, .ireturn, 1), (54, .aload_n 0, 1), (55, .iload_n 1, 1), (56, .invokevirtual 188, 3), (59, .aload_n 0, 1), (60, .iconst 1, 1), (61, .putfield 181, 3), (64, .aload_n 0, 1), (65, .dup, 1), (66, .getfield 152, 3), (69, .iconst 1, 1), (70, .iadd, 1), (71, .putfield 152, 3), (74, .iconst 1, 1), (75, .ireturn, 1), (76, .iload_n 1, 1), (77, .bipush 44, 2), (79, .if_icmp .eq 14, 3), (82, .iload_n 1, 1), (83, .bipush 41, 2), (85, .if_icmp .eq 8, 3), (88, .aload_n 0, 1), (89, .invokevirtual 191, 3), (92, .ireturn, 1), (93, .aload_n 0, 1), (94, .iconst 1, 1), (95, .invokevirtual 185, 3), (98, .aload_n 0, 1), (99, .invokevirtual 161, 3), (102, .istore_n 3, 1), (103, .iload_n 3, 1), (104, .bipush 105, 2), (106, .if_icmp .eq 9, 3), (109, .iload_n 3, 1), (110, .bipush 97, 2), (112, .if_icmp .ne 7, 3), (115, .iconst 1, 1), (116, .goto 4, 3), (119, .iconst 0, 1), (120, .istore 4, 2), (122, .iload_n 3, 1), (123, .bipush 73, 2), (125, .if_icmp .eq 9, 3), (128, .iload_n 3, 1), (129, .bipush 65, 2), (131, .if_icmp .ne 7, 3), (134, .iconst 1, 1), (135, .goto 4, 3), (138, .iconst 0, 1), (139, .istore 5, 2), (141, .iload_n 1, 1), (142, .bipush 44, 2), (144, .if_icmp .ne 11, 3), (147, .iload 4, 2), (149, .ifCond .ne 22, 3), (152, .goto 14, 3), (155, .iload 5, 2), (157, .ifCond .ne 14, 3), (160, .iload_n 3, 1), (161, .bipush 40, 2), (163, .if_icmp .eq 8, 3), (166, .aload_n 0, 1), (167, .invokevirtual 191, 3), (170, .ireturn, 1), (171, .aload_n 0, 1), (172, .dup, 1), (173, .getfield 152, 3), (176, .iconst 1, 1), (177, .iadd, 1), (178, .putfield 152, 3), (181, .iload_n 1, 1), (182, .bipush 44, 2), (184, .if_icmp .ne 28, 3), (187, .aload_n 0, 1), (188, .getfield 50, 3), (191, .aload_n 0, 1), (192, .getfield 158, 3), (195, .iconst 1, 1), (196, .isub, 1), (197, .iload_n 3, 1), (198, .bipush 97, 2), (200, .isub, 1), (201, .bipush 65, 2), (203, .iadd, 1), (204, .iastore, 1), (205, .aload_n 0, 1), (206, .iconst 1, 1), (207, .putfield 181, 3), (210, .iconst 1, 1), (211, .ireturn, 1), (212, .aload_n 0, 1), (213, .dup, 1), (214, .getfield 158, 3), (217, .iconst 1, 1), (218, .isub, 1), (219, .putfield 158, 3), (222, .iload 5, 2), (224, .ifCond .eq 8, 3), (227, .aload_n 0, 1), (228, .iload_n 3, 1), (229, .invokevirtual 167, 3), (232, .aload_n 0, 1), (233, .iconst 4, 1), (234, .invokevirtual 185, 3), (237, .iconst 1, 1), (238, .ireturn, 1)]
set_option maxRecDepth 20000 in
theorem oX9_isGone : CtOk mX9_isGone.2.1 tX9_isGone := by unfold CtOk; decide +kernel
set_option maxRecDepth 20000 in
theorem kX9_isGone : MK mX9_isGone := ⟨tj7 177 (by rfl) rfl, tj1 10 (by rfl) rfl, by decide +kernel, by decide +kernel, by decide +kernel⟩
theorem vX9_isGone : MKv mX9_isGone 9 := ⟨tj7 176 (by rfl) rfl, tb0 51 (by rfl) rfl, _, _, rfl⟩
def mX9_isFormula : Mi := (yX9_isFormula, cX9_isFormula, 1, some .boolean, 0)
def tX9_isFormula : Ct := [(0, .aload_n 0, 1), (1, .iconst 0, 1), (2, .putfield 152, 3), (5, .aload_n 0, 1), (6, .iconst 0, 1), (7, .putfield 155, 3), (10, .aload_n 0, 1), (11, .iconst 0, 1), (12, .putfield 158, 3), (15, .aload_n 0, 1), (16, .iconst 1, 1), (17, .putfield 181, 3), (20, .aload_n 0, 1), (21, .getfield 181, 3), (24, .ifCond .ne 21, 3), (27, .aload_n 0, 1), (28, .getfield 152, 3), (31, .aload_n 0, 1), (32, .getfield 149, 3), (35, .if_icmp .lt 10, 3), (38, .aload_n 0, 1), (39, .getfield 158, 3), (42, .ifCond .le 67, 3), (45, .aload_n 0, 1), (46, .getfield 181, 3), (49, .ifCond .ne 34, 3), (52, .aload_n 0, 1), (53, .getfield 152, 3), (56, .aload_n 0, 1), (57, .getfield 149, 3), (60, .if_icmp .ne 23, 3), (63, .aload_n 0, 1), (64, .iconst 1, 1), (65, .invokevirtual 185, 3), (68, .aload_n 0, 1), (69, .getfield 158, 3), (72, .ifCond .le 9, 3), (75, .aload_n 0, 1), (76, .iconst 2, 1), (77, .invokevirtual 174, 3), (80, .ireturn, 1), (81, .iconst 1, 1), (82, .ireturn, 1), (83, .aload_n 0, 1), (84, .getfield 181, 3), (87, .ifCond .eq 13, 3), (90, .aload_n 0, 1), (91, .invokevirtual 195, 3), (94, .ifCond .ne (-74), 3), (97, .goto 10, 3), (100, .aload_n 0, 1), (101, .invokevirtual 198, 3), (104, .ifCond .ne (-84), 3), (107, .iconst 0, 1), (108, .ireturn, 1), (109, .iconst 1, 1), (110, .ireturn, 1)]
set_option maxRecDepth 20000 in
theorem oX9_isFormula : CtOk mX9_isFormula.2.1 tX9_isFormula := by unfold CtOk; decide +kernel
set_option maxRecDepth 20000 in
theorem kX9_isFormula : MK mX9_isFormula := ⟨tj7 138 (by rfl) rfl, tj1 10 (by rfl) rfl, by decide +kernel, by decide +kernel, by decide +kernel⟩
theorem vX9_isFormula : MKv mX9_isFormula 9 := ⟨tj7 137 (by rfl) rfl, tb0 42 (by rfl) rfl, _, _, rfl⟩
def mX9_value : Mi := (yX9_value, cX9_value, 7, some .int, 1)
def tX9_value : Ct := [(0, .iconst 0, 1), (1, .istore_n 2, 1), (2, .aload_n 0, 1), (3, .iconst 0, 1), (4, .putfield 201, 3), (7, .iconst 0, 1), (8, .istore_n 3, 1), (9, .iload_n 3, 1), (10, .aload_n 0, 1), (11, .getfield 155, 3), (14, .if_icmp .ge 328, 3), (17, .aload_n 0, 1), (18, .getfield 47, 3), (21, .iload_n 3, 1), (22, .iaload, 1), (23, .istore 4, 2), (25, .iload 4, 2), (27, .bipush 14, 2), (29, .if_icmp .ge 50, 3), (32, .aload_n 0, 1), (33, .getfield 53, 3), (36, .iload_n 2, 1), (37, .iload 4, 2), (39, .bipush 10, 2), (41, .if_icmp .ge 8, 3), (44, .iload 4, 2), (46, .goto 26, 3), (49, .iload_n 1, 1), (50, .aload_n 0, 1), (51, .aload_n 0, 1), (52, .getfield 13, 3), (55, .iconst 1, 1), (56, .isub, 1), (57, .iload 4, 2), (59, .bipush 10, 2), (61, .isub, 1), (62, .isub, 1), (63, .invokevirtual 99, 3), (66, .idiv, 1), (67, .aload_n 0, 1), (68, .getfield 7, 3), (71, .irem, 1), (72, .iastore, 1), (73, .iinc 2 1, 3), (76, .goto 260, 3), (79, .iload 4, 2), (81, .bipush 33, 2), (83, .if_icmp .ne 30, 3), (86, .aload_n 0, 1), (87, .getfield 53, 3), (90, .iload_n 2, 1), (91, .iconst 1, 1), (92, .isub, 1), (93, .aload_n 0, 1), (94, .getfield 53, 3), (97, .iload_n 2, 1), (98, .iconst 1, 1), (99, .isub, 1), (100, .iaload, 1), (101, .ifCond .ne 7, 3), (104, .iconst 1, 1), (105, .goto 4, 3), (108, .iconst 0, 1), (109, .iastore, 1), (110, .goto 226, 3), (113, .iinc 2 (-1), 3), (116, .aload_n 0, 1), (117, .getfield 53, 3), (120, .iload_n 2, 1), (121, .iconst 1, 1), (122, .isub, 1), (123, .iaload, 1), (124, .istore 5, 2), (126, .aload_n 0, 1), (127, .getfield 53, 3), (130, .iload_n 2, 1), (131, .iaload, 1), (132, .istore 6, 2), (134, .iload 6, 2), (136, .ifCond .ne 35, 3), (139, .iload 4, 2), (141, .bipush 47, 2), (143, .if_icmp .eq 10, 3), (146, .iload 4, 2), (148, .bipush 37, 2), (150, .if_icmp .ne 21, 3), (153, .aload_n 0, 1), (154, .iload 4, 2), (156, .bipush 47, 2), (158, .if_icmp .ne 7, 3), (161, .iconst 4, 1), (162, .goto 4, 3), (165, .iconst 5, 1), (166, .putfield 201, 3), (169, .iconst 0, 1), (170, .ireturn, 1), (171, .aload_n 0, 1), (172, .getfield 53, 3), (175, .iload_n 2, 1), (176, .iconst 1, 1), (177, .isub, 1), (178, .iload 4, 2), (180, .bipush 43, 2), (182, .if_icmp .ne 11, 3), (185, .iload 5, 2), (187, .iload 6, 2), (189, .iadd, 1), (190, .goto 145, 3), (193, .iload 4, 2), (195, .bipush 45, 2), (197, .if_icmp .ne 11, 3), (200, .iload 5, 2), (202, .iload 6, 2), (204, .isub, 1), (205, .goto 130, 3), (208, .iload 4, 2), (210, .bipush 42, 2), (212, .if_icmp .ne 11, 3), (215, .iload 5, 2), (217, .iload 6, 2), (219, .imul, 1), (220, .goto 115, 3), (223, .iload 4, 2), (225, .bipush 47, 2), (227, .if_icmp .ne 11, 3), (230, .iload 5, 2), (232, .iload 6, 2), (234, .idiv, 1), (235, .goto 100, 3), (238, .iload 4, 2), (240, .bipush 37, 2), (242, .if_icmp .ne 11, 3), (245, .iload 5, 2), (247, .iload 6, 2), (249, .irem, 1), (250, .goto 85, 3), (253, .iload 4, 2), (255, .bipush 61, 2), (257, .if_icmp .ne 18, 3), (260, .iload 5, 2), (262, .iload 6, 2), (264, .if_icmp .ne 7, 3), (267, .iconst 1, 1), (268, .goto 67, 3), (271, .iconst 0, 1), (272, .goto 63, 3), (275, .iload 4, 2), (277, .bipush 60, 2), (279, .if_icmp .ne 18, 3), (282, .iload 5, 2), (284, .iload 6, 2), (286, .if_icmp .ge 7, 3), (289, .iconst 1, 1), (290, .goto 45, 3), (293, .iconst 0, 1), (294, .goto 41, 3), (297, .iload 4, 2), (299, .bipush 73, 2), (301, .if_icmp .ne 20, 3), (304, .iload 5, 2), (306, .iload 6, 2), (308, .if_icmp .ge 8, 3), (311, .iload 5, 2), (313, .goto 22, 3), (316, .iload 6, 2), (318, .goto 17, 3), (321, .iload 5, 2), (323, .iload 6, 2), (325, .if_icmp .le 8, 3), (328, .iload 5, 2), (330, .goto 5, 3), (333, .iload 6, 2), (335, .iastore, 1), (336, .iinc 3 1, 3), (339, .goto (-330), 3), (342, .aload_n 0, 1), (343, .getfield 53, 3), (346, .iconst 0, 1), (347, .iaload, 1), (348, .aload_n 0, 1), (349, .getfield 7, 3), (352, .irem, 1), (353, .istore_n 3, 1), (354, .iload_n 3, 1), (355, .ifCond .ge 12, 3), (358, .iload_n 3, 1), (359, .aload_n 0, 1), (360, .getfield 7, 3), (363, .iadd, 1), (364, .goto 4, 3), (367, .iload_n 3, 1), (368, .ireturn, 1)]
set_option maxRecDepth 20000 in
theorem oX9_value : CtOk mX9_value.2.1 tX9_value := by unfold CtOk; decide +kernel
set_option maxRecDepth 20000 in
theorem kX9_value : MK mX9_value := ⟨tj7 181 (by rfl) rfl, tj1 10 (by rfl) rfl, by decide +kernel, by decide +kernel, by decide +kernel⟩
theorem vX9_value : MKv mX9_value 9 := ⟨tj7 180 (by rfl) rfl, tb0 52 (by rfl) rfl, _, _, rfl⟩
def mX9_compile : Mi := (yX9_compile, cX9_compile, 3, some .int, 0)
def tX9_compile : Ct := [(0, .aload_n 0, 1), (1, .iconst 0, 1), (2, .putfield 96, 3), (5, .aload_n 0, 1), (6, .iconst 0, 1), (7, .putfield 171, 3), (10, .aload_n 0, 1), (11, .iconst (-1), 1), (12, .putfield 38, 3), (15, .aload_n 0, 1), (16, .invokevirtual 204, 3), (19, .istore_n 1, 1), (20, .aload_n 0, 1), (21, .iconst 0, 1), (22, .putfield 149, 3), (25, .iload_n 1, 1), (26, .ifCond .ne 9, 3), (29, .aload_n 0, 1), (30, .iconst 1, 1), (31, .invokevirtual 111, 3), (34, .ireturn, 1), (35, .iconst 0, 1), (36, .istore_n 2, 1), (37, .iload_n 2, 1), (38, .aload_n 0, 1), (39, .invokevirtual 114, 3), (42, .if_icmp .ge 49, 3), (45, .aload_n 0, 1), (46, .getfield 41, 3), (49, .iload_n 2, 1), (50, .aload_n 0, 1), (51, .iload_n 2, 1), (52, .invokevirtual 207, 3), (55, .iastore, 1), (56, .aload_n 0, 1), (57, .getfield 201, 3), (60, .ifCond .ne 6, 3), (63, .goto 22, 3), (66, .aload_n 0, 1), (67, .aload_n 0, 1), (68, .getfield 201, 3), (71, .putfield 171, 3), (74, .aload_n 0, 1), (75, .iload_n 2, 1), (76, .putfield 38, 3), (79, .aload_n 0, 1), (80, .iconst 2, 1), (81, .invokevirtual 111, 3), (84, .ireturn, 1), (85, .iinc 2 1, 3), (88, .goto (-51), 3), (91, .aload_n 0, 1), (92, .invokevirtual 121, 3), (95, .ireturn, 1)]
set_option maxRecDepth 20000 in
theorem oX9_compile : CtOk mX9_compile.2.1 tX9_compile := by unfold CtOk; decide +kernel
set_option maxRecDepth 20000 in
theorem kX9_compile : MK mX9_compile := ⟨tj7 134 (by rfl) rfl, tj1 10 (by rfl) rfl, by decide +kernel, by decide +kernel, by decide +kernel⟩
theorem vX9_compile : MKv mX9_compile 9 := ⟨tj7 132 (by rfl) rfl, tj7 133 (by rfl) rfl, _, _, rfl⟩
def mX9_error : Mi := (yX9_error, cX9_error, 2, some .int, 1)
def tX9_error : Ct := [(0, .aload_n 0, 1), (1, .iconst 0, 1), (2, .putfield 96, 3), (5, .iload_n 1, 1), (6, .iconst 0, 1), (7, .iconst 1, 1), (8, .invokestatic 103, 3), (11, .ifCond .ne 11, 3), (14, .aload_n 0, 1), (15, .iconst 1, 1), (16, .invokevirtual 111, 3), (19, .goto 18, 3), (22, .iload_n 1, 1), (23, .ifCond .ne 10, 3), (26, .aload_n 0, 1), (27, .getfield 171, 3), (30, .goto 7, 3), (33, .aload_n 0, 1), (34, .getfield 38, 3), (37, .ireturn, 1)]
set_option maxRecDepth 20000 in
theorem oX9_error : CtOk mX9_error.2.1 tX9_error := by unfold CtOk; decide +kernel
set_option maxRecDepth 20000 in
theorem kX9_error : MK mX9_error := ⟨tj7 185 (by rfl) rfl, tj1 10 (by rfl) rfl, by decide +kernel, by decide +kernel, by decide +kernel⟩
theorem vX9_error : MKv mX9_error 9 := ⟨tj7 183 (by rfl) rfl, tj7 184 (by rfl) rfl, _, _, rfl⟩
def mX9_isRegister : Mi := (yX9_isRegister, cX9_isRegister, 1, some .boolean, 1)
def tX9_isRegister : Ct := [(0, .iload_n 0, 1), (1, .iconst 0, 1), (2, .iconst 3, 1), (3, .invokestatic 103, 3), (6, .ireturn, 1)]
set_option maxRecDepth 20000 in
theorem oX9_isRegister : CtOk mX9_isRegister.2.1 tX9_isRegister := by unfold CtOk; decide +kernel
set_option maxRecDepth 20000 in
theorem kX9_isRegister : MK mX9_isRegister := ⟨tj7 196 (by rfl) rfl, tj1 10 (by rfl) rfl, by decide +kernel, by decide +kernel, by decide +kernel⟩
theorem sX9_isRegister : Cond.static mX9_isRegister.1 ∈ TSg := tj7 195 (by rfl) rfl
def mX9_isOne : Mi := (yX9_isOne, cX9_isOne, 2, some .boolean, 1)
def tX9_isOne : Ct := [(0, .aload_n 0, 1), (1, .iload_n 1, 1), (2, .invokestatic 210, 3), (5, .ifCond .eq 7, 3), (8, .iconst 0, 1), (9, .goto 4, 3), (12, .iconst 1, 1), (13, .putfield 96, 3), (16, .aload_n 0, 1), (17, .getfield 96, 3), (20, .ifCond .ne 7, 3), (23, .iconst 1, 1), (24, .goto 4, 3), (27, .iconst 0, 1), (28, .ireturn, 1)]
set_option maxRecDepth 20000 in
theorem oX9_isOne : CtOk mX9_isOne.2.1 tX9_isOne := by unfold CtOk; decide +kernel
set_option maxRecDepth 20000 in
theorem kX9_isOne : MK mX9_isOne := ⟨tj7 193 (by rfl) rfl, tj1 10 (by rfl) rfl, by decide +kernel, by decide +kernel, by decide +kernel⟩
theorem vX9_isOne : MKv mX9_isOne 9 := ⟨tj7 192 (by rfl) rfl, tb0 53 (by rfl) rfl, _, _, rfl⟩
def mX9_setWord : Mi := (yX9_setWord, cX9_setWord, 5, some .int, 3)
def tX9_setWord : Ct := [(0, .aload_n 0, 1), (1, .iload_n 1, 1), (2, .invokevirtual 213, 3), (5, .ifCond .ne 5, 3), (8, .iconst 0, 1), (9, .ireturn, 1), (10, .iload_n 2, 1), (11, .iconst 0, 1), (12, .bipush 14, 2), (14, .invokestatic 103, 3), (17, .ifCond .eq 18, 3), (20, .iload_n 3, 1), (21, .iconst 0, 1), (22, .aload_n 0, 1), (23, .iload_n 2, 1), (24, .invokevirtual 99, 3), (27, .iconst 1, 1), (28, .isub, 1), (29, .invokestatic 103, 3), (32, .ifCond .ne 9, 3), (35, .aload_n 0, 1), (36, .iconst 2, 1), (37, .invokevirtual 111, 3), (40, .ireturn, 1), (41, .aload_n 0, 1), (42, .getfield 20, 3), (45, .iload_n 1, 1), (46, .iaload, 1), (47, .istore 4, 2), (49, .aload_n 0, 1), (50, .getfield 20, 3), (53, .iload_n 1, 1), (54, .iload_n 2, 1), (55, .iastore, 1), (56, .aload_n 0, 1), (57, .getfield 23, 3), (60, .iload_n 1, 1), (61, .iload_n 3, 1), (62, .iastore, 1), (63, .iload 4, 2), (65, .ireturn, 1)]
set_option maxRecDepth 20000 in
theorem oX9_setWord : CtOk mX9_setWord.2.1 tX9_setWord := by unfold CtOk; decide +kernel
set_option maxRecDepth 20000 in
theorem kX9_setWord : MK mX9_setWord := ⟨tj7 189 (by rfl) rfl, tj1 10 (by rfl) rfl, by decide +kernel, by decide +kernel, by decide +kernel⟩
theorem vX9_setWord : MKv mX9_setWord 9 := ⟨tj7 187 (by rfl) rfl, tj7 188 (by rfl) rfl, _, _, rfl⟩
def mX9_wordLength : Mi := (yX9_wordLength, cX9_wordLength, 2, some .int, 1)
def tX9_wordLength : Ct := [(0, .aload_n 0, 1), (1, .iload_n 1, 1), (2, .invokevirtual 213, 3), (5, .ifCond .eq 12, 3), (8, .aload_n 0, 1), (9, .getfield 20, 3), (12, .iload_n 1, 1), (13, .iaload, 1), (14, .goto 4, 3), (17, .iconst 0, 1), (18, .ireturn, 1)]
set_option maxRecDepth 20000 in
theorem oX9_wordLength : CtOk mX9_wordLength.2.1 tX9_wordLength := by unfold CtOk; decide +kernel
set_option maxRecDepth 20000 in
theorem kX9_wordLength : MK mX9_wordLength := ⟨tj7 200 (by rfl) rfl, tj1 10 (by rfl) rfl, by decide +kernel, by decide +kernel, by decide +kernel⟩
theorem vX9_wordLength : MKv mX9_wordLength 9 := ⟨tj7 198 (by rfl) rfl, tj7 199 (by rfl) rfl, _, _, rfl⟩
def mX9_wordIndex : Mi := (yX9_wordIndex, cX9_wordIndex, 2, some .int, 1)
def tX9_wordIndex : Ct := [(0, .aload_n 0, 1), (1, .iload_n 1, 1), (2, .invokevirtual 213, 3), (5, .ifCond .eq 12, 3), (8, .aload_n 0, 1), (9, .getfield 23, 3), (12, .iload_n 1, 1), (13, .iaload, 1), (14, .goto 4, 3), (17, .iconst 0, 1), (18, .ireturn, 1)]
set_option maxRecDepth 20000 in
theorem oX9_wordIndex : CtOk mX9_wordIndex.2.1 tX9_wordIndex := by unfold CtOk; decide +kernel
set_option maxRecDepth 20000 in
theorem kX9_wordIndex : MK mX9_wordIndex := ⟨tj7 204 (by rfl) rfl, tj1 10 (by rfl) rfl, by decide +kernel, by decide +kernel, by decide +kernel⟩
theorem vX9_wordIndex : MKv mX9_wordIndex 9 := ⟨tj7 202 (by rfl) rfl, tj7 203 (by rfl) rfl, _, _, rfl⟩
def mX9_cellOf : Mi := (yX9_cellOf, cX9_cellOf, 3, some .int, 2)
def tX9_cellOf : Ct := [(0, .aload_n 0, 1), (1, .getfield 23, 3), (4, .iload_n 1, 1), (5, .iaload, 1), (6, .aload_n 0, 1), (7, .aload_n 0, 1), (8, .getfield 20, 3), (11, .iload_n 1, 1), (12, .iaload, 1), (13, .iconst 1, 1), (14, .isub, 1), (15, .iload_n 2, 1), (16, .isub, 1), (17, .invokevirtual 99, 3), (20, .idiv, 1), (21, .aload_n 0, 1), (22, .getfield 7, 3), (25, .irem, 1), (26, .ireturn, 1)]
set_option maxRecDepth 20000 in
theorem oX9_cellOf : CtOk mX9_cellOf.2.1 tX9_cellOf := by unfold CtOk; decide +kernel
set_option maxRecDepth 20000 in
theorem kX9_cellOf : MK mX9_cellOf := ⟨tj7 212 (by rfl) rfl, tj1 10 (by rfl) rfl, by decide +kernel, by decide +kernel, by decide +kernel⟩
theorem vX9_cellOf : MKv mX9_cellOf 9 := ⟨tj7 211 (by rfl) rfl, tb0 54 (by rfl) rfl, _, _, rfl⟩
def mX9_cell : Mi := (yX9_cell, cX9_cell, 3, some .int, 2)
def tX9_cell : Ct := [(0, .aload_n 0, 1), (1, .iload_n 1, 1), (2, .invokestatic 210, 3), (5, .ifCond .eq 23, 3), (8, .iload_n 2, 1), (9, .iconst 0, 1), (10, .aload_n 0, 1), (11, .getfield 20, 3), (14, .iload_n 1, 1), (15, .iaload, 1), (16, .iconst 1, 1), (17, .isub, 1), (18, .invokestatic 103, 3), (21, .ifCond .eq 7, 3), (24, .iconst 0, 1), (25, .goto 4, 3), (28, .iconst 1, 1), (29, .putfield 96, 3), (32, .aload_n 0, 1), (33, .getfield 96, 3), (36, .ifCond .ne 12, 3), (39, .aload_n 0, 1), (40, .iload_n 1, 1), (41, .iload_n 2, 1), (42, .invokevirtual 216, 3), (45, .goto 4, 3), (48, .iconst 0, 1), (49, .ireturn, 1)]
set_option maxRecDepth 20000 in
theorem oX9_cell : CtOk mX9_cell.2.1 tX9_cell := by unfold CtOk; decide +kernel
set_option maxRecDepth 20000 in
theorem kX9_cell : MK mX9_cell := ⟨tj7 208 (by rfl) rfl, tj1 10 (by rfl) rfl, by decide +kernel, by decide +kernel, by decide +kernel⟩
theorem vX9_cell : MKv mX9_cell 9 := ⟨tj7 206 (by rfl) rfl, tj7 207 (by rfl) rfl, _, _, rfl⟩
def mX9_apply : Mi := (yX9_apply, cX9_apply, 3, some .int, 2)
def tX9_apply : Ct := [(0, .aload_n 0, 1), (1, .iload_n 1, 1), (2, .invokevirtual 213, 3), (5, .ifCond .ne 5, 3), (8, .iconst 0, 1), (9, .ireturn, 1), (10, .aload_n 0, 1), (11, .getfield 20, 3), (14, .iload_n 1, 1), (15, .iaload, 1), (16, .iload_n 2, 1), (17, .ifCond .eq 7, 3), (20, .iconst 1, 1), (21, .goto 7, 3), (24, .aload_n 0, 1), (25, .getfield 13, 3), (28, .if_icmp .ge 9, 3), (31, .aload_n 0, 1), (32, .iconst 2, 1), (33, .invokevirtual 111, 3), (36, .ireturn, 1), (37, .aload_n 0, 1), (38, .getfield 23, 3), (41, .iload_n 1, 1), (42, .iload_n 2, 1), (43, .ifCond .eq 22, 3), (46, .aload_n 0, 1), (47, .aload_n 0, 1), (48, .getfield 23, 3), (51, .iload_n 1, 1), (52, .iaload, 1), (53, .aload_n 0, 1), (54, .getfield 20, 3), (57, .iload_n 1, 1), (58, .iaload, 1), (59, .invokevirtual 219, 3), (62, .goto 27, 3), (65, .aload_n 0, 1), (66, .aload_n 0, 1), (67, .getfield 23, 3), (70, .iload_n 1, 1), (71, .iaload, 1), (72, .aload_n 0, 1), (73, .getfield 20, 3), (76, .iload_n 1, 1), (77, .iaload, 1), (78, .aload_n 0, 1), (79, .getfield 16, 3), (82, .aload_n 0, 1), (83, .getfield 13, 3), (86, .invokevirtual 145, 3), (89, .iastore, 1), (90, .aload_n 0, 1), (91, .getfield 20, 3), (94, .iload_n 1, 1), (95, .dup2, 1), (96, .iaload, 1), (97, .iload_n 2, 1), (98, .ifCond .eq 7, 3), (101, .iconst 0, 1), (102, .goto 9, 3), (105, .aload_n 0, 1), (106, .getfield 13, 3), (109, .iconst 1, 1), (110, .isub, 1), (111, .isub, 1), (112, .iastore, 1), (113, .aload_n 0, 1), (114, .getfield 20, 3), (117, .iload_n 1, 1), (118, .iaload, 1), (119, .ireturn, 1)]
set_option maxRecDepth 20000 in
theorem oX9_apply : CtOk mX9_apply.2.1 tX9_apply := by unfold CtOk; decide +kernel
set_option maxRecDepth 20000 in
theorem kX9_apply : MK mX9_apply := ⟨tj7 216 (by rfl) rfl, tj1 10 (by rfl) rfl, by decide +kernel, by decide +kernel, by decide +kernel⟩
theorem vX9_apply : MKv mX9_apply 9 := ⟨tj7 214 (by rfl) rfl, tj7 215 (by rfl) rfl, _, _, rfl⟩
def mX9_orbit : Mi := (yX9_orbit, cX9_orbit, 5, some .int, 2)
def tX9_orbit : Ct := [(0, .aload_n 0, 1), (1, .iconst 0, 1), (2, .putfield 96, 3), (5, .iload_n 1, 1), (6, .invokestatic 210, 3), (9, .ifCond .eq 12, 3), (12, .iload_n 2, 1), (13, .iconst 0, 1), (14, .iconst 1, 1), (15, .invokestatic 103, 3), (18, .ifCond .ne 9, 3), (21, .aload_n 0, 1), (22, .iconst 1, 1), (23, .invokevirtual 111, 3), (26, .ireturn, 1), (27, .aload_n 0, 1), (28, .getfield 20, 3), (31, .iload_n 1, 1), (32, .iaload, 1), (33, .iconst 1, 1), (34, .bipush 8, 2), (36, .invokestatic 103, 3), (39, .ifCond .ne 9, 3), (42, .aload_n 0, 1), (43, .iconst 2, 1), (44, .invokevirtual 111, 3), (47, .ireturn, 1), (48, .iconst 0, 1), (49, .istore_n 3, 1), (50, .iload_n 3, 1), (51, .sipush 6561, 3), (54, .if_icmp .ge 16, 3), (57, .aload_n 0, 1), (58, .getfield 56, 3), (61, .iload_n 3, 1), (62, .iconst 0, 1), (63, .iastore, 1), (64, .iinc 3 1, 3), (67, .goto (-17), 3), (70, .aload_n 0, 1), (71, .getfield 23, 3), (74, .iload_n 1, 1), (75, .iaload, 1), (76, .istore_n 3, 1), (77, .iconst 1, 1), (78, .istore 4, 2), (80, .aload_n 0, 1), (81, .getfield 56, 3), (84, .iload_n 3, 1), (85, .iaload, 1), (86, .ifCond .ne 29, 3), (89, .aload_n 0, 1), (90, .getfield 56, 3), (93, .iload_n 3, 1), (94, .iload 4, 2), (96, .iastore, 1), (97, .iinc 4 1, 3), (100, .aload_n 0, 1), (101, .iload_n 3, 1), (102, .aload_n 0, 1), (103, .getfield 20, 3), (106, .iload_n 1, 1), (107, .iaload, 1), (108, .invokevirtual 219, 3), (111, .istore_n 3, 1), (112, .goto (-32), 3), (115, .iload_n 2, 1), (116, .ifCond .ne 14, 3), (119, .aload_n 0, 1), (120, .getfield 56, 3), (123, .iload_n 3, 1), (124, .iaload, 1), (125, .iconst 1, 1), (126, .isub, 1), (127, .goto 12, 3), (130, .iload 4, 2), (132, .aload_n 0, 1), (133, .getfield 56, 3), (136, .iload_n 3, 1), (137, .iaload, 1), (138, .isub, 1), (139, .ireturn, 1)]
set_option maxRecDepth 20000 in
theorem oX9_orbit : CtOk mX9_orbit.2.1 tX9_orbit := by unfold CtOk; decide +kernel
set_option maxRecDepth 20000 in
theorem kX9_orbit : MK mX9_orbit := ⟨tj7 224 (by rfl) rfl, tj1 10 (by rfl) rfl, by decide +kernel, by decide +kernel, by decide +kernel⟩
theorem vX9_orbit : MKv mX9_orbit 9 := ⟨tj7 222 (by rfl) rfl, tj7 223 (by rfl) rfl, _, _, rfl⟩
def mX9_goal : Mi := (yX9_goal, cX9_goal, 3, some .int, 2)
def tX9_goal : Ct := [(0, .iload_n 1, 1), (1, .aload_n 0, 1), (2, .aload_n 0, 1), (3, .getfield 13, 3), (6, .iconst 2, 1), (7, .isub, 1), (8, .invokevirtual 99, 3), (11, .irem, 1), (12, .aload_n 0, 1), (13, .getfield 7, 3), (16, .imul, 1), (17, .iload_n 2, 1), (18, .iadd, 1), (19, .ireturn, 1)]
set_option maxRecDepth 20000 in
theorem oX9_goal : CtOk mX9_goal.2.1 tX9_goal := by unfold CtOk; decide +kernel
set_option maxRecDepth 20000 in
theorem kX9_goal : MK mX9_goal := ⟨tj8 4 (by rfl) rfl, tj1 10 (by rfl) rfl, by decide +kernel, by decide +kernel, by decide +kernel⟩
theorem vX9_goal : MKv mX9_goal 9 := ⟨tj8 3 (by rfl) rfl, tb0 59 (by rfl) rfl, _, _, rfl⟩
def mX9_label : Mi := (yX9_label, cX9_label, 3, some .int, 2)
def tX9_label : Ct := [(0, .aload_n 0, 1), (1, .getfield 16, 3), (4, .iload_n 1, 1), (5, .aload_n 0, 1), (6, .getfield 7, 3), (9, .imul, 1), (10, .iload_n 2, 1), (11, .iadd, 1), (12, .iaload, 1), (13, .ireturn, 1)]
set_option maxRecDepth 20000 in
theorem oX9_label : CtOk mX9_label.2.1 tX9_label := by unfold CtOk; decide +kernel
set_option maxRecDepth 20000 in
theorem kX9_label : MK mX9_label := ⟨tj8 0 (by rfl) rfl, tj1 10 (by rfl) rfl, by decide +kernel, by decide +kernel, by decide +kernel⟩
theorem vX9_label : MKv mX9_label 9 := ⟨tj7 239 (by rfl) rfl, tb0 58 (by rfl) rfl, _, _, rfl⟩
def mX9_findsWays : Mi := (yX9_findsWays, cX9_findsWays, 8, none, 2)
def tX9_findsWays : Ct := [(0, .aload_n 0, 1), (1, .invokevirtual 118, 3), (4, .istore_n 3, 1), (5, .iconst 0, 1), (6, .istore 4, 2), (8, .iload 4, 2), (10, .iload_n 3, 1), (11, .if_icmp .ge 41, 3), (14, .aload_n 0, 1), (15, .getfield 59, 3), (18, .bipush 9, 2), (20, .aload_n 0, 1), (21, .getfield 20, 3), (24, .iload_n 1, 1), (25, .iaload, 1), (26, .imul, 1), (27, .iload 4, 2), (29, .iadd, 1), (30, .iload_n 2, 1), (31, .ifCond .lt 9, 3), (34, .iload_n 2, 1), (35, .iload 4, 2), (37, .if_icmp .ne 7, 3), (40, .iconst 1, 1), (41, .goto 4, 3), (44, .iconst 0, 1), (45, .iastore, 1), (46, .iinc 4 1, 3), (49, .goto (-41), 3), (52, .aload_n 0, 1), (53, .getfield 20, 3), (56, .iload_n 1, 1), (57, .iaload, 1), (58, .iconst 1, 1), (59, .isub, 1), (60, .istore 4, 2), (62, .iload 4, 2), (64, .ifCond .lt 108, 3), (67, .iconst 0, 1), (68, .istore 5, 2), (70, .iload 5, 2), (72, .iload_n 3, 1), (73, .if_icmp .ge 93, 3), (76, .iconst 0, 1), (77, .istore 6, 2), (79, .iconst 0, 1), (80, .istore 7, 2), (82, .iload 7, 2), (84, .aload_n 0, 1), (85, .getfield 7, 3), (88, .if_icmp .ge 57, 3), (91, .iload 6, 2), (93, .aload_n 0, 1), (94, .iload 5, 2), (96, .iload 7, 2), (98, .invokevirtual 222, 3), (101, .aload_n 0, 1), (102, .iload_n 1, 1), (103, .iload 4, 2), (105, .invokevirtual 216, 3), (108, .if_icmp .ne 27, 3), (111, .aload_n 0, 1), (112, .getfield 59, 3), (115, .bipush 9, 2), (117, .iload 4, 2), (119, .iconst 1, 1), (120, .iadd, 1), (121, .imul, 1), (122, .aload_n 0, 1), (123, .iload 5, 2), (125, .iload 7, 2), (127, .invokevirtual 225, 3), (130, .iadd, 1), (131, .iaload, 1), (132, .goto 4, 3), (135, .iconst 0, 1), (136, .iadd, 1), (137, .istore 6, 2), (139, .iinc 7 1, 3), (142, .goto (-60), 3), (145, .aload_n 0, 1), (146, .getfield 59, 3), (149, .bipush 9, 2), (151, .iload 4, 2), (153, .imul, 1), (154, .iload 5, 2), (156, .iadd, 1), (157, .iload 6, 2), (159, .iastore, 1), (160, .iinc 5 1, 3), (163, .goto (-93), 3), (166, .iinc 4 (-1), 3), (169, .goto (-107), 3), (172, .return_, 1)]
set_option maxRecDepth 20000 in
theorem oX9_findsWays : CtOk mX9_findsWays.2.1 tX9_findsWays := by unfold CtOk; decide +kernel
set_option maxRecDepth 20000 in
theorem kX9_findsWays : MK mX9_findsWays := ⟨tj7 236 (by rfl) rfl, tj1 10 (by rfl) rfl, by decide +kernel, by decide +kernel, by decide +kernel⟩
theorem vX9_findsWays : MKv mX9_findsWays 9 := ⟨tj7 235 (by rfl) rfl, tb0 57 (by rfl) rfl, _, _, rfl⟩
def mX9_count : Mi := (yX9_count, cX9_count, 5, some .int, 2)
def tX9_count : Ct := [(0, .iload_n 2, 1), (1, .ifCond .eq 14, 3), (4, .aload_n 0, 1), (5, .getfield 20, 3), (8, .iload_n 1, 1), (9, .iaload, 1), (10, .ifCond .ne 5, 3), (13, .iconst 0, 1), (14, .ireturn, 1), (15, .iconst 0, 1), (16, .istore_n 3, 1), (17, .iconst 0, 1), (18, .istore 4, 2), (20, .iload 4, 2), (22, .aload_n 0, 1), (23, .invokevirtual 118, 3), (26, .if_icmp .ge 43, 3), (29, .iload_n 2, 1), (30, .ifCond .ne 8, 3), (33, .iload 4, 2), (35, .ifCond .ne 18, 3), (38, .aload_n 0, 1), (39, .iload_n 1, 1), (40, .iload_n 2, 1), (41, .ifCond .eq 8, 3), (44, .iload 4, 2), (46, .goto 4, 3), (49, .iconst (-1), 1), (50, .invokevirtual 228, 3), (53, .iload_n 3, 1), (54, .aload_n 0, 1), (55, .getfield 59, 3), (58, .iload 4, 2), (60, .iaload, 1), (61, .iadd, 1), (62, .istore_n 3, 1), (63, .iinc 4 1, 3), (66, .goto (-46), 3), (69, .iload_n 3, 1), (70, .ireturn, 1)]
set_option maxRecDepth 20000 in
theorem oX9_count : CtOk mX9_count.2.1 tX9_count := by unfold CtOk; decide +kernel
set_option maxRecDepth 20000 in
theorem kX9_count : MK mX9_count := ⟨tj7 232 (by rfl) rfl, tj1 10 (by rfl) rfl, by decide +kernel, by decide +kernel, by decide +kernel⟩
theorem vX9_count : MKv mX9_count 9 := ⟨tj7 231 (by rfl) rfl, tb0 56 (by rfl) rfl, _, _, rfl⟩
def mX9_preimageCount : Mi := (yX9_preimageCount, cX9_preimageCount, 3, some .int, 2)
def tX9_preimageCount : Ct := [(0, .aload_n 0, 1), (1, .iload_n 1, 1), (2, .invokevirtual 213, 3), (5, .ifCond .eq 12, 3), (8, .aload_n 0, 1), (9, .iload_n 1, 1), (10, .iload_n 2, 1), (11, .invokevirtual 232, 3), (14, .goto 4, 3), (17, .iconst 0, 1), (18, .ireturn, 1)]
set_option maxRecDepth 20000 in
theorem oX9_preimageCount : CtOk mX9_preimageCount.2.1 tX9_preimageCount := by unfold CtOk; decide +kernel
set_option maxRecDepth 20000 in
theorem kX9_preimageCount : MK mX9_preimageCount := ⟨tj7 228 (by rfl) rfl, tj1 10 (by rfl) rfl, by decide +kernel, by decide +kernel, by decide +kernel⟩
theorem vX9_preimageCount : MKv mX9_preimageCount 9 := ⟨tj7 226 (by rfl) rfl, tj7 227 (by rfl) rfl, _, _, rfl⟩
def mX9_shortOne : Mi := (yX9_shortOne, cX9_shortOne, 5, some .int, 2)
def tX9_shortOne : Ct := [(0, .iload_n 2, 1), (1, .istore_n 3, 1), (2, .iconst 0, 1), (3, .istore 4, 2), (5, .iload 4, 2), (7, .aload_n 0, 1), (8, .aload_n 0, 1), (9, .getfield 20, 3), (12, .iload_n 1, 1), (13, .iaload, 1), (14, .invokevirtual 99, 3), (17, .if_icmp .ge 43, 3), (20, .aload_n 0, 1), (21, .iload 4, 2), (23, .aload_n 0, 1), (24, .getfield 20, 3), (27, .iload_n 1, 1), (28, .iaload, 1), (29, .invokevirtual 219, 3), (32, .aload_n 0, 1), (33, .getfield 23, 3), (36, .iload_n 1, 1), (37, .iaload, 1), (38, .if_icmp .eq 6, 3), (41, .goto 13, 3), (44, .iload_n 3, 1), (45, .ifCond .ne 6, 3), (48, .iload 4, 2), (50, .ireturn, 1), (51, .iinc 3 (-1), 3), (54, .iinc 4 1, 3), (57, .goto (-52), 3), (60, .iconst (-1), 1), (61, .ireturn, 1)]
set_option maxRecDepth 20000 in
theorem oX9_shortOne : CtOk mX9_shortOne.2.1 tX9_shortOne := by unfold CtOk; decide +kernel
set_option maxRecDepth 20000 in
theorem kX9_shortOne : MK mX9_shortOne := ⟨tj8 12 (by rfl) rfl, tj1 10 (by rfl) rfl, by decide +kernel, by decide +kernel, by decide +kernel⟩
theorem vX9_shortOne : MKv mX9_shortOne 9 := ⟨tj8 11 (by rfl) rfl, tb0 60 (by rfl) rfl, _, _, rfl⟩
def mX9_longOne : Mi := (yX9_longOne, cX9_longOne, 12, some .int, 3)
def tX9_longOne : Ct := [(0, .iload_n 3, 1), (1, .istore 4, 2), (3, .iload_n 2, 1), (4, .ifCond .eq 19, 3), (7, .aload_n 0, 1), (8, .getfield 20, 3), (11, .iload_n 1, 1), (12, .iaload, 1), (13, .aload_n 0, 1), (14, .getfield 13, 3), (17, .iconst 1, 1), (18, .isub, 1), (19, .isub, 1), (20, .goto 9, 3), (23, .aload_n 0, 1), (24, .getfield 20, 3), (27, .iload_n 1, 1), (28, .iaload, 1), (29, .istore 5, 2), (31, .iconst 0, 1), (32, .istore 6, 2), (34, .aload_n 0, 1), (35, .iload_n 1, 1), (36, .iload_n 2, 1), (37, .ifCond .eq 7, 3), (40, .iconst 0, 1), (41, .goto 4, 3), (44, .iconst (-1), 1), (45, .invokevirtual 228, 3), (48, .iload 4, 2), (50, .aload_n 0, 1), (51, .getfield 59, 3), (54, .iload 6, 2), (56, .iaload, 1), (57, .if_icmp .lt 32, 3), (60, .iload 4, 2), (62, .aload_n 0, 1), (63, .getfield 59, 3), (66, .iload 6, 2), (68, .iaload, 1), (69, .isub, 1), (70, .istore 4, 2), (72, .iinc 6 1, 3), (75, .iload_n 2, 1), (76, .ifCond .eq (-28), 3), (79, .aload_n 0, 1), (80, .iload_n 1, 1), (81, .iload 6, 2), (83, .invokevirtual 228, 3), (86, .goto (-38), 3), (89, .iload 6, 2), (91, .istore 7, 2), (93, .iconst 0, 1), (94, .istore 8, 2), (96, .iload 8, 2), (98, .iload 5, 2), (100, .if_icmp .ge 122, 3), (103, .iconst 0, 1), (104, .istore 9, 2), (106, .iconst 1, 1), (107, .istore 10, 2), (109, .iload 10, 2), (111, .ifCond .eq 83, 3), (114, .aload_n 0, 1), (115, .iload 6, 2), (117, .iload 9, 2), (119, .invokevirtual 222, 3), (122, .aload_n 0, 1), (123, .iload_n 1, 1), (124, .iload 8, 2), (126, .invokevirtual 216, 3), (129, .if_icmp .ne 27, 3), (132, .aload_n 0, 1), (133, .getfield 59, 3), (136, .bipush 9, 2), (138, .iload 8, 2), (140, .iconst 1, 1), (141, .iadd, 1), (142, .imul, 1), (143, .aload_n 0, 1), (144, .iload 6, 2), (146, .iload 9, 2), (148, .invokevirtual 225, 3), (151, .iadd, 1), (152, .iaload, 1), (153, .goto 4, 3), (156, .iconst 0, 1), (157, .istore 11, 2), (159, .iload 4, 2), (161, .iload 11, 2), (163, .if_icmp .lt 7, 3), (166, .iconst 1, 1), (167, .goto 4, 3), (170, .iconst 0, 1), (171, .istore 10, 2), (173, .iload 10, 2), (175, .ifCond .ne 6, 3), (178, .goto (-69), 3), (181, .iload 4, 2), (183, .iload 11, 2), (185, .isub, 1), (186, .istore 4, 2), (188, .iinc 9 1, 3), (191, .goto (-82), 3), (194, .iload 7, 2), (196, .aload_n 0, 1), (197, .getfield 7, 3), (200, .imul, 1), (201, .iload 9, 2), (203, .iadd, 1), (204, .istore 7, 2), (206, .aload_n 0, 1), (207, .iload 6, 2), (209, .iload 9, 2), (211, .invokevirtual 225, 3), (214, .istore 6, 2), (216, .iinc 8 1, 3), (219, .goto (-123), 3), (222, .iload 7, 2), (224, .ireturn, 1)]
set_option maxRecDepth 20000 in
theorem oX9_longOne : CtOk mX9_longOne.2.1 tX9_longOne := by unfold CtOk; decide +kernel
set_option maxRecDepth 20000 in
theorem kX9_longOne : MK mX9_longOne := ⟨tj8 16 (by rfl) rfl, tj1 10 (by rfl) rfl, by decide +kernel, by decide +kernel, by decide +kernel⟩
theorem vX9_longOne : MKv mX9_longOne 9 := ⟨tj8 15 (by rfl) rfl, tb0 61 (by rfl) rfl, _, _, rfl⟩
def mX9_preimage : Mi := (yX9_preimage, cX9_preimage, 7, some .int, 4)
def tX9_preimage : Ct := [(0, .aload_n 0, 1), (1, .iconst 0, 1), (2, .putfield 96, 3), (5, .iload_n 1, 1), (6, .invokestatic 210, 3), (9, .ifCond .eq 11, 3), (12, .iload 4, 2), (14, .invokestatic 210, 3), (17, .ifCond .ne 9, 3), (20, .aload_n 0, 1), (21, .iconst 1, 1), (22, .invokevirtual 111, 3), (25, .ireturn, 1), (26, .iload_n 2, 1), (27, .ifCond .eq 12, 3), (30, .aload_n 0, 1), (31, .getfield 20, 3), (34, .iload_n 1, 1), (35, .iaload, 1), (36, .goto 16, 3), (39, .aload_n 0, 1), (40, .getfield 20, 3), (43, .iload_n 1, 1), (44, .iaload, 1), (45, .aload_n 0, 1), (46, .getfield 13, 3), (49, .iadd, 1), (50, .iconst 1, 1), (51, .isub, 1), (52, .istore 5, 2), (54, .iload 5, 2), (56, .bipush 14, 2), (58, .if_icmp .le 9, 3), (61, .aload_n 0, 1), (62, .iconst 2, 1), (63, .invokevirtual 111, 3), (66, .ireturn, 1), (67, .iload_n 3, 1), (68, .ifCond .lt 13, 3), (71, .iload_n 3, 1), (72, .aload_n 0, 1), (73, .iload_n 1, 1), (74, .iload_n 2, 1), (75, .invokevirtual 232, 3), (78, .if_icmp .lt 9, 3), (81, .aload_n 0, 1), (82, .iconst 3, 1), (83, .invokevirtual 111, 3), (86, .ireturn, 1), (87, .iload_n 2, 1), (88, .ifCond .eq 27, 3), (91, .aload_n 0, 1), (92, .getfield 20, 3), (95, .iload_n 1, 1), (96, .iaload, 1), (97, .aload_n 0, 1), (98, .getfield 13, 3), (101, .iconst 1, 1), (102, .isub, 1), (103, .if_icmp .ge 12, 3), (106, .aload_n 0, 1), (107, .iload_n 1, 1), (108, .iload_n 3, 1), (109, .invokevirtual 236, 3), (112, .goto 10, 3), (115, .aload_n 0, 1), (116, .iload_n 1, 1), (117, .iload_n 2, 1), (118, .iload_n 3, 1), (119, .invokevirtual 239, 3), (122, .istore 6, 2), (124, .aload_n 0, 1), (125, .getfield 20, 3), (128, .iload 4, 2), (130, .iload 5, 2), (132, .iastore, 1), (133, .aload_n 0, 1), (134, .getfield 23, 3), (137, .iload 4, 2), (139, .iload 6, 2), (141, .iastore, 1), (142, .iload 6, 2), (144, .ireturn, 1)]
set_option maxRecDepth 20000 in
theorem oX9_preimage : CtOk mX9_preimage.2.1 tX9_preimage := by unfold CtOk; decide +kernel
set_option maxRecDepth 20000 in
theorem kX9_preimage : MK mX9_preimage := ⟨tj8 8 (by rfl) rfl, tj1 10 (by rfl) rfl, by decide +kernel, by decide +kernel, by decide +kernel⟩
theorem vX9_preimage : MKv mX9_preimage 9 := ⟨tj8 6 (by rfl) rfl, tj8 7 (by rfl) rfl, _, _, rfl⟩
def mX9_preimagesBetween : Mi := (yX9_preimagesBetween, cX9_preimagesBetween, 4, some .int, 3)
def tX9_preimagesBetween : Ct := [(0, .aload_n 0, 1), (1, .iconst 0, 1), (2, .putfield 96, 3), (5, .iload_n 1, 1), (6, .invokestatic 210, 3), (9, .ifCond .eq 31, 3), (12, .iload_n 2, 1), (13, .iconst 0, 1), (14, .aload_n 0, 1), (15, .invokevirtual 118, 3), (18, .iconst 1, 1), (19, .isub, 1), (20, .invokestatic 103, 3), (23, .ifCond .eq 17, 3), (26, .iload_n 3, 1), (27, .iconst 0, 1), (28, .aload_n 0, 1), (29, .invokevirtual 118, 3), (32, .iconst 1, 1), (33, .isub, 1), (34, .invokestatic 103, 3), (37, .ifCond .ne 9, 3), (40, .aload_n 0, 1), (41, .iconst 1, 1), (42, .invokevirtual 111, 3), (45, .ireturn, 1), (46, .aload_n 0, 1), (47, .iload_n 1, 1), (48, .iload_n 3, 1), (49, .invokevirtual 228, 3), (52, .aload_n 0, 1), (53, .getfield 59, 3), (56, .iload_n 2, 1), (57, .iaload, 1), (58, .ireturn, 1)]
set_option maxRecDepth 20000 in
theorem oX9_preimagesBetween : CtOk mX9_preimagesBetween.2.1 tX9_preimagesBetween := by unfold CtOk; decide +kernel
set_option maxRecDepth 20000 in
theorem kX9_preimagesBetween : MK mX9_preimagesBetween := ⟨tj8 20 (by rfl) rfl, tj1 10 (by rfl) rfl, by decide +kernel, by decide +kernel, by decide +kernel⟩
theorem vX9_preimagesBetween : MKv mX9_preimagesBetween 9 := ⟨tj8 18 (by rfl) rfl, tj8 19 (by rfl) rfl, _, _, rfl⟩
def mX9_preimages : Mi := (yX9_preimages, cX9_preimages, 8, some .int, 2)
def tX9_preimages : Ct := [(0, .aload_n 0, 1), (1, .invokevirtual 118, 3), (4, .istore_n 3, 1), (5, .iconst 0, 1), (6, .istore 4, 2), (8, .iload 4, 2), (10, .iload_n 3, 1), (11, .if_icmp .ge 17, 3), (14, .aload_n 0, 1), (15, .getfield 62, 3), (18, .iload 4, 2), (20, .iconst 1, 1), (21, .iastore, 1), (22, .iinc 4 1, 3), (25, .goto (-17), 3), (28, .iconst 0, 1), (29, .istore 4, 2), (31, .iload 4, 2), (33, .iload_n 2, 1), (34, .if_icmp .ge 153, 3), (37, .iload_n 1, 1), (38, .aload_n 0, 1), (39, .iload_n 2, 1), (40, .iconst 1, 1), (41, .isub, 1), (42, .iload 4, 2), (44, .isub, 1), (45, .invokevirtual 99, 3), (48, .idiv, 1), (49, .aload_n 0, 1), (50, .getfield 7, 3), (53, .irem, 1), (54, .istore 5, 2), (56, .iconst 0, 1), (57, .istore 6, 2), (59, .iload 6, 2), (61, .iload_n 3, 1), (62, .if_icmp .ge 17, 3), (65, .aload_n 0, 1), (66, .getfield 65, 3), (69, .iload 6, 2), (71, .iconst 0, 1), (72, .iastore, 1), (73, .iinc 6 1, 3), (76, .goto (-17), 3), (79, .iconst 0, 1), (80, .istore 6, 2), (82, .iload 6, 2), (84, .iload_n 3, 1), (85, .if_icmp .ge 67, 3), (88, .iconst 0, 1), (89, .istore 7, 2), (91, .iload 7, 2), (93, .aload_n 0, 1), (94, .getfield 7, 3), (97, .if_icmp .ge 49, 3), (100, .aload_n 0, 1), (101, .getfield 65, 3), (104, .aload_n 0, 1), (105, .iload 6, 2), (107, .iload 7, 2), (109, .invokevirtual 225, 3), (112, .dup2, 1), (113, .iaload, 1), (114, .aload_n 0, 1), (115, .iload 6, 2), (117, .iload 7, 2), (119, .invokevirtual 222, 3), (122, .iload 5, 2), (124, .if_icmp .ne 13, 3), (127, .aload_n 0, 1), (128, .getfield 62, 3), (131, .iload 6, 2), (133, .iaload, 1), (134, .goto 4, 3), (137, .iconst 0, 1), (138, .iadd, 1), (139, .iastore, 1), (140, .iinc 7 1, 3), (143, .goto (-52), 3), (146, .iinc 6 1, 3), (149, .goto (-67), 3), (152, .iconst 0, 1), (153, .istore 6, 2), (155, .iload 6, 2), (157, .iload_n 3, 1), (158, .if_icmp .ge 23, 3), (161, .aload_n 0, 1), (162, .getfield 62, 3), (165, .iload 6, 2), (167, .aload_n 0, 1), (168, .getfield 65, 3), (171, .iload 6, 2), (173, .iaload, 1), (174, .iastore, 1), (175, .iinc 6 1, 3), (178, .goto (-23), 3), (181, .iinc 4 1, 3), (184, .goto (-153), 3), (187, .iconst 0, 1), (188, .istore 4, 2), (190, .iconst 0, 1), (191, .istore 5, 2), (193, .iload 5, 2), (195, .iload_n 3, 1), (196, .if_icmp .ge 21, 3), (199, .iload 4, 2), (201, .aload_n 0, 1), (202, .getfield 62, 3), (205, .iload 5, 2), (207, .iaload, 1), (208, .iadd, 1), (209, .istore 4, 2), (211, .iinc 5 1, 3), (214, .goto (-21), 3), (217, .iload 4, 2), (219, .ireturn, 1)]
set_option maxRecDepth 20000 in
theorem oX9_preimages : CtOk mX9_preimages.2.1 tX9_preimages := by unfold CtOk; decide +kernel
set_option maxRecDepth 20000 in
theorem kX9_preimages : MK mX9_preimages := ⟨tj8 28 (by rfl) rfl, tj1 10 (by rfl) rfl, by decide +kernel, by decide +kernel, by decide +kernel⟩
theorem vX9_preimages : MKv mX9_preimages 9 := ⟨tj8 27 (by rfl) rfl, tb0 62 (by rfl) rfl, _, _, rfl⟩
def mX9_wordsWith : Mi := (yX9_wordsWith, cX9_wordsWith, 5, some .int, 2)
def tX9_wordsWith : Ct := [(0, .aload_n 0, 1), (1, .iconst 0, 1), (2, .putfield 96, 3), (5, .iload_n 1, 1), (6, .iconst 0, 1), (7, .bipush 7, 2), (9, .invokestatic 103, 3), (12, .ifCond .ne 9, 3), (15, .aload_n 0, 1), (16, .iconst 1, 1), (17, .invokevirtual 111, 3), (20, .ireturn, 1), (21, .iconst 0, 1), (22, .istore_n 3, 1), (23, .iconst 0, 1), (24, .istore 4, 2), (26, .iload 4, 2), (28, .aload_n 0, 1), (29, .iload_n 1, 1), (30, .invokevirtual 99, 3), (33, .if_icmp .ge 28, 3), (36, .iload_n 3, 1), (37, .aload_n 0, 1), (38, .iload 4, 2), (40, .iload_n 1, 1), (41, .invokevirtual 243, 3), (44, .iload_n 2, 1), (45, .if_icmp .ne 7, 3), (48, .iconst 1, 1), (49, .goto 4, 3), (52, .iconst 0, 1), (53, .iadd, 1), (54, .istore_n 3, 1), (55, .iinc 4 1, 3), (58, .goto (-32), 3), (61, .iload_n 3, 1), (62, .ireturn, 1)]
set_option maxRecDepth 20000 in
theorem oX9_wordsWith : CtOk mX9_wordsWith.2.1 tX9_wordsWith := by unfold CtOk; decide +kernel
set_option maxRecDepth 20000 in
theorem kX9_wordsWith : MK mX9_wordsWith := ⟨tj8 24 (by rfl) rfl, tj1 10 (by rfl) rfl, by decide +kernel, by decide +kernel, by decide +kernel⟩
theorem vX9_wordsWith : MKv mX9_wordsWith 9 := ⟨tj8 22 (by rfl) rfl, tj8 23 (by rfl) rfl, _, _, rfl⟩
def mX9_mostPreimages : Mi := (yX9_mostPreimages, cX9_mostPreimages, 5, some .int, 1)
def tX9_mostPreimages : Ct := [(0, .aload_n 0, 1), (1, .iconst 0, 1), (2, .putfield 96, 3), (5, .iload_n 1, 1), (6, .iconst 0, 1), (7, .bipush 7, 2), (9, .invokestatic 103, 3), (12, .ifCond .ne 9, 3), (15, .aload_n 0, 1), (16, .iconst 1, 1), (17, .invokevirtual 111, 3), (20, .ireturn, 1), (21, .iconst 0, 1), (22, .istore_n 2, 1), (23, .iconst 0, 1), (24, .istore_n 3, 1), (25, .iload_n 3, 1), (26, .aload_n 0, 1), (27, .iload_n 1, 1), (28, .invokevirtual 99, 3), (31, .if_icmp .ge 30, 3), (34, .aload_n 0, 1), (35, .iload_n 3, 1), (36, .iload_n 1, 1), (37, .invokevirtual 243, 3), (40, .istore 4, 2), (42, .iload 4, 2), (44, .iload_n 2, 1), (45, .if_icmp .le 8, 3), (48, .iload 4, 2), (50, .goto 4, 3), (53, .iload_n 2, 1), (54, .istore_n 2, 1), (55, .iinc 3 1, 3), (58, .goto (-33), 3), (61, .iload_n 2, 1), (62, .ireturn, 1)]
set_option maxRecDepth 20000 in
theorem oX9_mostPreimages : CtOk mX9_mostPreimages.2.1 tX9_mostPreimages := by unfold CtOk; decide +kernel
set_option maxRecDepth 20000 in
theorem kX9_mostPreimages : MK mX9_mostPreimages := ⟨tj8 32 (by rfl) rfl, tj1 10 (by rfl) rfl, by decide +kernel, by decide +kernel, by decide +kernel⟩
theorem vX9_mostPreimages : MKv mX9_mostPreimages 9 := ⟨tj8 30 (by rfl) rfl, tj8 31 (by rfl) rfl, _, _, rfl⟩
def mX9_fixedWords : Mi := (yX9_fixedWords, cX9_fixedWords, 4, some .int, 1)
def tX9_fixedWords : Ct := [(0, .aload_n 0, 1), (1, .iconst 0, 1), (2, .putfield 96, 3), (5, .iload_n 1, 1), (6, .iconst 1, 1), (7, .bipush 8, 2), (9, .invokestatic 103, 3), (12, .ifCond .ne 9, 3), (15, .aload_n 0, 1), (16, .iconst 1, 1), (17, .invokevirtual 111, 3), (20, .ireturn, 1), (21, .iconst 0, 1), (22, .istore_n 2, 1), (23, .iconst 0, 1), (24, .istore_n 3, 1), (25, .iload_n 3, 1), (26, .aload_n 0, 1), (27, .iload_n 1, 1), (28, .invokevirtual 99, 3), (31, .if_icmp .ge 27, 3), (34, .iload_n 2, 1), (35, .aload_n 0, 1), (36, .iload_n 3, 1), (37, .iload_n 1, 1), (38, .invokevirtual 219, 3), (41, .iload_n 3, 1), (42, .if_icmp .ne 7, 3), (45, .iconst 1, 1), (46, .goto 4, 3), (49, .iconst 0, 1), (50, .iadd, 1), (51, .istore_n 2, 1), (52, .iinc 3 1, 3), (55, .goto (-30), 3), (58, .iload_n 2, 1), (59, .ireturn, 1)]
set_option maxRecDepth 20000 in
theorem oX9_fixedWords : CtOk mX9_fixedWords.2.1 tX9_fixedWords := by unfold CtOk; decide +kernel
set_option maxRecDepth 20000 in
theorem kX9_fixedWords : MK mX9_fixedWords := ⟨tj8 36 (by rfl) rfl, tj1 10 (by rfl) rfl, by decide +kernel, by decide +kernel, by decide +kernel⟩
theorem vX9_fixedWords : MKv mX9_fixedWords 9 := ⟨tj8 34 (by rfl) rfl, tj8 35 (by rfl) rfl, _, _, rfl⟩
def mX9_edge : Mi := (yX9_edge, cX9_edge, 4, some .int, 3)
def tX9_edge : Ct := [(0, .aload_n 0, 1), (1, .iconst 0, 1), (2, .putfield 96, 3), (5, .iload_n 1, 1), (6, .iconst 0, 1), (7, .aload_n 0, 1), (8, .invokevirtual 118, 3), (11, .iconst 1, 1), (12, .isub, 1), (13, .invokestatic 103, 3), (16, .ifCond .eq 26, 3), (19, .iload_n 2, 1), (20, .iconst 0, 1), (21, .aload_n 0, 1), (22, .getfield 7, 3), (25, .iconst 1, 1), (26, .isub, 1), (27, .invokestatic 103, 3), (30, .ifCond .eq 12, 3), (33, .iload_n 3, 1), (34, .iconst 0, 1), (35, .iconst 1, 1), (36, .invokestatic 103, 3), (39, .ifCond .ne 9, 3), (42, .aload_n 0, 1), (43, .iconst 1, 1), (44, .invokevirtual 111, 3), (47, .ireturn, 1), (48, .iload_n 3, 1), (49, .ifCond .ne 12, 3), (52, .aload_n 0, 1), (53, .iload_n 1, 1), (54, .iload_n 2, 1), (55, .invokevirtual 225, 3), (58, .goto 9, 3), (61, .aload_n 0, 1), (62, .iload_n 1, 1), (63, .iload_n 2, 1), (64, .invokevirtual 222, 3), (67, .ireturn, 1)]
set_option maxRecDepth 20000 in
theorem oX9_edge : CtOk mX9_edge.2.1 tX9_edge := by unfold CtOk; decide +kernel
set_option maxRecDepth 20000 in
theorem kX9_edge : MK mX9_edge := ⟨tj8 40 (by rfl) rfl, tj1 10 (by rfl) rfl, by decide +kernel, by decide +kernel, by decide +kernel⟩
theorem vX9_edge : MKv mX9_edge 9 := ⟨tj8 38 (by rfl) rfl, tj8 39 (by rfl) rfl, _, _, rfl⟩
def mX9_successors : Mi := (yX9_successors, cX9_successors, 6, some .int, 2)
def tX9_successors : Ct := [(0, .iconst 0, 1), (1, .istore_n 3, 1), (2, .iconst 0, 1), (3, .istore 4, 2), (5, .iload 4, 2), (7, .aload_n 0, 1), (8, .invokevirtual 118, 3), (11, .if_icmp .ge 68, 3), (14, .iload_n 1, 1), (15, .iload 4, 2), (17, .ishr, 1), (18, .iconst 1, 1), (19, .iand, 1), (20, .ifCond .ne 6, 3), (23, .goto 50, 3), (26, .iconst 0, 1), (27, .istore 5, 2), (29, .iload 5, 2), (31, .aload_n 0, 1), (32, .getfield 7, 3), (35, .if_icmp .ge 38, 3), (38, .iload_n 3, 1), (39, .aload_n 0, 1), (40, .iload 4, 2), (42, .iload 5, 2), (44, .invokevirtual 222, 3), (47, .iload_n 2, 1), (48, .if_icmp .ne 16, 3), (51, .iconst 1, 1), (52, .aload_n 0, 1), (53, .iload 4, 2), (55, .iload 5, 2), (57, .invokevirtual 225, 3), (60, .ishl, 1), (61, .goto 4, 3), (64, .iconst 0, 1), (65, .ior, 1), (66, .istore_n 3, 1), (67, .iinc 5 1, 3), (70, .goto (-41), 3), (73, .iinc 4 1, 3), (76, .goto (-71), 3), (79, .iload_n 3, 1), (80, .ireturn, 1)]
set_option maxRecDepth 20000 in
theorem oX9_successors : CtOk mX9_successors.2.1 tX9_successors := by unfold CtOk; decide +kernel
set_option maxRecDepth 20000 in
theorem kX9_successors : MK mX9_successors := ⟨tj8 56 (by rfl) rfl, tj1 10 (by rfl) rfl, by decide +kernel, by decide +kernel, by decide +kernel⟩
theorem vX9_successors : MKv mX9_successors 9 := ⟨tj8 55 (by rfl) rfl, tb0 65 (by rfl) rfl, _, _, rfl⟩
def mX9_reaches : Mi := (yX9_reaches, cX9_reaches, 5, none, 4)
def tX9_reaches : Ct := [(0, .aload_n 0, 1), (1, .getfield 80, 3), (4, .iload_n 1, 1), (5, .baload, 1), (6, .ifCond .eq 4, 3), (9, .return_, 1), (10, .aload_n 0, 1), (11, .getfield 80, 3), (14, .iload_n 1, 1), (15, .iconst 1, 1), (16, .bastore, 1), (17, .aload_n 0, 1), (18, .getfield 68, 3), (21, .aload_n 0, 1), (22, .getfield 246, 3), (25, .iload_n 1, 1), (26, .iastore, 1), (27, .aload_n 0, 1), (28, .getfield 71, 3), (31, .aload_n 0, 1), (32, .getfield 246, 3), (35, .iload_n 2, 1), (36, .iastore, 1), (37, .aload_n 0, 1), (38, .getfield 74, 3), (41, .aload_n 0, 1), (42, .getfield 246, 3), (45, .iload_n 3, 1), (46, .iastore, 1), (47, .aload_n 0, 1), (48, .getfield 77, 3), (51, .aload_n 0, 1), (52, .getfield 246, 3), (55, .iload 4, 2), (57, .iastore, 1), (58, .iload_n 1, 1), (59, .ifCond .ne 11, 3), (62, .aload_n 0, 1), (63, .aload_n 0, 1), (64, .getfield 246, 3), (67, .putfield 249, 3), (70, .aload_n 0, 1), (71, .dup, 1), (72, .getfield 246, 3), (75, .iconst 1, 1), (76, .iadd, 1), (77, .putfield 246, 3), (80, .return_, 1)]
set_option maxRecDepth 20000 in
theorem oX9_reaches : CtOk mX9_reaches.2.1 tX9_reaches := by unfold CtOk; decide +kernel
set_option maxRecDepth 20000 in
theorem kX9_reaches : MK mX9_reaches := ⟨tj8 52 (by rfl) rfl, tj1 10 (by rfl) rfl, by decide +kernel, by decide +kernel, by decide +kernel⟩
theorem vX9_reaches : MKv mX9_reaches 9 := ⟨tj8 51 (by rfl) rfl, tb0 64 (by rfl) rfl, _, _, rfl⟩
def mX9_findsSets : Mi := (yX9_findsSets, cX9_findsSets, 3, none, 0)
def tX9_findsSets : Ct := [(0, .iconst 0, 1), (1, .istore_n 1, 1), (2, .iload_n 1, 1), (3, .sipush 512, 3), (6, .if_icmp .ge 16, 3), (9, .aload_n 0, 1), (10, .getfield 80, 3), (13, .iload_n 1, 1), (14, .iconst 0, 1), (15, .bastore, 1), (16, .iinc 1 1, 3), (19, .goto (-17), 3), (22, .aload_n 0, 1), (23, .iconst 0, 1), (24, .putfield 246, 3), (27, .aload_n 0, 1), (28, .iconst (-1), 1), (29, .putfield 249, 3), (32, .aload_n 0, 1), (33, .iconst 1, 1), (34, .aload_n 0, 1), (35, .invokevirtual 118, 3), (38, .ishl, 1), (39, .iconst 1, 1), (40, .isub, 1), (41, .iconst (-1), 1), (42, .iconst 0, 1), (43, .iconst 0, 1), (44, .invokevirtual 252, 3), (47, .iconst 0, 1), (48, .istore_n 1, 1), (49, .iload_n 1, 1), (50, .aload_n 0, 1), (51, .getfield 246, 3), (54, .if_icmp .ge 50, 3), (57, .iconst 0, 1), (58, .istore_n 2, 1), (59, .iload_n 2, 1), (60, .aload_n 0, 1), (61, .getfield 7, 3), (64, .if_icmp .ge 34, 3), (67, .aload_n 0, 1), (68, .aload_n 0, 1), (69, .aload_n 0, 1), (70, .getfield 68, 3), (73, .iload_n 1, 1), (74, .iaload, 1), (75, .iload_n 2, 1), (76, .invokevirtual 256, 3), (79, .iload_n 1, 1), (80, .iload_n 2, 1), (81, .aload_n 0, 1), (82, .getfield 77, 3), (85, .iload_n 1, 1), (86, .iaload, 1), (87, .iconst 1, 1), (88, .iadd, 1), (89, .invokevirtual 252, 3), (92, .iinc 2 1, 3), (95, .goto (-36), 3), (98, .iinc 1 1, 3), (101, .goto (-52), 3), (104, .return_, 1)]
set_option maxRecDepth 20000 in
theorem oX9_findsSets : CtOk mX9_findsSets.2.1 tX9_findsSets := by unfold CtOk; decide +kernel
set_option maxRecDepth 20000 in
theorem kX9_findsSets : MK mX9_findsSets := ⟨tj8 48 (by rfl) rfl, tj1 10 (by rfl) rfl, by decide +kernel, by decide +kernel, by decide +kernel⟩
theorem vX9_findsSets : MKv mX9_findsSets 9 := ⟨tj8 47 (by rfl) rfl, tb0 63 (by rfl) rfl, _, _, rfl⟩
def mX9_subsets : Mi := (yX9_subsets, cX9_subsets, 1, some .int, 0)
def tX9_subsets : Ct := [(0, .aload_n 0, 1), (1, .iconst 0, 1), (2, .putfield 96, 3), (5, .aload_n 0, 1), (6, .invokevirtual 259, 3), (9, .aload_n 0, 1), (10, .getfield 246, 3), (13, .ireturn, 1)]
set_option maxRecDepth 20000 in
theorem oX9_subsets : CtOk mX9_subsets.2.1 tX9_subsets := by unfold CtOk; decide +kernel
set_option maxRecDepth 20000 in
theorem kX9_subsets : MK mX9_subsets := ⟨tj8 44 (by rfl) rfl, tj1 10 (by rfl) rfl, by decide +kernel, by decide +kernel, by decide +kernel⟩
theorem vX9_subsets : MKv mX9_subsets 9 := ⟨tj8 42 (by rfl) rfl, tj8 43 (by rfl) rfl, _, _, rfl⟩
def mX9_orphans : Mi := (yX9_orphans, cX9_orphans, 5, some .int, 1)
def tX9_orphans : Ct := [(0, .aload_n 0, 1), (1, .iconst 0, 1), (2, .putfield 96, 3), (5, .iload_n 1, 1), (6, .iconst 0, 1), (7, .bipush 12, 2), (9, .invokestatic 103, 3), (12, .ifCond .ne 9, 3), (15, .aload_n 0, 1), (16, .iconst 1, 1), (17, .invokevirtual 111, 3), (20, .ireturn, 1), (21, .iconst 0, 1), (22, .istore_n 2, 1), (23, .iload_n 2, 1), (24, .sipush 512, 3), (27, .if_icmp .ge 16, 3), (30, .aload_n 0, 1), (31, .getfield 84, 3), (34, .iload_n 2, 1), (35, .iconst 0, 1), (36, .iastore, 1), (37, .iinc 2 1, 3), (40, .goto (-17), 3), (43, .aload_n 0, 1), (44, .getfield 84, 3), (47, .iconst 1, 1), (48, .aload_n 0, 1), (49, .invokevirtual 118, 3), (52, .ishl, 1), (53, .iconst 1, 1), (54, .isub, 1), (55, .iconst 1, 1), (56, .iastore, 1), (57, .iconst 0, 1), (58, .istore_n 2, 1), (59, .iload_n 2, 1), (60, .iload_n 1, 1), (61, .if_icmp .ge 121, 3), (64, .iconst 0, 1), (65, .istore_n 3, 1), (66, .iload_n 3, 1), (67, .sipush 512, 3), (70, .if_icmp .ge 16, 3), (73, .aload_n 0, 1), (74, .getfield 87, 3), (77, .iload_n 3, 1), (78, .iconst 0, 1), (79, .iastore, 1), (80, .iinc 3 1, 3), (83, .goto (-17), 3), (86, .iconst 0, 1), (87, .istore_n 3, 1), (88, .iload_n 3, 1), (89, .sipush 512, 3), (92, .if_icmp .ge 57, 3), (95, .iconst 0, 1), (96, .istore 4, 2), (98, .iload 4, 2), (100, .aload_n 0, 1), (101, .getfield 7, 3), (104, .if_icmp .ge 39, 3), (107, .aload_n 0, 1), (108, .getfield 84, 3), (111, .iload_n 3, 1), (112, .iaload, 1), (113, .ifCond .le 30, 3), (116, .aload_n 0, 1), (117, .getfield 87, 3), (120, .aload_n 0, 1), (121, .iload_n 3, 1), (122, .iload 4, 2), (124, .invokevirtual 256, 3), (127, .dup2, 1), (128, .iaload, 1), (129, .aload_n 0, 1), (130, .getfield 84, 3), (133, .iload_n 3, 1), (134, .iaload, 1), (135, .iadd, 1), (136, .iastore, 1), (137, .iinc 4 1, 3), (140, .goto (-42), 3), (143, .iinc 3 1, 3), (146, .goto (-58), 3), (149, .iconst 0, 1), (150, .istore_n 3, 1), (151, .iload_n 3, 1), (152, .sipush 512, 3), (155, .if_icmp .ge 21, 3), (158, .aload_n 0, 1), (159, .getfield 84, 3), (162, .iload_n 3, 1), (163, .aload_n 0, 1), (164, .getfield 87, 3), (167, .iload_n 3, 1), (168, .iaload, 1), (169, .iastore, 1), (170, .iinc 3 1, 3), (173, .goto (-22), 3), (176, .iinc 2 1, 3), (179, .goto (-120), 3), (182, .aload_n 0, 1), (183, .getfield 84, 3), (186, .iconst 0, 1), (187, .iaload, 1), (188, .ireturn, 1)]
set_option maxRecDepth 20000 in
theorem oX9_orphans : CtOk mX9_orphans.2.1 tX9_orphans := by unfold CtOk; decide +kernel
set_option maxRecDepth 20000 in
theorem kX9_orphans : MK mX9_orphans := ⟨tj8 60 (by rfl) rfl, tj1 10 (by rfl) rfl, by decide +kernel, by decide +kernel, by decide +kernel⟩
theorem vX9_orphans : MKv mX9_orphans 9 := ⟨tj8 58 (by rfl) rfl, tj8 59 (by rfl) rfl, _, _, rfl⟩
def mX9_shortestOrphan : Mi := (yX9_shortestOrphan, cX9_shortestOrphan, 5, some .int, 1)
def tX9_shortestOrphan : Ct := [(0, .aload_n 0, 1), (1, .iload_n 1, 1), (2, .invokevirtual 213, 3), (5, .ifCond .ne 5, 3), (8, .iconst 0, 1), (9, .ireturn, 1), (10, .aload_n 0, 1), (11, .invokevirtual 259, 3), (14, .aload_n 0, 1), (15, .getfield 249, 3), (18, .ifCond .ge 9, 3), (21, .aload_n 0, 1), (22, .iconst 2, 1), (23, .invokevirtual 111, 3), (26, .ireturn, 1), (27, .aload_n 0, 1), (28, .getfield 77, 3), (31, .aload_n 0, 1), (32, .getfield 249, 3), (35, .iaload, 1), (36, .bipush 14, 2), (38, .if_icmp .le 9, 3), (41, .aload_n 0, 1), (42, .iconst 3, 1), (43, .invokevirtual 111, 3), (46, .ireturn, 1), (47, .iconst 0, 1), (48, .istore_n 2, 1), (49, .iconst 1, 1), (50, .istore_n 3, 1), (51, .aload_n 0, 1), (52, .getfield 249, 3), (55, .istore 4, 2), (57, .aload_n 0, 1), (58, .getfield 71, 3), (61, .iload 4, 2), (63, .iaload, 1), (64, .ifCond .lt 34, 3), (67, .iload_n 2, 1), (68, .aload_n 0, 1), (69, .getfield 74, 3), (72, .iload 4, 2), (74, .iaload, 1), (75, .iload_n 3, 1), (76, .imul, 1), (77, .iadd, 1), (78, .istore_n 2, 1), (79, .iload_n 3, 1), (80, .aload_n 0, 1), (81, .getfield 7, 3), (84, .imul, 1), (85, .istore_n 3, 1), (86, .aload_n 0, 1), (87, .getfield 71, 3), (90, .iload 4, 2), (92, .iaload, 1), (93, .istore 4, 2), (95, .goto (-38), 3), (98, .aload_n 0, 1), (99, .getfield 20, 3), (102, .iload_n 1, 1), (103, .aload_n 0, 1), (104, .getfield 77, 3), (107, .aload_n 0, 1), (108, .getfield 249, 3), (111, .iaload, 1), (112, .iastore, 1), (113, .aload_n 0, 1), (114, .getfield 23, 3), (117, .iload_n 1, 1), (118, .iload_n 2, 1), (119, .iastore, 1), (120, .aload_n 0, 1), (121, .getfield 77, 3), (124, .aload_n 0, 1), (125, .getfield 249, 3), (128, .iaload, 1), (129, .ireturn, 1)]
set_option maxRecDepth 20000 in
theorem oX9_shortestOrphan : CtOk mX9_shortestOrphan.2.1 tX9_shortestOrphan := by unfold CtOk; decide +kernel
set_option maxRecDepth 20000 in
theorem kX9_shortestOrphan : MK mX9_shortestOrphan := ⟨tj8 64 (by rfl) rfl, tj1 10 (by rfl) rfl, by decide +kernel, by decide +kernel, by decide +kernel⟩
theorem vX9_shortestOrphan : MKv mX9_shortestOrphan 9 := ⟨tj8 62 (by rfl) rfl, tj8 63 (by rfl) rfl, _, _, rfl⟩
def mX9_pairs : Mi := (yX9_pairs, cX9_pairs, 6, some .int, 0)
def tX9_pairs : Ct := [(0, .aload_n 0, 1), (1, .invokevirtual 118, 3), (4, .istore_n 1, 1), (5, .iconst 0, 1), (6, .istore_n 2, 1), (7, .iload_n 2, 1), (8, .sipush 6561, 3), (11, .if_icmp .ge 16, 3), (14, .aload_n 0, 1), (15, .getfield 90, 3), (18, .iload_n 2, 1), (19, .iconst 0, 1), (20, .bastore, 1), (21, .iinc 2 1, 3), (24, .goto (-17), 3), (27, .iconst 0, 1), (28, .istore_n 2, 1), (29, .iload_n 2, 1), (30, .iload_n 1, 1), (31, .if_icmp .ge 109, 3), (34, .iconst 0, 1), (35, .istore_n 3, 1), (36, .iload_n 3, 1), (37, .iload_n 1, 1), (38, .if_icmp .ge 96, 3), (41, .iconst 0, 1), (42, .istore 4, 2), (44, .iload 4, 2), (46, .aload_n 0, 1), (47, .getfield 7, 3), (50, .if_icmp .ge 78, 3), (53, .iconst 0, 1), (54, .istore 5, 2), (56, .iload 5, 2), (58, .aload_n 0, 1), (59, .getfield 7, 3), (62, .if_icmp .ge 60, 3), (65, .aload_n 0, 1), (66, .iload_n 2, 1), (67, .iload 4, 2), (69, .invokevirtual 222, 3), (72, .aload_n 0, 1), (73, .iload_n 3, 1), (74, .iload 5, 2), (76, .invokevirtual 222, 3), (79, .if_icmp .ne 37, 3), (82, .aload_n 0, 1), (83, .getfield 90, 3), (86, .bipush 81, 2), (88, .bipush 9, 2), (90, .iload_n 2, 1), (91, .imul, 1), (92, .iload_n 3, 1), (93, .iadd, 1), (94, .imul, 1), (95, .bipush 9, 2), (97, .aload_n 0, 1), (98, .iload_n 2, 1), (99, .iload 4, 2), (101, .invokevirtual 225, 3), (104, .imul, 1), (105, .iadd, 1), (106, .aload_n 0, 1), (107, .iload_n 3, 1), (108, .iload 5, 2), (110, .invokevirtual 225, 3), (113, .iadd, 1), (114, .iconst 1, 1), (115, .bastore, 1), (116, .iinc 5 1, 3), (119, .goto (-63), 3), (122, .iinc 4 1, 3), (125, .goto (-81), 3), (128, .iinc 3 1, 3), (131, .goto (-95), 3), (134, .iinc 2 1, 3), (137, .goto (-108), 3), (140, .iconst 0, 1), (141, .istore_n 2, 1), (142, .iload_n 2, 1), (143, .bipush 81, 2), (145, .if_icmp .ge 83, 3), (148, .iconst 0, 1), (149, .istore_n 3, 1), (150, .iload_n 3, 1), (151, .bipush 81, 2), (153, .if_icmp .ge 69, 3), (156, .aload_n 0, 1), (157, .getfield 90, 3), (160, .bipush 81, 2), (162, .iload_n 3, 1), (163, .imul, 1), (164, .iload_n 2, 1), (165, .iadd, 1), (166, .baload, 1), (167, .ifCond .ne 6, 3), (170, .goto 46, 3), (173, .iconst 0, 1), (174, .istore 4, 2), (176, .iload 4, 2), (178, .bipush 81, 2), (180, .if_icmp .ge 36, 3), (183, .aload_n 0, 1), (184, .getfield 90, 3), (187, .bipush 81, 2), (189, .iload_n 3, 1), (190, .imul, 1), (191, .iload 4, 2), (193, .iadd, 1), (194, .dup2, 1), (195, .baload, 1), (196, .aload_n 0, 1), (197, .getfield 90, 3), (200, .bipush 81, 2), (202, .iload_n 2, 1), (203, .imul, 1), (204, .iload 4, 2), (206, .iadd, 1), (207, .baload, 1), (208, .ior, 1), (209, .bastore, 1), (210, .iinc 4 1, 3), (213, .goto (-37), 3), (216, .iinc 3 1, 3), (219, .goto (-69), 3), (222, .iinc 2 1, 3), (225, .goto (-83), 3), (228, .iconst 0, 1), (229, .istore_n 2, 1), (230, .iconst 0, 1), (231, .istore_n 3, 1), (232, .iload_n 3, 1), (233, .iload_n 1, 1), (234, .if_icmp .ge 56, 3), (237, .iconst 0, 1), (238, .istore 4, 2), (240, .iload 4, 2), (242, .iload_n 1, 1), (243, .if_icmp .ge 41, 3), (246, .iload_n 2, 1), (247, .iload_n 3, 1), (248, .iload 4, 2), (250, .if_icmp .eq 25, 3), (253, .aload_n 0, 1), (254, .getfield 90, 3), (257, .bipush 82, 2), (259, .bipush 9, 2), (261, .iload_n 3, 1), (262, .imul, 1), (263, .iload 4, 2), (265, .iadd, 1), (266, .imul, 1), (267, .baload, 1), (268, .ifCond .eq 7, 3), (271, .iconst 1, 1), (272, .goto 4, 3), (275, .iconst 0, 1), (276, .iadd, 1), (277, .istore_n 2, 1), (278, .iinc 4 1, 3), (281, .goto (-41), 3), (284, .iinc 3 1, 3), (287, .goto (-55), 3), (290, .iload_n 2, 1), (291, .ireturn, 1)]
set_option maxRecDepth 20000 in
theorem oX9_pairs : CtOk mX9_pairs.2.1 tX9_pairs := by unfold CtOk; decide +kernel
set_option maxRecDepth 20000 in
theorem kX9_pairs : MK mX9_pairs := ⟨tj8 72 (by rfl) rfl, tj1 10 (by rfl) rfl, by decide +kernel, by decide +kernel, by decide +kernel⟩
theorem vX9_pairs : MKv mX9_pairs 9 := ⟨tj8 71 (by rfl) rfl, tb0 66 (by rfl) rfl, _, _, rfl⟩
def mX9_cyclicPairs : Mi := (yX9_cyclicPairs, cX9_cyclicPairs, 1, some .int, 0)
def tX9_cyclicPairs : Ct := [(0, .aload_n 0, 1), (1, .iconst 0, 1), (2, .putfield 96, 3), (5, .aload_n 0, 1), (6, .invokevirtual 262, 3), (9, .ireturn, 1)]
set_option maxRecDepth 20000 in
theorem oX9_cyclicPairs : CtOk mX9_cyclicPairs.2.1 tX9_cyclicPairs := by unfold CtOk; decide +kernel
set_option maxRecDepth 20000 in
theorem kX9_cyclicPairs : MK mX9_cyclicPairs := ⟨tj8 68 (by rfl) rfl, tj1 10 (by rfl) rfl, by decide +kernel, by decide +kernel, by decide +kernel⟩
theorem vX9_cyclicPairs : MKv mX9_cyclicPairs 9 := ⟨tj8 66 (by rfl) rfl, tj8 67 (by rfl) rfl, _, _, rfl⟩
def mX9_isPermutive : Mi := (yX9_isPermutive, cX9_isPermutive, 5, some .boolean, 1)
def tX9_isPermutive : Ct := [(0, .iconst 0, 1), (1, .istore_n 2, 1), (2, .iload_n 2, 1), (3, .aload_n 0, 1), (4, .invokevirtual 114, 3), (7, .if_icmp .ge 73, 3), (10, .iload_n 2, 1), (11, .iload_n 1, 1), (12, .idiv, 1), (13, .aload_n 0, 1), (14, .getfield 7, 3), (17, .irem, 1), (18, .ifCond .eq 6, 3), (21, .goto 53, 3), (24, .iconst 0, 1), (25, .istore_n 3, 1), (26, .iconst 0, 1), (27, .istore 4, 2), (29, .iload 4, 2), (31, .aload_n 0, 1), (32, .getfield 7, 3), (35, .if_icmp .ge 25, 3), (38, .iload_n 3, 1), (39, .iconst 1, 1), (40, .aload_n 0, 1), (41, .getfield 16, 3), (44, .iload_n 2, 1), (45, .iload 4, 2), (47, .iload_n 1, 1), (48, .imul, 1), (49, .iadd, 1), (50, .iaload, 1), (51, .ishl, 1), (52, .ior, 1), (53, .istore_n 3, 1), (54, .iinc 4 1, 3), (57, .goto (-28), 3), (60, .iload_n 3, 1), (61, .iconst 1, 1), (62, .aload_n 0, 1), (63, .getfield 7, 3), (66, .ishl, 1), (67, .iconst 1, 1), (68, .isub, 1), (69, .if_icmp .eq 5, 3), (72, .iconst 0, 1), (73, .ireturn, 1), (74, .iinc 2 1, 3), (77, .goto (-75), 3), (80, .iconst 1, 1), (81, .ireturn, 1)]
set_option maxRecDepth 20000 in
theorem oX9_isPermutive : CtOk mX9_isPermutive.2.1 tX9_isPermutive := by unfold CtOk; decide +kernel
set_option maxRecDepth 20000 in
theorem kX9_isPermutive : MK mX9_isPermutive := ⟨tj8 80 (by rfl) rfl, tj1 10 (by rfl) rfl, by decide +kernel, by decide +kernel, by decide +kernel⟩
theorem vX9_isPermutive : MKv mX9_isPermutive 9 := ⟨tj8 79 (by rfl) rfl, tb0 67 (by rfl) rfl, _, _, rfl⟩
def mX9_isBalanced : Mi := (yX9_isBalanced, cX9_isBalanced, 4, some .boolean, 0)
def tX9_isBalanced : Ct := [(0, .iconst 0, 1), (1, .istore_n 1, 1), (2, .iload_n 1, 1), (3, .aload_n 0, 1), (4, .getfield 7, 3), (7, .if_icmp .ge 55, 3), (10, .iconst 0, 1), (11, .istore_n 2, 1), (12, .iconst 0, 1), (13, .istore_n 3, 1), (14, .iload_n 3, 1), (15, .aload_n 0, 1), (16, .invokevirtual 114, 3), (19, .if_icmp .ge 27, 3), (22, .iload_n 2, 1), (23, .aload_n 0, 1), (24, .getfield 16, 3), (27, .iload_n 3, 1), (28, .iaload, 1), (29, .iload_n 1, 1), (30, .if_icmp .ne 7, 3), (33, .iconst 1, 1), (34, .goto 4, 3), (37, .iconst 0, 1), (38, .iadd, 1), (39, .istore_n 2, 1), (40, .iinc 3 1, 3), (43, .goto (-29), 3), (46, .iload_n 2, 1), (47, .aload_n 0, 1), (48, .invokevirtual 118, 3), (51, .if_icmp .eq 5, 3), (54, .iconst 0, 1), (55, .ireturn, 1), (56, .iinc 1 1, 3), (59, .goto (-57), 3), (62, .iconst 1, 1), (63, .ireturn, 1)]
set_option maxRecDepth 20000 in
theorem oX9_isBalanced : CtOk mX9_isBalanced.2.1 tX9_isBalanced := by unfold CtOk; decide +kernel
set_option maxRecDepth 20000 in
theorem kX9_isBalanced : MK mX9_isBalanced := ⟨tj8 84 (by rfl) rfl, tj1 10 (by rfl) rfl, by decide +kernel, by decide +kernel, by decide +kernel⟩
theorem vX9_isBalanced : MKv mX9_isBalanced 9 := ⟨tj8 83 (by rfl) rfl, tb0 68 (by rfl) rfl, _, _, rfl⟩
def mX9_isMade : Mi := (yX9_isMade, cX9_isMade, 2, some .boolean, 0)
def tX9_isMade : Ct := [(0, .iconst 0, 1), (1, .istore_n 1, 1), (2, .iload_n 1, 1), (3, .aload_n 0, 1), (4, .invokevirtual 114, 3), (7, .if_icmp .ge 26, 3), (10, .aload_n 0, 1), (11, .getfield 16, 3), (14, .iload_n 1, 1), (15, .iaload, 1), (16, .aload_n 0, 1), (17, .getfield 41, 3), (20, .iload_n 1, 1), (21, .iaload, 1), (22, .if_icmp .eq 5, 3), (25, .iconst 0, 1), (26, .ireturn, 1), (27, .iinc 1 1, 3), (30, .goto (-28), 3), (33, .iconst 1, 1), (34, .ireturn, 1)]
set_option maxRecDepth 20000 in
theorem oX9_isMade : CtOk mX9_isMade.2.1 tX9_isMade := by unfold CtOk; decide +kernel
set_option maxRecDepth 20000 in
theorem kX9_isMade : MK mX9_isMade := ⟨tj8 88 (by rfl) rfl, tj1 10 (by rfl) rfl, by decide +kernel, by decide +kernel, by decide +kernel⟩
theorem vX9_isMade : MKv mX9_isMade 9 := ⟨tj8 87 (by rfl) rfl, tb0 69 (by rfl) rfl, _, _, rfl⟩
def mX9_has : Mi := (yX9_has, cX9_has, 2, some .boolean, 1)
def tX9_has : Ct := [(0, .aload_n 0, 1), (1, .iload_n 1, 1), (2, .iconst 0, 1), (3, .bipush 6, 2), (5, .invokestatic 103, 3), (8, .ifCond .eq 7, 3), (11, .iconst 0, 1), (12, .goto 4, 3), (15, .iconst 1, 1), (16, .putfield 96, 3), (19, .iload_n 1, 1), (20, .tableswitch 128 0 6 #[44, 61, 74, 83, 89, 94, 111], 44), (64, .aload_n 0, 1), (65, .invokevirtual 259, 3), (68, .aload_n 0, 1), (69, .getfield 249, 3), (72, .ifCond .ge 7, 3), (75, .iconst 1, 1), (76, .goto 4, 3), (79, .iconst 0, 1), (80, .ireturn, 1), (81, .aload_n 0, 1), (82, .invokevirtual 262, 3), (85, .ifCond .ne 7, 3), (88, .iconst 1, 1), (89, .goto 4, 3), (92, .iconst 0, 1), (93, .ireturn, 1), (94, .aload_n 0, 1), (95, .aload_n 0, 1), (96, .invokevirtual 118, 3), (99, .invokevirtual 265, 3), (102, .ireturn, 1), (103, .aload_n 0, 1), (104, .iconst 1, 1), (105, .invokevirtual 265, 3), (108, .ireturn, 1), (109, .aload_n 0, 1), (110, .invokevirtual 268, 3), (113, .ireturn, 1), (114, .aload_n 0, 1), (115, .aload_n 0, 1), (116, .getfield 16, 3), (119, .aload_n 0, 1), (120, .getfield 41, 3), (123, .invokevirtual 132, 3), (126, .aload_n 0, 1), (127, .invokevirtual 271, 3), (130, .ireturn, 1), (131, .aload_n 0, 1), (132, .aload_n 0, 1), (133, .getfield 16, 3), (136, .aload_n 0, 1), (137, .getfield 41, 3), (140, .invokevirtual 136, 3), (143, .aload_n 0, 1), (144, .invokevirtual 271, 3), (147, .ireturn, 1), (148, .iconst 0, 1), (149, .ireturn, 1)]
set_option maxRecDepth 20000 in
theorem oX9_has : CtOk mX9_has.2.1 tX9_has := by unfold CtOk; decide +kernel
set_option maxRecDepth 20000 in
theorem kX9_has : MK mX9_has := ⟨tj8 76 (by rfl) rfl, tj1 10 (by rfl) rfl, by decide +kernel, by decide +kernel, by decide +kernel⟩
theorem vX9_has : MKv mX9_has 9 := ⟨tj8 74 (by rfl) rfl, tj8 75 (by rfl) rfl, _, _, rfl⟩
def mX9_isInverse : Mi := (yX9_isInverse, cX9_isInverse, 7, some .boolean, 2)
def tX9_isInverse : Ct := [(0, .iload_n 1, 1), (1, .aload_n 0, 1), (2, .getfield 13, 3), (5, .iadd, 1), (6, .iconst 1, 1), (7, .isub, 1), (8, .istore_n 3, 1), (9, .iconst 0, 1), (10, .istore 4, 2), (12, .iload 4, 2), (14, .aload_n 0, 1), (15, .iload_n 1, 1), (16, .invokevirtual 99, 3), (19, .if_icmp .ge 17, 3), (22, .aload_n 0, 1), (23, .getfield 93, 3), (26, .iload 4, 2), (28, .iconst (-1), 1), (29, .iastore, 1), (30, .iinc 4 1, 3), (33, .goto (-21), 3), (36, .iconst 0, 1), (37, .istore 4, 2), (39, .iload 4, 2), (41, .aload_n 0, 1), (42, .iload_n 3, 1), (43, .invokevirtual 99, 3), (46, .if_icmp .ge 78, 3), (49, .aload_n 0, 1), (50, .iload 4, 2), (52, .iload_n 3, 1), (53, .aload_n 0, 1), (54, .getfield 16, 3), (57, .aload_n 0, 1), (58, .getfield 13, 3), (61, .invokevirtual 145, 3), (64, .istore 5, 2), (66, .iload 4, 2), (68, .aload_n 0, 1), (69, .iload_n 3, 1), (70, .iconst 1, 1), (71, .isub, 1), (72, .iload_n 2, 1), (73, .isub, 1), (74, .invokevirtual 99, 3), (77, .idiv, 1), (78, .aload_n 0, 1), (79, .getfield 7, 3), (82, .irem, 1), (83, .istore 6, 2), (85, .aload_n 0, 1), (86, .getfield 93, 3), (89, .iload 5, 2), (91, .iaload, 1), (92, .ifCond .lt 17, 3), (95, .aload_n 0, 1), (96, .getfield 93, 3), (99, .iload 5, 2), (101, .iaload, 1), (102, .iload 6, 2), (104, .if_icmp .eq 5, 3), (107, .iconst 0, 1), (108, .ireturn, 1), (109, .aload_n 0, 1), (110, .getfield 93, 3), (113, .iload 5, 2), (115, .iload 6, 2), (117, .iastore, 1), (118, .iinc 4 1, 3), (121, .goto (-82), 3), (124, .iconst 0, 1), (125, .istore 4, 2), (127, .iload 4, 2), (129, .aload_n 0, 1), (130, .iload_n 1, 1), (131, .invokevirtual 99, 3), (134, .if_icmp .ge 21, 3), (137, .aload_n 0, 1), (138, .getfield 93, 3), (141, .iload 4, 2), (143, .iaload, 1), (144, .ifCond .ge 5, 3), (147, .iconst 0, 1), (148, .ireturn, 1), (149, .iinc 4 1, 3), (152, .goto (-25), 3), (155, .iconst 1, 1), (156, .ireturn, 1)]
set_option maxRecDepth 20000 in
theorem oX9_isInverse : CtOk mX9_isInverse.2.1 tX9_isInverse := by unfold CtOk; decide +kernel
set_option maxRecDepth 20000 in
theorem kX9_isInverse : MK mX9_isInverse := ⟨tj8 100 (by rfl) rfl, tj1 10 (by rfl) rfl, by decide +kernel, by decide +kernel, by decide +kernel⟩
theorem vX9_isInverse : MKv mX9_isInverse 9 := ⟨tj8 99 (by rfl) rfl, tb0 71 (by rfl) rfl, _, _, rfl⟩
def mX9_hasInverse : Mi := (yX9_hasInverse, cX9_hasInverse, 3, some .boolean, 0)
def tX9_hasInverse : Ct := [(0, .iconst 1, 1), (1, .istore_n 1, 1), (2, .iload_n 1, 1), (3, .iconst 5, 1), (4, .if_icmp .gt 53, 3), (7, .iconst 0, 1), (8, .istore_n 2, 1), (9, .iload_n 2, 1), (10, .iload_n 1, 1), (11, .aload_n 0, 1), (12, .getfield 13, 3), (15, .iadd, 1), (16, .iconst 2, 1), (17, .isub, 1), (18, .if_icmp .gt 33, 3), (21, .aload_n 0, 1), (22, .iload_n 1, 1), (23, .iload_n 2, 1), (24, .invokevirtual 274, 3), (27, .ifCond .ne 6, 3), (30, .goto 15, 3), (33, .aload_n 0, 1), (34, .iload_n 1, 1), (35, .putfield 277, 3), (38, .aload_n 0, 1), (39, .iload_n 2, 1), (40, .putfield 280, 3), (43, .iconst 1, 1), (44, .ireturn, 1), (45, .iinc 2 1, 3), (48, .goto (-39), 3), (51, .iinc 1 1, 3), (54, .goto (-52), 3), (57, .iconst 0, 1), (58, .ireturn, 1)]
set_option maxRecDepth 20000 in
theorem oX9_hasInverse : CtOk mX9_hasInverse.2.1 tX9_hasInverse := by unfold CtOk; decide +kernel
set_option maxRecDepth 20000 in
theorem kX9_hasInverse : MK mX9_hasInverse := ⟨tj8 96 (by rfl) rfl, tj1 10 (by rfl) rfl, by decide +kernel, by decide +kernel, by decide +kernel⟩
theorem vX9_hasInverse : MKv mX9_hasInverse 9 := ⟨tj8 95 (by rfl) rfl, tb0 70 (by rfl) rfl, _, _, rfl⟩
def mX9_inverse : Mi := (yX9_inverse, cX9_inverse, 2, some .int, 1)
def tX9_inverse : Ct := [(0, .aload_n 0, 1), (1, .iconst 0, 1), (2, .putfield 96, 3), (5, .iload_n 1, 1), (6, .iconst 0, 1), (7, .iconst 1, 1), (8, .invokestatic 103, 3), (11, .ifCond .ne 9, 3), (14, .aload_n 0, 1), (15, .iconst 1, 1), (16, .invokevirtual 111, 3), (19, .ireturn, 1), (20, .aload_n 0, 1), (21, .invokevirtual 283, 3), (24, .ifCond .ne 11, 3), (27, .aload_n 0, 1), (28, .iconst 2, 1), (29, .invokevirtual 111, 3), (32, .goto 18, 3), (35, .iload_n 1, 1), (36, .ifCond .ne 10, 3), (39, .aload_n 0, 1), (40, .getfield 277, 3), (43, .goto 7, 3), (46, .aload_n 0, 1), (47, .getfield 280, 3), (50, .ireturn, 1)]
set_option maxRecDepth 20000 in
theorem oX9_inverse : CtOk mX9_inverse.2.1 tX9_inverse := by unfold CtOk; decide +kernel
set_option maxRecDepth 20000 in
theorem kX9_inverse : MK mX9_inverse := ⟨tj8 92 (by rfl) rfl, tj1 10 (by rfl) rfl, by decide +kernel, by decide +kernel, by decide +kernel⟩
theorem vX9_inverse : MKv mX9_inverse 9 := ⟨tj8 90 (by rfl) rfl, tj8 91 (by rfl) rfl, _, _, rfl⟩
def mX9_inverseOutput : Mi := (yX9_inverseOutput, cX9_inverseOutput, 2, some .int, 1)
def tX9_inverseOutput : Ct := [(0, .aload_n 0, 1), (1, .iconst 0, 1), (2, .putfield 96, 3), (5, .aload_n 0, 1), (6, .invokevirtual 283, 3), (9, .ifCond .ne 9, 3), (12, .aload_n 0, 1), (13, .iconst 1, 1), (14, .invokevirtual 111, 3), (17, .ireturn, 1), (18, .iload_n 1, 1), (19, .iconst 0, 1), (20, .aload_n 0, 1), (21, .aload_n 0, 1), (22, .getfield 277, 3), (25, .invokevirtual 99, 3), (28, .iconst 1, 1), (29, .isub, 1), (30, .invokestatic 103, 3), (33, .ifCond .eq 12, 3), (36, .aload_n 0, 1), (37, .getfield 93, 3), (40, .iload_n 1, 1), (41, .iaload, 1), (42, .goto 8, 3), (45, .aload_n 0, 1), (46, .iconst 2, 1), (47, .invokevirtual 111, 3), (50, .ireturn, 1)]
set_option maxRecDepth 20000 in
theorem oX9_inverseOutput : CtOk mX9_inverseOutput.2.1 tX9_inverseOutput := by unfold CtOk; decide +kernel
set_option maxRecDepth 20000 in
theorem kX9_inverseOutput : MK mX9_inverseOutput := ⟨tj8 104 (by rfl) rfl, tj1 10 (by rfl) rfl, by decide +kernel, by decide +kernel, by decide +kernel⟩
theorem vX9_inverseOutput : MKv mX9_inverseOutput 9 := ⟨tj8 102 (by rfl) rfl, tj8 103 (by rfl) rfl, _, _, rfl⟩
def mX9_copies : Mi := (yX9_copies, cX9_copies, 3, none, 2)
def tX9_copies : Ct := [(0, .iconst 0, 1), (1, .istore_n 2, 1), (2, .iload_n 2, 1), (3, .aload_n 1, 1), (4, .arraylength, 1), (5, .if_icmp .ge 15, 3), (8, .aload_n 1, 1), (9, .iload_n 2, 1), (10, .aload_n 0, 1), (11, .iload_n 2, 1), (12, .iaload, 1), (13, .iastore, 1), (14, .iinc 2 1, 3), (17, .goto (-15), 3), (20, .return_, 1)]
set_option maxRecDepth 20000 in
theorem oX9_copies : CtOk mX9_copies.2.1 tX9_copies := by unfold CtOk; decide +kernel
set_option maxRecDepth 20000 in
theorem kX9_copies : MK mX9_copies := ⟨tj8 111 (by rfl) rfl, tj1 10 (by rfl) rfl, by decide +kernel, by decide +kernel, by decide +kernel⟩
theorem sX9_copies : Cond.static mX9_copies.1 ∈ TSg := tj8 110 (by rfl) rfl
def mX9_save : Mi := (yX9_save, cX9_save, 1, some .long, 0)
def tX9_save : Ct := [(0, .aload_n 0, 1), (1, .iconst 0, 1), (2, .putfield 96, 3), (5, .aload_n 0, 1), (6, .aload_n 0, 1), (7, .getfield 7, 3), (10, .putfield 142, 3), (13, .aload_n 0, 1), (14, .aload_n 0, 1), (15, .getfield 13, 3), (18, .putfield 139, 3), (21, .aload_n 0, 1), (22, .getfield 16, 3), (25, .aload_n 0, 1), (26, .getfield 26, 3), (29, .invokestatic 286, 3), (32, .aload_n 0, 1), (33, .getfield 20, 3), (36, .aload_n 0, 1), (37, .getfield 29, 3), (40, .invokestatic 286, 3), (43, .aload_n 0, 1), (44, .getfield 23, 3), (47, .aload_n 0, 1), (48, .getfield 32, 3), (51, .invokestatic 286, 3), (54, .aload_n 0, 1), (55, .aload_n 0, 1), (56, .getfield 16, 3), (59, .invokevirtual 124, 3), (62, .lreturn, 1)]
set_option maxRecDepth 20000 in
theorem oX9_save : CtOk mX9_save.2.1 tX9_save := by unfold CtOk; decide +kernel
set_option maxRecDepth 20000 in
theorem kX9_save : MK mX9_save := ⟨tj8 108 (by rfl) rfl, tj1 10 (by rfl) rfl, by decide +kernel, by decide +kernel, by decide +kernel⟩
theorem vX9_save : MKv mX9_save 9 := ⟨tj8 106 (by rfl) rfl, tj8 107 (by rfl) rfl, _, _, rfl⟩
def mX9_restore : Mi := (yX9_restore, cX9_restore, 1, some .long, 0)
def tX9_restore : Ct := [(0, .aload_n 0, 1), (1, .aload_n 0, 1), (2, .getfield 142, 3), (5, .ifCond .ne 7, 3), (8, .iconst 1, 1), (9, .goto 4, 3), (12, .iconst 0, 1), (13, .putfield 96, 3), (16, .aload_n 0, 1), (17, .getfield 96, 3), (20, .iconst 1, 1), (21, .if_icmp .ne 5, 3), (24, .lconst 0, 1), (25, .lreturn, 1), (26, .aload_n 0, 1), (27, .aload_n 0, 1), (28, .getfield 142, 3), (31, .putfield 7, 3), (34, .aload_n 0, 1), (35, .aload_n 0, 1), (36, .getfield 139, 3), (39, .putfield 13, 3), (42, .aload_n 0, 1), (43, .getfield 26, 3), (46, .aload_n 0, 1), (47, .getfield 16, 3), (50, .invokestatic 286, 3), (53, .aload_n 0, 1), (54, .getfield 29, 3), (57, .aload_n 0, 1), (58, .getfield 20, 3), (61, .invokestatic 286, 3), (64, .aload_n 0, 1), (65, .getfield 32, 3), (68, .aload_n 0, 1), (69, .getfield 23, 3), (72, .invokestatic 286, 3), (75, .aload_n 0, 1), (76, .aload_n 0, 1), (77, .getfield 16, 3), (80, .invokevirtual 124, 3), (83, .lreturn, 1)]
set_option maxRecDepth 20000 in
theorem oX9_restore : CtOk mX9_restore.2.1 tX9_restore := by unfold CtOk; decide +kernel
set_option maxRecDepth 20000 in
theorem kX9_restore : MK mX9_restore := ⟨tj8 115 (by rfl) rfl, tj1 10 (by rfl) rfl, by decide +kernel, by decide +kernel, by decide +kernel⟩
theorem vX9_restore : MKv mX9_restore 9 := ⟨tj8 113 (by rfl) rfl, tj8 114 (by rfl) rfl, _, _, rfl⟩
