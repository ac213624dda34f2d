/-! ===== the law, case by case ===== -/
def mL_law : Mi := (yL_law, cL_law, 8, some .boolean, 1)
def tL_law : Ct := [(0, .new 8, 3), (3, .dup, 1), (4, .invokespecial 112, 3), (7, .astore_n 1, 1), (8, .new 113, 3), (11, .dup, 1), (12, .invokespecial 115, 3), (15, .astore_n 2, 1), (16, .iconst 1, 1), (17, .newarray .long, 2), (19, .astore_n 3, 1), (20, .iconst 0, 1), (21, .istore 4, 2), (23, .iload 4, 2), (25, .aload_n 0, 1), (26, .arraylength, 1), (27, .iconst 5, 1), (28, .isub, 1), (29, .if_icmp .gt 2073, 3), (32, .aload_n 0, 1), (33, .iload 4, 2), (35, .iaload, 1), (36, .bipush 63, 2), (38, .iand, 1), (39, .tableswitch 2057 0 34 #[153, 221, 277, 345, 401, 489, 503, 559, 603, 659, 672, 685, 699, 743, 823, 879, 935, 1003, 1087, 1155, 1239, 1347, 1427, 1495, 1551, 1607, 1687, 1700, 1756, 1812, 1875, 1888, 1944, 2000, 2014], 153), (192, .aload_n 1, 1), (193, .aload_n 0, 1), (194, .iload 4, 2), (196, .iconst 1, 1), (197, .iadd, 1), (198, .iaload, 1), (199, .aload_n 0, 1), (200, .iload 4, 2), (202, .iconst 2, 1), (203, .iadd, 1), (204, .iaload, 1), (205, .aload_n 3, 1), (206, .invokestatic 116, 3), (209, .istore 5, 2), (211, .aload_n 2, 1), (212, .aload_n 0, 1), (213, .iload 4, 2), (215, .iconst 1, 1), (216, .iadd, 1), (217, .iaload, 1), (218, .aload_n 0, 1), (219, .iload 4, 2), (221, .iconst 2, 1), (222, .iadd, 1), (223, .iaload, 1), (224, .invokevirtual 121, 3), (227, .istore 6, 2), (229, .aload_n 2, 1), (230, .invokevirtual 122, 3), (233, .iload 5, 2), (235, .if_icmp .eq 5, 3), (238, .iconst 0, 1), (239, .ireturn, 1), (240, .iload 5, 2), (242, .ifCond .ne 15, 3), (245, .aload_n 3, 1), (246, .iconst 0, 1), (247, .laload, 1), (248, .iload 6, 2), (250, .i2l, 1), (251, .lcmp, 1), (252, .ifCond .eq 5, 3), (255, .iconst 0, 1), (256, .ireturn, 1), (257, .goto 1839, 3), (260, .aload_n 1, 1), (261, .aload_n 0, 1), (262, .iload 4, 2), (264, .iconst 1, 1), (265, .iadd, 1), (266, .iaload, 1), (267, .aload_n 3, 1), (268, .invokestatic 125, 3), (271, .istore 5, 2), (273, .aload_n 2, 1), (274, .aload_n 0, 1), (275, .iload 4, 2), (277, .iconst 1, 1), (278, .iadd, 1), (279, .iaload, 1), (280, .invokevirtual 128, 3), (283, .istore 6, 2), (285, .aload_n 2, 1), (286, .invokevirtual 122, 3), (289, .iload 5, 2), (291, .if_icmp .eq 5, 3), (294, .iconst 0, 1), (295, .ireturn, 1), (296, .iload 5, 2), (298, .ifCond .ne 15, 3), (301, .aload_n 3, 1), (302, .iconst 0, 1), (303, .laload, 1), (304, .iload 6, 2), (306, .i2l, 1), (307, .lcmp, 1), (308, .ifCond .eq 5, 3), (311, .iconst 0, 1), (312, .ireturn, 1), (313, .goto 1783, 3), (316, .aload_n 1, 1), (317, .aload_n 0, 1), (318, .iload 4, 2), (320, .iconst 1, 1), (321, .iadd, 1), (322, .iaload, 1), (323, .aload_n 0, 1), (324, .iload 4, 2), (326, .iconst 2, 1), (327, .iadd, 1), (328, .iaload, 1), (329, .aload_n 3, 1), (330, .invokestatic 129, 3), (333, .istore 5, 2), (335, .aload_n 2, 1), (336, .aload_n 0, 1), (337, .iload 4, 2), (339, .iconst 1, 1), (340, .iadd, 1), (341, .iaload, 1), (342, .aload_n 0, 1), (343, .iload 4, 2), (345, .iconst 2, 1), (346, .iadd, 1), (347, .iaload, 1), (348, .invokevirtual 131, 3), (351, .istore 6, 2), (353, .aload_n 2, 1), (354, .invokevirtual 122, 3), (357, .iload 5, 2), (359, .if_icmp .eq 5, 3), (362, .iconst 0, 1), (363, .ireturn, 1), (364, .iload 5, 2), (366, .ifCond .ne 15, 3), (369, .aload_n 3, 1), (370, .iconst 0, 1), (371, .laload, 1), (372, .iload 6, 2), (374, .i2l, 1), (375, .lcmp, 1), (376, .ifCond .eq 5, 3), (379, .iconst 0, 1), (380, .ireturn, 1), (381, .goto 1715, 3), (384, .aload_n 1, 1), (385, .aload_n 0, 1), (386, .iload 4, 2), (388, .iconst 1, 1), (389, .iadd, 1), (390, .iaload, 1), (391, .aload_n 3, 1), (392, .invokestatic 132, 3), (395, .istore 5, 2), (397, .aload_n 2, 1), (398, .aload_n 0, 1), (399, .iload 4, 2), (401, .iconst 1, 1), (402, .iadd, 1), (403, .iaload, 1), (404, .invokevirtual 134, 3), (407, .istore 6, 2), (409, .aload_n 2, 1), (410, .invokevirtual 122, 3), (413, .iload 5, 2), (415, .if_icmp .eq 5, 3), (418, .iconst 0, 1), (419, .ireturn, 1), (420, .iload 5, 2), (422, .ifCond .ne 15, 3), (425, .aload_n 3, 1), (426, .iconst 0, 1), (427, .laload, 1), (428, .iload 6, 2), (430, .i2l, 1), (431, .lcmp, 1), (432, .ifCond .eq 5, 3), (435, .iconst 0, 1), (436, .ireturn, 1), (437, .goto 1659, 3), (440, .aload_n 1, 1), (441, .aload_n 0, 1), (442, .iload 4, 2), (444, .iconst 1, 1), (445, .iadd, 1), (446, .iaload, 1), (447, .i2l, 1), (448, .bipush 32, 2), (450, .lshl, 1), (451, .aload_n 0, 1), (452, .iload 4, 2), (454, .iconst 2, 1), (455, .iadd, 1), (456, .iaload, 1), (457, .i2l, 1), (458, .ldc2_w 135, 3), (461, .land, 1), (462, .lor, 1), (463, .aload_n 3, 1), (464, .invokestatic 137, 3), (467, .istore 5, 2), (469, .aload_n 2, 1), (470, .aload_n 0, 1), (471, .iload 4, 2), (473, .iconst 1, 1), (474, .iadd, 1), (475, .iaload, 1), (476, .i2l, 1), (477, .bipush 32, 2), (479, .lshl, 1), (480, .aload_n 0, 1), (481, .iload 4, 2), (483, .iconst 2, 1), (484, .iadd, 1), (485, .iaload, 1), (486, .i2l, 1), (487, .ldc2_w 135, 3), (490, .land, 1), (491, .lor, 1), (492, .invokevirtual 140, 3), (495, .istore 6, 2), (497, .aload_n 2, 1), (498, .invokevirtual 122, 3), (501, .iload 5, 2), (503, .if_icmp .eq 5, 3), (506, .iconst 0, 1), (507, .ireturn, 1), (508, .iload 5, 2), (510, .ifCond .ne 15, 3), (513, .aload_n 3, 1), (514, .iconst 0, 1), (515, .laload, 1), (516, .iload 6, 2), (518, .i2l, 1), (519, .lcmp, 1), (520, .ifCond .eq 5, 3), (523, .iconst 0, 1), (524, .ireturn, 1), (525, .goto 1571, 3), (528, .aload_n 1, 1), (529, .invokevirtual 141, 3), (532, .aload_n 2, 1), (533, .invokevirtual 144, 3), (536, .lcmp, 1), (537, .ifCond .eq 1559, 3), (540, .iconst 0, 1), (541, .ireturn, 1), (542, .aload_n 1, 1), (543, .aload_n 0, 1), (544, .iload 4, 2), (546, .iconst 1, 1), (547, .iadd, 1), (548, .iaload, 1), (549, .aload_n 3, 1), (550, .invokestatic 145, 3), (553, .istore 5, 2), (555, .aload_n 2, 1), (556, .aload_n 0, 1), (557, .iload 4, 2), (559, .iconst 1, 1), (560, .iadd, 1), (561, .iaload, 1), (562, .invokevirtual 147, 3), (565, .istore 6, 2), (567, .aload_n 2, 1), (568, .invokevirtual 122, 3), (571, .iload 5, 2), (573, .if_icmp .eq 5, 3), (576, .iconst 0, 1), (577, .ireturn, 1), (578, .iload 5, 2), (580, .ifCond .ne 15, 3), (583, .aload_n 3, 1), (584, .iconst 0, 1), (585, .laload, 1), (586, .iload 6, 2), (588, .i2l, 1), (589, .lcmp, 1), (590, .ifCond .eq 5, 3), (593, .iconst 0, 1), (594, .ireturn, 1), (595, .goto 1501, 3), (598, .aload_n 1, 1), (599, .aload_n 3, 1), (600, .invokestatic 148, 3), (603, .istore 5, 2), (605, .aload_n 2, 1), (606, .invokevirtual 151, 3), (609, .istore 6, 2), (611, .aload_n 2, 1), (612, .invokevirtual 122, 3), (615, .iload 5, 2), (617, .if_icmp .eq 5, 3), (620, .iconst 0, 1), (621, .ireturn, 1), (622, .iload 5, 2), (624, .ifCond .ne 15, 3), (627, .aload_n 3, 1), (628, .iconst 0, 1), (629, .laload, 1), (630, .iload 6, 2), (632, .i2l, 1), (633, .lcmp, 1), (634, .ifCond .eq 5, 3), (637, .iconst 0, 1), (638, .ireturn, 1), (639, .goto 1457, 3), (642, .aload_n 1, 1), (643, .aload_n 0, 1), (644, .iload 4, 2), (646, .iconst 1, 1), (647, .iadd, 1), (648, .iaload, 1), (649, .aload_n 3, 1), (650, .invokestatic 152, 3), (653, .istore 5, 2), (655, .aload_n 2, 1), (656, .aload_n 0, 1), (657, .iload 4, 2), (659, .iconst 1, 1), (660, .iadd, 1), (661, .iaload, 1), (662, .invokevirtual 154, 3), (665, .istore 6, 2), (667, .aload_n 2, 1), (668, .invokevirtual 122, 3), (671, .iload 5, 2), (673, .if_icmp .eq 5, 3), (676, .iconst 0, 1), (677, .ireturn, 1), (678, .iload 5, 2), (680, .ifCond .ne 15, 3), (683, .aload_n 3, 1), (684, .iconst 0, 1), (685, .laload, 1), (686, .iload 6, 2), (688, .i2l, 1), (689, .lcmp, 1), (690, .ifCond .eq 5, 3), (693, .iconst 0, 1), (694, .ireturn, 1), (695, .goto 1401, 3), (698, .aload_n 1, 1), (699, .invokevirtual 155, 3), (702, .aload_n 2, 1), (703, .invokevirtual 158, 3), (706, .if_icmp .eq 1390, 3), (709, .iconst 0, 1), (710, .ireturn, 1), (711, .aload_n 1, 1), (712, .invokevirtual 159, 3), (715, .aload_n 2, 1), (716, .invokevirtual 162, 3), (719, .if_icmp .eq 1377, 3), (722, .iconst 0, 1), (723, .ireturn, 1), (724, .aload_n 1, 1), (725, .invokevirtual 163, 3), (728, .aload_n 2, 1), (729, .invokevirtual 166, 3), (732, .lcmp, 1), (733, .ifCond .eq 1363, 3), (736, .iconst 0, 1), (737, .ireturn, 1), (738, .aload_n 1, 1), (739, .aload_n 3, 1), (740, .invokestatic 167, 3), (743, .istore 5, 2), (745, .aload_n 2, 1), (746, .invokevirtual 169, 3), (749, .istore 6, 2), (751, .aload_n 2, 1), (752, .invokevirtual 122, 3), (755, .iload 5, 2), (757, .if_icmp .eq 5, 3), (760, .iconst 0, 1), (761, .ireturn, 1), (762, .iload 5, 2), (764, .ifCond .ne 15, 3), (767, .aload_n 3, 1), (768, .iconst 0, 1), (769, .laload, 1), (770, .iload 6, 2), (772, .i2l, 1), (773, .lcmp, 1), (774, .ifCond .eq 5, 3), (777, .iconst 0, 1), (778, .ireturn, 1), (779, .goto 1317, 3), (782, .aload_n 1, 1), (783, .aload_n 0, 1), (784, .iload 4, 2), (786, .iconst 1, 1), (787, .iadd, 1), (788, .iaload, 1), (789, .aload_n 0, 1), (790, .iload 4, 2), (792, .iconst 2, 1), (793, .iadd, 1), (794, .iaload, 1), (795, .aload_n 0, 1), (796, .iload 4, 2), (798, .iconst 3, 1), (799, .iadd, 1), (800, .iaload, 1), (801, .aload_n 3, 1), (802, .invokestatic 170, 3), (805, .istore 5, 2), (807, .aload_n 2, 1), (808, .aload_n 0, 1), (809, .iload 4, 2), (811, .iconst 1, 1), (812, .iadd, 1), (813, .iaload, 1), (814, .aload_n 0, 1), (815, .iload 4, 2), (817, .iconst 2, 1), (818, .iadd, 1), (819, .iaload, 1), (820, .aload_n 0, 1), (821, .iload 4, 2), (823, .iconst 3, 1), (824, .iadd, 1), (825, .iaload, 1), (826, .invokevirtual 173, 3), (829, .istore 6, 2), (831, .aload_n 2, 1), (832, .invokevirtual 122, 3), (835, .iload 5, 2), (837, .if_icmp .eq 5, 3), (840, .iconst 0, 1), (841, .ireturn, 1), (842, .iload 5, 2), (844, .ifCond .ne 15, 3), (847, .aload_n 3, 1), (848, .iconst 0, 1), (849, .laload, 1), (850, .iload 6, 2), (852, .i2l, 1), (853, .lcmp, 1), (854, .ifCond .eq 5, 3), (857, .iconst 0, 1), (858, .ireturn, 1), (859, .goto 1237, 3), (862, .aload_n 1, 1), (863, .aload_n 0, 1), (864, .iload 4, 2), (866, .iconst 1, 1), (867, .iadd, 1), (868, .iaload, 1), (869, .aload_n 3, 1), (870, .invokestatic 174, 3), (873, .istore 5, 2), (875, .aload_n 2, 1), (876, .aload_n 0, 1), (877, .iload 4, 2), (879, .iconst 1, 1), (880, .iadd, 1), (881, .iaload, 1), (882, .invokevirtual 176, 3), (885, .istore 6, 2), (887, .aload_n 2, 1), (888, .invokevirtual 122, 3), (891, .iload 5, 2), (893, .if_icmp .eq 5, 3), (896, .iconst 0, 1), (897, .ireturn, 1), (898, .iload 5, 2), (900, .ifCond .ne 15, 3), (903, .aload_n 3, 1), (904, .iconst 0, 1), (905, .laload, 1), (906, .iload 6, 2), (908, .i2l, 1), (909, .lcmp, 1), (910, .ifCond .eq 5, 3), (913, .iconst 0, 1), (914, .ireturn, 1), (915, .goto 1181, 3), (918, .aload_n 1, 1), (919, .aload_n 0, 1), (920, .iload 4, 2), (922, .iconst 1, 1), (923, .iadd, 1), (924, .iaload, 1), (925, .aload_n 3, 1), (926, .invokestatic 177, 3), (929, .istore 5, 2), (931, .aload_n 2, 1), (932, .aload_n 0, 1), (933, .iload 4, 2), (935, .iconst 1, 1), (936, .iadd, 1), (937, .iaload, 1), (938, .invokevirtual 179, 3), (941, .istore 6, 2), (943, .aload_n 2, 1), (944, .invokevirtual 122, 3), (947, .iload 5, 2), (949, .if_icmp .eq 5, 3), (952, .iconst 0, 1), (953, .ireturn, 1), (954, .iload 5, 2), (956, .ifCond .ne 15, 3), (959, .aload_n 3, 1), (960, .iconst 0, 1), (961, .laload, 1), (962, .iload 6, 2), (964, .i2l, 1), (965, .lcmp, 1), (966, .ifCond .eq 5, 3), (969, .iconst 0, 1), (970, .ireturn, 1), (971, .goto 1125, 3), (974, .aload_n 1, 1), (975, .aload_n 0, 1), (976, .iload 4, 2), (978, .iconst 1, 1), (979, .iadd, 1), (980, .iaload, 1), (981, .aload_n 0, 1), (982, .iload 4, 2), (984, .iconst 2, 1), (985, .iadd, 1), (986, .iaload, 1), (987, .aload_n 3, 1), (988, .invokestatic 180, 3), (991, .istore 5, 2), (993, .aload_n 2, 1), (994, .aload_n 0, 1), (995, .iload 4, 2), (997, .iconst 1, 1), (998, .iadd, 1), (999, .iaload, 1), (1000, .aload_n 0, 1), (1001, .iload 4, 2), (1003, .iconst 2, 1), (1004, .iadd, 1), (1005, .iaload, 1), (1006, .invokevirtual 182, 3), (1009, .istore 6, 2), (1011, .aload_n 2, 1), (1012, .invokevirtual 122, 3), (1015, .iload 5, 2), (1017, .if_icmp .eq 5, 3), (1020, .iconst 0, 1), (1021, .ireturn, 1), (1022, .iload 5, 2), (1024, .ifCond .ne 15, 3), (1027, .aload_n 3, 1), (1028, .iconst 0, 1), (1029, .laload, 1), (1030, .iload 6, 2), (1032, .i2l, 1), (1033, .lcmp, 1), (1034, .ifCond .eq 5, 3), (1037, .iconst 0, 1), (1038, .ireturn, 1), (1039, .goto 1057, 3), (1042, .aload_n 1, 1), (1043, .aload_n 0, 1), (1044, .iload 4, 2), (1046, .iconst 1, 1), (1047, .iadd, 1), (1048, .iaload, 1), (1049, .aload_n 0, 1), (1050, .iload 4, 2), (1052, .iconst 2, 1), (1053, .iadd, 1), (1054, .iaload, 1), (1055, .ifCond .eq 7, 3), (1058, .iconst 1, 1), (1059, .goto 4, 3), (1062, .iconst 0, 1), (1063, .aload_n 3, 1), (1064, .invokestatic 183, 3), (1067, .istore 5, 2), (1069, .aload_n 2, 1), (1070, .aload_n 0, 1), (1071, .iload 4, 2), (1073, .iconst 1, 1), (1074, .iadd, 1), (1075, .iaload, 1), (1076, .aload_n 0, 1), (1077, .iload 4, 2), (1079, .iconst 2, 1), (1080, .iadd, 1), (1081, .iaload, 1), (1082, .ifCond .eq 7, 3), (1085, .iconst 1, 1), (1086, .goto 4, 3), (1089, .iconst 0, 1), (1090, .invokevirtual 186, 3), (1093, .istore 6, 2), (1095, .aload_n 2, 1), (1096, .invokevirtual 122, 3), (1099, .iload 5, 2), (1101, .if_icmp .eq 5, 3), (1104, .iconst 0, 1), (1105, .ireturn, 1), (1106, .iload 5, 2), (1108, .ifCond .ne 15, 3), (1111, .aload_n 3, 1), (1112, .iconst 0, 1), (1113, .laload, 1), (1114, .iload 6, 2), (1116, .i2l, 1), (1117, .lcmp, 1), (1118, .ifCond .eq 5, 3), (1121, .iconst 0, 1), (1122, .ireturn, 1), (1123, .goto 973, 3), (1126, .aload_n 1, 1), (1127, .aload_n 0, 1), (1128, .iload 4, 2), (1130, .iconst 1, 1), (1131, .iadd, 1), (1132, .iaload, 1), (1133, .aload_n 0, 1), (1134, .iload 4, 2), (1136, .iconst 2, 1), (1137, .iadd, 1), (1138, .iaload, 1), (1139, .aload_n 3, 1), (1140, .invokestatic 187, 3), (1143, .istore 5, 2), (1145, .aload_n 2, 1), (1146, .aload_n 0, 1), (1147, .iload 4, 2), (1149, .iconst 1, 1), (1150, .iadd, 1), (1151, .iaload, 1), (1152, .aload_n 0, 1), (1153, .iload 4, 2), (1155, .iconst 2, 1), (1156, .iadd, 1), (1157, .iaload, 1), (1158, .invokevirtual 189, 3), (1161, .istore 6, 2), (1163, .aload_n 2, 1), (1164, .invokevirtual 122, 3), (1167, .iload 5, 2), (1169, .if_icmp .eq 5, 3), (1172, .iconst 0, 1), (1173, .ireturn, 1), (1174, .iload 5, 2), (1176, .ifCond .ne 15, 3), (1179, .aload_n 3, 1), (1180, .iconst 0, 1), (1181, .laload, 1), (1182, .iload 6, 2), (1184, .i2l, 1), (1185, .lcmp, 1), (1186, .ifCond .eq 5, 3), (1189, .iconst 0, 1), (1190, .ireturn, 1), (1191, .goto 905, 3), (1194, .aload_n 1, 1), (1195, .aload_n 0, 1), (1196, .iload 4, 2), (1198, .iconst 1, 1), (1199, .iadd, 1), (1200, .iaload, 1), (1201, .aload_n 0, 1), (1202, .iload 4, 2), (1204, .iconst 2, 1), (1205, .iadd, 1), (1206, .iaload, 1), (1207, .ifCond .eq 7, 3), (1210, .iconst 1, 1), (1211, .goto 4, 3), (1214, .iconst 0, 1), (1215, .aload_n 3, 1), (1216, .invokestatic 190, 3), (1219, .istore 5, 2), (1221, .aload_n 2, 1), (1222, .aload_n 0, 1), (1223, .iload 4, 2), (1225, .iconst 1, 1), (1226, .iadd, 1), (1227, .iaload, 1), (1228, .aload_n 0, 1), (1229, .iload 4, 2), (1231, .iconst 2, 1), (1232, .iadd, 1), (1233, .iaload, 1), (1234, .ifCond .eq 7, 3), (1237, .iconst 1, 1), (1238, .goto 4, 3), (1241, .iconst 0, 1), (1242, .invokevirtual 192, 3), (1245, .istore 6, 2), (1247, .aload_n 2, 1), (1248, .invokevirtual 122, 3), (1251, .iload 5, 2), (1253, .if_icmp .eq 5, 3), (1256, .iconst 0, 1), (1257, .ireturn, 1), (1258, .iload 5, 2), (1260, .ifCond .ne 15, 3), (1263, .aload_n 3, 1), (1264, .iconst 0, 1), (1265, .laload, 1), (1266, .iload 6, 2), (1268, .i2l, 1), (1269, .lcmp, 1), (1270, .ifCond .eq 5, 3), (1273, .iconst 0, 1), (1274, .ireturn, 1), (1275, .goto 821, 3), (1278, .aload_n 1, 1), (1279, .aload_n 0, 1), (1280, .iload 4, 2), (1282, .iconst 1, 1), (1283, .iadd, 1), (1284, .iaload, 1), (1285, .aload_n 0, 1), (1286, .iload 4, 2), (1288, .iconst 2, 1), (1289, .iadd, 1), (1290, .iaload, 1), (1291, .ifCond .eq 7, 3), (1294, .iconst 1, 1), (1295, .goto 4, 3), (1298, .iconst 0, 1), (1299, .aload_n 0, 1), (1300, .iload 4, 2), (1302, .iconst 3, 1), (1303, .iadd, 1), (1304, .iaload, 1), (1305, .aload_n 0, 1), (1306, .iload 4, 2), (1308, .iconst 4, 1), (1309, .iadd, 1), (1310, .iaload, 1), (1311, .aload_n 3, 1), (1312, .invokestatic 193, 3), (1315, .istore 5, 2), (1317, .aload_n 2, 1), (1318, .aload_n 0, 1), (1319, .iload 4, 2), (1321, .iconst 1, 1), (1322, .iadd, 1), (1323, .iaload, 1), (1324, .aload_n 0, 1), (1325, .iload 4, 2), (1327, .iconst 2, 1), (1328, .iadd, 1), (1329, .iaload, 1), (1330, .ifCond .eq 7, 3), (1333, .iconst 1, 1), (1334, .goto 4, 3), (1337, .iconst 0, 1), (1338, .aload_n 0, 1), (1339, .iload 4, 2), (1341, .iconst 3, 1), (1342, .iadd, 1), (1343, .iaload, 1), (1344, .aload_n 0, 1), (1345, .iload 4, 2), (1347, .iconst 4, 1), (1348, .iadd, 1), (1349, .iaload, 1), (1350, .invokevirtual 196, 3), (1353, .istore 6, 2), (1355, .aload_n 2, 1), (1356, .invokevirtual 122, 3), (1359, .iload 5, 2), (1361, .if_icmp .eq 5, 3), (1364, .iconst 0, 1), (1365, .ireturn, 1), (1366, .iload 5, 2), (1368, .ifCond .ne 15, 3), (1371, .aload_n 3, 1), (1372, .iconst 0, 1), (1373, .laload, 1), (1374, .iload 6, 2), (1376, .i2l, 1), (1377, .lcmp, 1), (1378, .ifCond .eq 5, 3), (1381, .iconst 0, 1), (1382, .ireturn, 1), (1383, .goto 713, 3), (1386, .aload_n 1, 1), (1387, .aload_n 0, 1), (1388, .iload 4, 2), (1390, .iconst 1, 1), (1391, .iadd, 1), (1392, .iaload, 1), (1393, .aload_n 0, 1), (1394, .iload 4, 2), (1396, .iconst 2, 1), (1397, .iadd, 1), (1398, .iaload, 1), (1399, .aload_n 0, 1), (1400, .iload 4, 2), (1402, .iconst 3, 1), (1403, .iadd, 1), (1404, .iaload, 1), (1405, .aload_n 3, 1), (1406, .invokestatic 197, 3), (1409, .istore 5, 2), (1411, .aload_n 2, 1), (1412, .aload_n 0, 1), (1413, .iload 4, 2), (1415, .iconst 1, 1), (1416, .iadd, 1), (1417, .iaload, 1), (1418, .aload_n 0, 1), (1419, .iload 4, 2), (1421, .iconst 2, 1), (1422, .iadd, 1), (1423, .iaload, 1), (1424, .aload_n 0, 1), (1425, .iload 4, 2), (1427, .iconst 3, 1), (1428, .iadd, 1), (1429, .iaload, 1), (1430, .invokevirtual 199, 3), (1433, .istore 6, 2), (1435, .aload_n 2, 1), (1436, .invokevirtual 122, 3), (1439, .iload 5, 2), (1441, .if_icmp .eq 5, 3), (1444, .iconst 0, 1), (1445, .ireturn, 1), (1446, .iload 5, 2), (1448, .ifCond .ne 15, 3), (1451, .aload_n 3, 1), (1452, .iconst 0, 1), (1453, .laload, 1), (1454, .iload 6, 2), (1456, .i2l, 1), (1457, .lcmp, 1), (1458, .ifCond .eq 5, 3), (1461, .iconst 0, 1), (1462, .ireturn, 1), (1463, .goto 633, 3), (1466, .aload_n 1, 1), (1467, .aload_n 0, 1), (1468, .iload 4, 2), (1470, .iconst 1, 1), (1471, .iadd, 1), (1472, .iaload, 1), (1473, .aload_n 0, 1), (1474, .iload 4, 2), (1476, .iconst 2, 1), (1477, .iadd, 1), (1478, .iaload, 1), (1479, .aload_n 3, 1), (1480, .invokestatic 200, 3), (1483, .istore 5, 2), (1485, .aload_n 2, 1), (1486, .aload_n 0, 1), (1487, .iload 4, 2), (1489, .iconst 1, 1), (1490, .iadd, 1), (1491, .iaload, 1), (1492, .aload_n 0, 1), (1493, .iload 4, 2), (1495, .iconst 2, 1), (1496, .iadd, 1), (1497, .iaload, 1), (1498, .invokevirtual 202, 3), (1501, .istore 6, 2), (1503, .aload_n 2, 1), (1504, .invokevirtual 122, 3), (1507, .iload 5, 2), (1509, .if_icmp .eq 5, 3), (1512, .iconst 0, 1), (1513, .ireturn, 1), (1514, .iload 5, 2), (1516, .ifCond .ne 15, 3), (1519, .aload_n 3, 1), (1520, .iconst 0, 1), (1521, .laload, 1), (1522, .iload 6, 2), (1524, .i2l, 1), (1525, .lcmp, 1), (1526, .ifCond .eq 5, 3), (1529, .iconst 0, 1), (1530, .ireturn, 1), (1531, .goto 565, 3), (1534, .aload_n 1, 1), (1535, .aload_n 0, 1), (1536, .iload 4, 2), (1538, .iconst 1, 1), (1539, .iadd, 1), (1540, .iaload, 1), (1541, .aload_n 3, 1), (1542, .invokestatic 203, 3), (1545, .istore 5, 2), (1547, .aload_n 2, 1), (1548, .aload_n 0, 1), (1549, .iload 4, 2), (1551, .iconst 1, 1), (1552, .iadd, 1), (1553, .iaload, 1), (1554, .invokevirtual 205, 3), (1557, .istore 6, 2), (1559, .aload_n 2, 1), (1560, .invokevirtual 122, 3), (1563, .iload 5, 2), (1565, .if_icmp .eq 5, 3), (1568, .iconst 0, 1), (1569, .ireturn, 1), (1570, .iload 5, 2), (1572, .ifCond .ne 15, 3), (1575, .aload_n 3, 1), (1576, .iconst 0, 1), (1577, .laload, 1), (1578, .iload 6, 2), (1580, .i2l, 1), (1581, .lcmp, 1), (1582, .ifCond .eq 5, 3), (1585, .iconst 0, 1), (1586, .ireturn, 1), (1587, .goto 509, 3), (1590, .aload_n 1, 1), (1591, .aload_n 0, 1), (1592, .iload 4, 2), (1594, .iconst 1, 1), (1595, .iadd, 1), (1596, .iaload, 1), (1597, .aload_n 3, 1), (1598, .invokestatic 206, 3), (1601, .istore 5, 2), (1603, .aload_n 2, 1), (1604, .aload_n 0, 1), (1605, .iload 4, 2), (1607, .iconst 1, 1), (1608, .iadd, 1), (1609, .iaload, 1), (1610, .invokevirtual 208, 3), (1613, .istore 6, 2), (1615, .aload_n 2, 1), (1616, .invokevirtual 122, 3), (1619, .iload 5, 2), (1621, .if_icmp .eq 5, 3), (1624, .iconst 0, 1), (1625, .ireturn, 1), (1626, .iload 5, 2), (1628, .ifCond .ne 15, 3), (1631, .aload_n 3, 1), (1632, .iconst 0, 1), (1633, .laload, 1), (1634, .iload 6, 2), (1636, .i2l, 1), (1637, .lcmp, 1), (1638, .ifCond .eq 5, 3), (1641, .iconst 0, 1), (1642, .ireturn, 1), (1643, .goto 453, 3), (1646, .aload_n 1, 1), (1647, .aload_n 0, 1), (1648, .iload 4, 2), (1650, .iconst 1, 1), (1651, .iadd, 1), (1652, .iaload, 1), (1653, .aload_n 0, 1), (1654, .iload 4, 2), (1656, .iconst 2, 1), (1657, .iadd, 1), (1658, .iaload, 1), (1659, .aload_n 0, 1), (1660, .iload 4, 2), (1662, .iconst 3, 1), (1663, .iadd, 1), (1664, .iaload, 1), (1665, .aload_n 3, 1), (1666, .invokestatic 209, 3), (1669, .istore 5, 2), (1671, .aload_n 2, 1), (1672, .aload_n 0, 1), (1673, .iload 4, 2), (1675, .iconst 1, 1), (1676, .iadd, 1), (1677, .iaload, 1), (1678, .aload_n 0, 1), (1679, .iload 4, 2), (1681, .iconst 2, 1), (1682, .iadd, 1), (1683, .iaload, 1), (1684, .aload_n 0, 1), (1685, .iload 4, 2), (1687, .iconst 3, 1), (1688, .iadd, 1), (1689, .iaload, 1), (1690, .invokevirtual 211, 3), (1693, .istore 6, 2), (1695, .aload_n 2, 1), (1696, .invokevirtual 122, 3), (1699, .iload 5, 2), (1701, .if_icmp .eq 5, 3), (1704, .iconst 0, 1), (1705, .ireturn, 1), (1706, .iload 5, 2), (1708, .ifCond .ne 15, 3), (1711, .aload_n 3, 1), (1712, .iconst 0, 1), (1713, .laload, 1), (1714, .iload 6, 2), (1716, .i2l, 1), (1717, .lcmp, 1), (1718, .ifCond .eq 5, 3), (1721, .iconst 0, 1), (1722, .ireturn, 1), (1723, .goto 373, 3), (1726, .aload_n 1, 1), (1727, .invokevirtual 212, 3), (1730, .aload_n 2, 1), (1731, .invokevirtual 215, 3), (1734, .if_icmp .eq 362, 3), (1737, .iconst 0, 1), (1738, .ireturn, 1), (1739, .aload_n 1, 1), (1740, .aload_n 0, 1), (1741, .iload 4, 2), (1743, .iconst 1, 1), (1744, .iadd, 1), (1745, .iaload, 1), (1746, .aload_n 3, 1), (1747, .invokestatic 216, 3), (1750, .istore 5, 2), (1752, .aload_n 2, 1), (1753, .aload_n 0, 1), (1754, .iload 4, 2), (1756, .iconst 1, 1), (1757, .iadd, 1), (1758, .iaload, 1), (1759, .invokevirtual 218, 3), (1762, .istore 6, 2), (1764, .aload_n 2, 1), (1765, .invokevirtual 122, 3), (1768, .iload 5, 2), (1770, .if_icmp .eq 5, 3), (1773, .iconst 0, 1), (1774, .ireturn, 1), (1775, .iload 5, 2), (1777, .ifCond .ne 15, 3), (1780, .aload_n 3, 1), (1781, .iconst 0, 1), (1782, .laload, 1), (1783, .iload 6, 2), (1785, .i2l, 1), (1786, .lcmp, 1), (1787, .ifCond .eq 5, 3), (1790, .iconst 0, 1), (1791, .ireturn, 1), (1792, .goto 304, 3), (1795, .aload_n 1, 1), (1796, .aload_n 0, 1), (1797, .iload 4, 2), (1799, .iconst 1, 1), (1800, .iadd, 1), (1801, .iaload, 1), (1802, .aload_n 3, 1), (1803, .invokestatic 219, 3), (1806, .istore 5, 2), (1808, .aload_n 2, 1), (1809, .aload_n 0, 1), (1810, .iload 4, 2), (1812, .iconst 1, 1), (1813, .iadd, 1), (1814, .iaload, 1), (1815, .invokevirtual 221, 3), (1818, .istore 6, 2), (1820, .aload_n 2, 1), (1821, .invokevirtual 122, 3), (1824, .iload 5, 2), (1826, .if_icmp .eq 5, 3), (1829, .iconst 0, 1), (1830, .ireturn, 1), (1831, .iload 5, 2), (1833, .ifCond .ne 15, 3), (1836, .aload_n 3, 1), (1837, .iconst 0, 1), (1838, .laload, 1), (1839, .iload 6, 2), (1841, .i2l, 1), (1842, .lcmp, 1), (1843, .ifCond .eq 5, 3), (1846, .iconst 0, 1), (1847, .ireturn, 1), (1848, .goto 248, 3), (1851, .aload_n 1, 1), (1852, .aload_n 0, 1), (1853, .iload 4, 2), (1855, .iconst 1, 1), (1856, .iadd, 1), (1857, .iaload, 1), (1858, .aload_n 3, 1), (1859, .invokestatic 222, 3), (1862, .istore 5, 2), (1864, .aload_n 2, 1), (1865, .aload_n 0, 1), (1866, .iload 4, 2), (1868, .iconst 1, 1), (1869, .iadd, 1), (1870, .iaload, 1), (1871, .invokevirtual 224, 3), (1874, .istore 6, 2), (1876, .aload_n 2, 1), (1877, .invokevirtual 122, 3), (1880, .iload 5, 2), (1882, .if_icmp .eq 5, 3), (1885, .iconst 0, 1), (1886, .ireturn, 1), (1887, .iload 5, 2), (1889, .ifCond .ne 22, 3), (1892, .aload_n 3, 1), (1893, .iconst 0, 1), (1894, .laload, 1), (1895, .iload 6, 2), (1897, .ifCond .eq 7, 3), (1900, .lconst 1, 1), (1901, .goto 4, 3), (1904, .lconst 0, 1), (1905, .lcmp, 1), (1906, .ifCond .eq 5, 3), (1909, .iconst 0, 1), (1910, .ireturn, 1), (1911, .goto 185, 3), (1914, .aload_n 1, 1), (1915, .invokevirtual 225, 3), (1918, .aload_n 2, 1), (1919, .invokevirtual 228, 3), (1922, .if_icmp .eq 174, 3), (1925, .iconst 0, 1), (1926, .ireturn, 1), (1927, .aload_n 1, 1), (1928, .aload_n 0, 1), (1929, .iload 4, 2), (1931, .iconst 1, 1), (1932, .iadd, 1), (1933, .iaload, 1), (1934, .aload_n 3, 1), (1935, .invokestatic 229, 3), (1938, .istore 5, 2), (1940, .aload_n 2, 1), (1941, .aload_n 0, 1), (1942, .iload 4, 2), (1944, .iconst 1, 1), (1945, .iadd, 1), (1946, .iaload, 1), (1947, .invokevirtual 231, 3), (1950, .istore 6, 2), (1952, .aload_n 2, 1), (1953, .invokevirtual 122, 3), (1956, .iload 5, 2), (1958, .if_icmp .eq 5, 3), (1961, .iconst 0, 1), (1962, .ireturn, 1), (1963, .iload 5, 2), (1965, .ifCond .ne 15, 3), (1968, .aload_n 3, 1), (1969, .iconst 0, 1), (1970, .laload, 1), (1971, .iload 6, 2), (1973, .i2l, 1), (1974, .lcmp, 1), (1975, .ifCond .eq 5, 3), (1978, .iconst 0, 1), (1979, .ireturn, 1), (1980, .goto 116, 3), (1983, .aload_n 1, 1), (1984, .aload_n 0, 1), (1985, .iload 4, 2), (1987, .iconst 1, 1), (1988, .iadd, 1), (1989, .iaload, 1), (1990, .aload_n 3, 1), (1991, .invokestatic 232, 3), (1994, .istore 5, 2), (1996, .aload_n 2, 1), (1997, .aload_n 0, 1), (1998, .iload 4, 2), (2000, .iconst 1, 1), (2001, .iadd, 1), (2002, .iaload, 1), (2003, .invokevirtual 234, 3), (2006, .istore 6, 2), (2008, .aload_n 2, 1), (2009, .invokevirtual 122, 3), (2012, .iload 5, 2), (2014, .if_icmp .eq 5, 3), (2017, .iconst 0, 1), (2018, .ireturn, 1), (2019, .iload 5, 2), (2021, .ifCond .ne 15, 3), (2024, .aload_n 3, 1), (2025, .iconst 0, 1), (2026, .laload, 1), (2027, .iload 6, 2), (2029, .i2l, 1), (2030, .lcmp, 1), (2031, .ifCond .eq 5, 3), (2034, .iconst 0, 1), (2035, .ireturn, 1), (2036, .goto 60, 3), (2039, .aload_n 1, 1), (2040, .invokevirtual 235, 3), (2043, .aload_n 2, 1), (2044, .invokevirtual 238, 3), (2047, .lcmp, 1), (2048, .ifCond .eq 48, 3), (2051, .iconst 0, 1), (2052, .ireturn, 1), (2053, .aload_n 1, 1), (2054, .aload_n 3, 1), (2055, .invokestatic 239, 3), (2058, .istore 5, 2), (2060, .aload_n 2, 1), (2061, .invokevirtual 241, 3), (2064, .lstore 6, 2), (2066, .aload_n 2, 1), (2067, .invokevirtual 122, 3), (2070, .iload 5, 2), (2072, .if_icmp .eq 5, 3), (2075, .iconst 0, 1), (2076, .ireturn, 1), (2077, .iload 5, 2), (2079, .ifCond .ne 14, 3), (2082, .aload_n 3, 1), (2083, .iconst 0, 1), (2084, .laload, 1), (2085, .lload 6, 2), (2087, .lcmp, 1), (2088, .ifCond .eq 5, 3), (2091, .iconst 0, 1), (2092, .ireturn, 1), (2093, .goto 3, 3), (2096, .iinc 4 5, 3), (2099, .goto (-2076), 3), (2102, .iconst 1, 1), (2103, .ireturn, 1)]
set_option maxRecDepth 40000 in
theorem oL_law : CtOk mL_law.2.1 tL_law := by unfold CtOk; decide +kernel
abbrev LL (i : Nat) : List (Option Value) := [some (.ref 1000), some (.ref 0), some (.ref 62), some (.ref 88), some (.int (nI i)), none, none, none]
theorem vL_121 : MVL mL_law.1.cls 121 mX9_setSize 9 := ⟨kX9_setSize, vX9_setSize, tj7 41 (by rfl) rfl⟩
theorem vL_122 : MVL mL_law.1.cls 122 mX9_thrown 9 := ⟨kX9_thrown, vX9_thrown, tj7 37 (by rfl) rfl⟩
theorem vL_128 : MVL mL_law.1.cls 128 mX9_size 9 := ⟨kX9_size, vX9_size, tj7 63 (by rfl) rfl⟩
theorem vL_131 : MVL mL_law.1.cls 131 mX9_setOutput 9 := ⟨kX9_setOutput, vX9_setOutput, tj7 71 (by rfl) rfl⟩
theorem vL_134 : MVL mL_law.1.cls 134 mX9_output 9 := ⟨kX9_output, vX9_output, tj7 75 (by rfl) rfl⟩
theorem vL_140 : MVL mL_law.1.cls 140 mX9_setNumber 9 := ⟨kX9_setNumber, vX9_setNumber, tj7 79 (by rfl) rfl⟩
theorem vL_141 : MVL mL_law.1.cls 141 mX8_number 8 := ⟨kX8_number, vX8_number, tj2 83 (by rfl) rfl⟩
theorem vL_144 : MVL mL_law.1.cls 144 mX9_number 9 := ⟨kX9_number, vX9_number, tj7 87 (by rfl) rfl⟩
theorem vL_147 : MVL mL_law.1.cls 147 mX9_append 9 := ⟨kX9_append, vX9_append, tj7 127 (by rfl) rfl⟩
theorem vL_151 : MVL mL_law.1.cls 151 mX9_compile 9 := ⟨kX9_compile, vX9_compile, tj7 131 (by rfl) rfl⟩
theorem vL_154 : MVL mL_law.1.cls 154 mX9_error 9 := ⟨kX9_error, vX9_error, tj7 182 (by rfl) rfl⟩
theorem vL_155 : MVL mL_law.1.cls 155 mX8_mirror 8 := ⟨kX8_mirror, vX8_mirror, tj2 91 (by rfl) rfl⟩
theorem vL_158 : MVL mL_law.1.cls 158 mX9_mirror 9 := ⟨kX9_mirror, vX9_mirror, tj7 95 (by rfl) rfl⟩
theorem vL_159 : MVL mL_law.1.cls 159 mX8_complement 8 := ⟨kX8_complement, vX8_complement, tj2 115 (by rfl) rfl⟩
theorem vL_162 : MVL mL_law.1.cls 162 mX9_complement 9 := ⟨kX9_complement, vX9_complement, tj7 107 (by rfl) rfl⟩
theorem vL_163 : MVL mL_law.1.cls 163 mX8_leastNumber 8 := ⟨kX8_leastNumber, vX8_leastNumber, tj2 123 (by rfl) rfl⟩
theorem vL_166 : MVL mL_law.1.cls 166 mX9_leastNumber 9 := ⟨kX9_leastNumber, vX9_leastNumber, tj7 115 (by rfl) rfl⟩
theorem vL_169 : MVL mL_law.1.cls 169 mX9_compose 9 := ⟨kX9_compose, vX9_compose, tj7 119 (by rfl) rfl⟩
theorem vL_173 : MVL mL_law.1.cls 173 mX9_setWord 9 := ⟨kX9_setWord, vX9_setWord, tj7 186 (by rfl) rfl⟩
theorem vL_176 : MVL mL_law.1.cls 176 mX9_wordLength 9 := ⟨kX9_wordLength, vX9_wordLength, tj7 197 (by rfl) rfl⟩
theorem vL_179 : MVL mL_law.1.cls 179 mX9_wordIndex 9 := ⟨kX9_wordIndex, vX9_wordIndex, tj7 201 (by rfl) rfl⟩
theorem vL_182 : MVL mL_law.1.cls 182 mX9_cell 9 := ⟨kX9_cell, vX9_cell, tj7 205 (by rfl) rfl⟩
theorem vL_186 : MVL mL_law.1.cls 186 mX9_apply 9 := ⟨kX9_apply, vX9_apply, tj7 213 (by rfl) rfl⟩
theorem vL_189 : MVL mL_law.1.cls 189 mX9_orbit 9 := ⟨kX9_orbit, vX9_orbit, tj7 221 (by rfl) rfl⟩
theorem vL_192 : MVL mL_law.1.cls 192 mX9_preimageCount 9 := ⟨kX9_preimageCount, vX9_preimageCount, tj7 225 (by rfl) rfl⟩
theorem vL_196 : MVL mL_law.1.cls 196 mX9_preimage 9 := ⟨kX9_preimage, vX9_preimage, tj8 5 (by rfl) rfl⟩
theorem vL_199 : MVL mL_law.1.cls 199 mX9_preimagesBetween 9 := ⟨kX9_preimagesBetween, vX9_preimagesBetween, tj8 17 (by rfl) rfl⟩
theorem vL_202 : MVL mL_law.1.cls 202 mX9_wordsWith 9 := ⟨kX9_wordsWith, vX9_wordsWith, tj8 21 (by rfl) rfl⟩
theorem vL_205 : MVL mL_law.1.cls 205 mX9_mostPreimages 9 := ⟨kX9_mostPreimages, vX9_mostPreimages, tj8 29 (by rfl) rfl⟩
theorem vL_208 : MVL mL_law.1.cls 208 mX9_fixedWords 9 := ⟨kX9_fixedWords, vX9_fixedWords, tj8 33 (by rfl) rfl⟩
theorem vL_211 : MVL mL_law.1.cls 211 mX9_edge 9 := ⟨kX9_edge, vX9_edge, tj8 37 (by rfl) rfl⟩
theorem vL_212 : MVL mL_law.1.cls 212 mX8_subsets 8 := ⟨kX8_subsets, vX8_subsets, tj2 130 (by rfl) rfl⟩
theorem vL_215 : MVL mL_law.1.cls 215 mX9_subsets 9 := ⟨kX9_subsets, vX9_subsets, tj8 41 (by rfl) rfl⟩
theorem vL_218 : MVL mL_law.1.cls 218 mX9_orphans 9 := ⟨kX9_orphans, vX9_orphans, tj8 57 (by rfl) rfl⟩
theorem vL_221 : MVL mL_law.1.cls 221 mX9_shortestOrphan 9 := ⟨kX9_shortestOrphan, vX9_shortestOrphan, tj8 61 (by rfl) rfl⟩
theorem vL_224 : MVL mL_law.1.cls 224 mX9_has 9 := ⟨kX9_has, vX9_has, tj8 73 (by rfl) rfl⟩
theorem vL_225 : MVL mL_law.1.cls 225 mX8_cyclicPairs 8 := ⟨kX8_cyclicPairs, vX8_cyclicPairs, tj2 153 (by rfl) rfl⟩
theorem vL_228 : MVL mL_law.1.cls 228 mX9_cyclicPairs 9 := ⟨kX9_cyclicPairs, vX9_cyclicPairs, tj8 65 (by rfl) rfl⟩
theorem vL_231 : MVL mL_law.1.cls 231 mX9_inverse 9 := ⟨kX9_inverse, vX9_inverse, tj8 89 (by rfl) rfl⟩
theorem vL_234 : MVL mL_law.1.cls 234 mX9_inverseOutput 9 := ⟨kX9_inverseOutput, vX9_inverseOutput, tj8 101 (by rfl) rfl⟩
theorem vL_235 : MVL mL_law.1.cls 235 mX8_save 8 := ⟨kX8_save, vX8_save, tj2 177 (by rfl) rfl⟩
theorem vL_238 : MVL mL_law.1.cls 238 mX9_save 9 := ⟨kX9_save, vX9_save, tj8 105 (by rfl) rfl⟩
theorem vL_241 : MVL mL_law.1.cls 241 mX9_restore 9 := ⟨kX9_restore, vX9_restore, tj8 112 (by rfl) rfl⟩
theorem lc_setSize {X : CT} {o : Oc} {P : Wt → Hp → Prop} (C : Cx X mL_law [] 10 zL o P) {z : Nat × Nat} {w : Wt} {h : Hp} {N i : Nat} {xs : Nat → Int32} {S Z : Sc} {sv : Bool} {F : Sf} (hs : SC X w N xs) (hN : N ≤ 2560) (hi : i + 5 ≤ N) (hz : z.1 + 1 ≤ 603072 ∧ z.2 + 6 ≤ 7157866) (hJ : JI2 h S sv Z F) (K : ∀ h' S' sv' Z' F' z', JI2 h' S' sv' Z' F' → z'.1 ≤ z.1 + 1 ∧ z'.2 ≤ z.2 + 6 → V X z' w h' 2096 (LL i) []) : V X z w h 192 (LL i) [] := by
  obtain ⟨th, hR⟩ := hJ.2.1
  obtain ⟨f, hf⟩ := hJ.2.2
  obtain ⟨S', sv', Z', F', o', z', r, y, j8, j9, hr4, hc⟩ := jm_setSize (w := w) (S := S) (sv := sv) (Z := Z) (F := F) (x := xs (i + 1)) (y := xs (i + 2))
  obtain ⟨d8, P8, hd8, c8, q8⟩ := j8 h hJ.1
  have hz' : z'.1 ≤ 1 ∧ z'.2 ≤ 6 := by rcases hc with ⟨-, -, rfl⟩ | ⟨E, -, -, rfl⟩ <;> decide
  have hJO : JO rwL_setSize o' z' r f P8 (RW h S' sv' Z' F' r y.toInt64) := by
    rcases hc with ⟨rfl, rfl, rfl⟩ | ⟨E, rfl, hE, rfl⟩
    · exact .inl ⟨y, rfl, rfl, rfl, fun h1 p1 => ⟨((q8 h1 p1).gf 88 (by decide)).trans hf, rw_ok (q8 h1 p1)⟩⟩
    · exact .inr ⟨E, rfl, rfl, hE, fun h1 p1 => rw_thr (q8 h1 p1) hf (fun e => by subst e; simp [rwL_setSize] at hE)⟩
  have cw := xL_setSize hJO hJ.1.ob hd8 c8
  refine v_aload_n C (oL_law.at 25 rfl) rfl ?_
  refine v_aload_n C (oL_law.at 26 rfl) rfl ?_
  refine v_iload C (oL_law.at 27 rfl) rfl ?_
  refine v_iconst C (oL_law.at 28 rfl) (v := nI 1) rfl ?_
  refine v_iaddN C (oL_law.at 29 rfl) ?_
  refine v_sld C hs hN (by omega) (oL_law.at 30 rfl) ?_
  refine v_aload_n C (oL_law.at 31 rfl) rfl ?_
  refine v_iload C (oL_law.at 32 rfl) rfl ?_
  refine v_iconst C (oL_law.at 33 rfl) (v := nI 2) rfl ?_
  refine v_iaddN C (oL_law.at 34 rfl) ?_
  refine v_sld C hs hN (by omega) (oL_law.at 35 rfl) ?_
  refine v_aload_n C (oL_law.at 36 rfl) rfl ?_
  refine v_callH C (oL_law.at 37 rfl) kL_setSize (tj2 193 (by rfl) rfl) cw rfl rfl rfl ⟨by show z.1 + z'.1 ≤ 603072; omega, by show z.2 + z'.2 ≤ 7157866; omega⟩ rfl rfl (fun _ => rfl) (fun h1 R1 => ?_)
  dsimp only [Option.toList, List.cons_append, List.nil_append]
  obtain ⟨hP1, fr1, f1, hf1, hy1⟩ := R1
  have hR1 := hR.low (h' := h1) (fun j a b => fr1 j (by omega) (by omega))
  obtain ⟨d9, hd9, c9⟩ := j9 h1 _ hR1
  obtain ⟨u1, o1, -⟩ := hR1.o
  refine v_istore C (oL_law.at 38 rfl) rfl ?_
  dsimp only [sto1, sto2, killL]
  refine v_aload_n C (oL_law.at 39 rfl) rfl ?_
  refine v_aload_n C (oL_law.at 40 rfl) rfl ?_
  refine v_iload C (oL_law.at 41 rfl) rfl ?_
  refine v_iconst C (oL_law.at 42 rfl) (v := nI 1) rfl ?_
  refine v_iaddN C (oL_law.at 43 rfl) ?_
  refine v_sld C hs hN (by omega) (oL_law.at 44 rfl) ?_
  refine v_aload_n C (oL_law.at 45 rfl) rfl ?_
  refine v_iload C (oL_law.at 46 rfl) rfl ?_
  refine v_iconst C (oL_law.at 47 rfl) (v := nI 2) rfl ?_
  refine v_iaddN C (oL_law.at 48 rfl) ?_
  refine v_sld C hs hN (by omega) (oL_law.at 49 rfl) ?_
  refine v_callV C (oL_law.at 50 rfl) vL_121 o1 c9 rfl (blt10 hd9) rfl ⟨Nat.ble_eq_true_of_le (by show z.1 + z'.1 ≤ 603072; omega), Nat.ble_eq_true_of_le (by show z.2 + z'.2 ≤ 7157866; omega)⟩ rfl rfl (fun _ => rfl) (fun h2 hp => ?_)
  dsimp only [Option.toList, List.cons_append, List.nil_append]
  refine v_istore C (oL_law.at 51 rfl) rfl ?_
  dsimp only [sto1, sto2, killL]
  refine v_aload_n C (oL_law.at 52 rfl) rfl ?_
  obtain ⟨u2, o2, t2, -⟩ := hp.o
  refine v_callV C (oL_law.at 53 rfl) vL_122 o2 (k9_thrown o2) rfl rfl rfl ⟨Nat.ble_eq_true_of_le (by show z.1 + z'.1 ≤ 603072; omega), Nat.ble_eq_true_of_le (by show z.2 + z'.2 ≤ 7157866; omega)⟩ rfl rfl (fun _ => rfl) (fun h3 e3 => ?_)
  rw [show h3 = _ from e3]
  dsimp only [Option.toList, List.cons_append, List.nil_append]
  rw [t2]
  have J2 : JI2 h2 S' sv' Z' F' := ⟨hP1.top (fun j hj => hp.fr j (.inl (by omega))), ⟨_, hp.low (fun _ _ _ => rfl)⟩, f1, (hp.fr 88 (.inr (by decide))).trans hf1⟩
  refine v_iload C (oL_law.at 54 rfl) rfl ?_
  refine v_icmp_eqN C (oL_law.at 55 rfl) (tgt := 240) (by decide) (by omega) (by omega) (fun _ => ?_) (fun hne => absurd rfl hne)
  refine v_iload C (oL_law.at 58 rfl) rfl ?_
  refine v_if_neN C (oL_law.at 59 rfl) (tgt := 257) (by decide) (by omega) (fun _ => v_goto C (oL_law.at 69 rfl) (tgt := 2096) (by decide) (v_forget _ _ _ _ _ _ _ _ (K h2 S' sv' Z' F' _ J2 ⟨by show z.1 + z'.1 ≤ z.1 + 1; omega, by show z.2 + z'.2 ≤ z.2 + 6; omega⟩))) (fun hr0 => ?_)
  refine v_aload_n C (oL_law.at 60 rfl) rfl ?_
  refine v_iconst C (oL_law.at 61 rfl) (v := nI 0) rfl ?_
  refine v_lald C (oL_law.at 62 rfl) ((hp.fr 88 (.inr (by decide))).trans hf1) (by decide) rfl (j := 0) (by decide) (hy1 hr0) ?_
  refine v_iload C (oL_law.at 63 rfl) rfl ?_
  refine v_i2l C (oL_law.at 64 rfl) ?_
  refine v_lcmp C (oL_law.at 65 rfl) ?_
  exact v_if_eq C (oL_law.at 66 rfl) (tgt := 257) (by decide) (fun _ => v_goto C (oL_law.at 69 rfl) (tgt := 2096) (by decide) (v_forget _ _ _ _ _ _ _ _ (K h2 S' sv' Z' F' _ J2 ⟨by show z.1 + z'.1 ≤ z.1 + 1; omega, by show z.2 + z'.2 ≤ z.2 + 6; omega⟩))) (fun hne => absurd (cmp_self _) hne)
theorem lc_size {X : CT} {o : Oc} {P : Wt → Hp → Prop} (C : Cx X mL_law [] 10 zL o P) {z : Nat × Nat} {w : Wt} {h : Hp} {N i : Nat} {xs : Nat → Int32} {S Z : Sc} {sv : Bool} {F : Sf} (hs : SC X w N xs) (hN : N ≤ 2560) (hi : i + 5 ≤ N) (hz : z.1 + 1 ≤ 603072 ∧ z.2 + 6 ≤ 7157866) (hJ : JI2 h S sv Z F) (K : ∀ h' S' sv' Z' F' z', JI2 h' S' sv' Z' F' → z'.1 ≤ z.1 + 1 ∧ z'.2 ≤ z.2 + 6 → V X z' w h' 2096 (LL i) []) : V X z w h 260 (LL i) [] := by
  obtain ⟨th, hR⟩ := hJ.2.1
  obtain ⟨f, hf⟩ := hJ.2.2
  obtain ⟨S', sv', Z', F', o', z', r, y, j8, j9, hr4, hc⟩ := jm_size (w := w) (S := S) (sv := sv) (Z := Z) (F := F) (x := xs (i + 1))
  obtain ⟨d8, P8, hd8, c8, q8⟩ := j8 h hJ.1
  have hz' : z'.1 ≤ 1 ∧ z'.2 ≤ 6 := by rcases hc with ⟨-, -, rfl⟩ | ⟨E, -, -, rfl⟩ <;> decide
  have hJO : JO rwL_size o' z' r f P8 (RW h S' sv' Z' F' r y.toInt64) := by
    rcases hc with ⟨rfl, rfl, rfl⟩ | ⟨E, rfl, hE, rfl⟩
    · exact .inl ⟨y, rfl, rfl, rfl, fun h1 p1 => ⟨((q8 h1 p1).gf 88 (by decide)).trans hf, rw_ok (q8 h1 p1)⟩⟩
    · exact .inr ⟨E, rfl, rfl, hE, fun h1 p1 => rw_thr (q8 h1 p1) hf (fun e => by subst e; simp [rwL_size] at hE)⟩
  have cw := xL_size hJO hJ.1.ob hd8 c8
  refine v_aload_n C (oL_law.at 70 rfl) rfl ?_
  refine v_aload_n C (oL_law.at 71 rfl) rfl ?_
  refine v_iload C (oL_law.at 72 rfl) rfl ?_
  refine v_iconst C (oL_law.at 73 rfl) (v := nI 1) rfl ?_
  refine v_iaddN C (oL_law.at 74 rfl) ?_
  refine v_sld C hs hN (by omega) (oL_law.at 75 rfl) ?_
  refine v_aload_n C (oL_law.at 76 rfl) rfl ?_
  refine v_callH C (oL_law.at 77 rfl) kL_size (tj3 41 (by rfl) rfl) cw rfl rfl rfl ⟨by show z.1 + z'.1 ≤ 603072; omega, by show z.2 + z'.2 ≤ 7157866; omega⟩ rfl rfl (fun _ => rfl) (fun h1 R1 => ?_)
  dsimp only [Option.toList, List.cons_append, List.nil_append]
  obtain ⟨hP1, fr1, f1, hf1, hy1⟩ := R1
  have hR1 := hR.low (h' := h1) (fun j a b => fr1 j (by omega) (by omega))
  obtain ⟨d9, hd9, c9⟩ := j9 h1 _ hR1
  obtain ⟨u1, o1, -⟩ := hR1.o
  refine v_istore C (oL_law.at 78 rfl) rfl ?_
  dsimp only [sto1, sto2, killL]
  refine v_aload_n C (oL_law.at 79 rfl) rfl ?_
  refine v_aload_n C (oL_law.at 80 rfl) rfl ?_
  refine v_iload C (oL_law.at 81 rfl) rfl ?_
  refine v_iconst C (oL_law.at 82 rfl) (v := nI 1) rfl ?_
  refine v_iaddN C (oL_law.at 83 rfl) ?_
  refine v_sld C hs hN (by omega) (oL_law.at 84 rfl) ?_
  refine v_callV C (oL_law.at 85 rfl) vL_128 o1 c9 rfl (blt10 hd9) rfl ⟨Nat.ble_eq_true_of_le (by show z.1 + z'.1 ≤ 603072; omega), Nat.ble_eq_true_of_le (by show z.2 + z'.2 ≤ 7157866; omega)⟩ rfl rfl (fun _ => rfl) (fun h2 hp => ?_)
  dsimp only [Option.toList, List.cons_append, List.nil_append]
  refine v_istore C (oL_law.at 86 rfl) rfl ?_
  dsimp only [sto1, sto2, killL]
  refine v_aload_n C (oL_law.at 87 rfl) rfl ?_
  obtain ⟨u2, o2, t2, -⟩ := hp.o
  refine v_callV C (oL_law.at 88 rfl) vL_122 o2 (k9_thrown o2) rfl rfl rfl ⟨Nat.ble_eq_true_of_le (by show z.1 + z'.1 ≤ 603072; omega), Nat.ble_eq_true_of_le (by show z.2 + z'.2 ≤ 7157866; omega)⟩ rfl rfl (fun _ => rfl) (fun h3 e3 => ?_)
  rw [show h3 = _ from e3]
  dsimp only [Option.toList, List.cons_append, List.nil_append]
  rw [t2]
  have J2 : JI2 h2 S' sv' Z' F' := ⟨hP1.top (fun j hj => hp.fr j (.inl (by omega))), ⟨_, hp.low (fun _ _ _ => rfl)⟩, f1, (hp.fr 88 (.inr (by decide))).trans hf1⟩
  refine v_iload C (oL_law.at 89 rfl) rfl ?_
  refine v_icmp_eqN C (oL_law.at 90 rfl) (tgt := 296) (by decide) (by omega) (by omega) (fun _ => ?_) (fun hne => absurd rfl hne)
  refine v_iload C (oL_law.at 93 rfl) rfl ?_
  refine v_if_neN C (oL_law.at 94 rfl) (tgt := 313) (by decide) (by omega) (fun _ => v_goto C (oL_law.at 104 rfl) (tgt := 2096) (by decide) (v_forget _ _ _ _ _ _ _ _ (K h2 S' sv' Z' F' _ J2 ⟨by show z.1 + z'.1 ≤ z.1 + 1; omega, by show z.2 + z'.2 ≤ z.2 + 6; omega⟩))) (fun hr0 => ?_)
  refine v_aload_n C (oL_law.at 95 rfl) rfl ?_
  refine v_iconst C (oL_law.at 96 rfl) (v := nI 0) rfl ?_
  refine v_lald C (oL_law.at 97 rfl) ((hp.fr 88 (.inr (by decide))).trans hf1) (by decide) rfl (j := 0) (by decide) (hy1 hr0) ?_
  refine v_iload C (oL_law.at 98 rfl) rfl ?_
  refine v_i2l C (oL_law.at 99 rfl) ?_
  refine v_lcmp C (oL_law.at 100 rfl) ?_
  exact v_if_eq C (oL_law.at 101 rfl) (tgt := 313) (by decide) (fun _ => v_goto C (oL_law.at 104 rfl) (tgt := 2096) (by decide) (v_forget _ _ _ _ _ _ _ _ (K h2 S' sv' Z' F' _ J2 ⟨by show z.1 + z'.1 ≤ z.1 + 1; omega, by show z.2 + z'.2 ≤ z.2 + 6; omega⟩))) (fun hne => absurd (cmp_self _) hne)
theorem lc_setOutput {X : CT} {o : Oc} {P : Wt → Hp → Prop} (C : Cx X mL_law [] 10 zL o P) {z : Nat × Nat} {w : Wt} {h : Hp} {N i : Nat} {xs : Nat → Int32} {S Z : Sc} {sv : Bool} {F : Sf} (hs : SC X w N xs) (hN : N ≤ 2560) (hi : i + 5 ≤ N) (hz : z.1 + 1 ≤ 603072 ∧ z.2 + 6 ≤ 7157866) (hJ : JI2 h S sv Z F) (K : ∀ h' S' sv' Z' F' z', JI2 h' S' sv' Z' F' → z'.1 ≤ z.1 + 1 ∧ z'.2 ≤ z.2 + 6 → V X z' w h' 2096 (LL i) []) : V X z w h 316 (LL i) [] := by
  obtain ⟨th, hR⟩ := hJ.2.1
  obtain ⟨f, hf⟩ := hJ.2.2
  obtain ⟨S', sv', Z', F', o', z', r, y, j8, j9, hr4, hc⟩ := jm_setOutput hJ.oks (w := w) (S := S) (sv := sv) (Z := Z) (F := F) (x := xs (i + 1)) (y := xs (i + 2))
  obtain ⟨d8, P8, hd8, c8, q8⟩ := j8 h hJ.1
  have hz' : z'.1 ≤ 1 ∧ z'.2 ≤ 6 := by rcases hc with ⟨-, -, rfl⟩ | ⟨E, -, -, rfl⟩ <;> decide
  have hJO : JO rwL_setOutput o' z' r f P8 (RW h S' sv' Z' F' r y.toInt64) := by
    rcases hc with ⟨rfl, rfl, rfl⟩ | ⟨E, rfl, hE, rfl⟩
    · exact .inl ⟨y, rfl, rfl, rfl, fun h1 p1 => ⟨((q8 h1 p1).gf 88 (by decide)).trans hf, rw_ok (q8 h1 p1)⟩⟩
    · exact .inr ⟨E, rfl, rfl, hE, fun h1 p1 => rw_thr (q8 h1 p1) hf (fun e => by subst e; simp [rwL_setOutput] at hE)⟩
  have cw := xL_setOutput hJO hJ.1.ob hd8 c8
  refine v_aload_n C (oL_law.at 105 rfl) rfl ?_
  refine v_aload_n C (oL_law.at 106 rfl) rfl ?_
  refine v_iload C (oL_law.at 107 rfl) rfl ?_
  refine v_iconst C (oL_law.at 108 rfl) (v := nI 1) rfl ?_
  refine v_iaddN C (oL_law.at 109 rfl) ?_
  refine v_sld C hs hN (by omega) (oL_law.at 110 rfl) ?_
  refine v_aload_n C (oL_law.at 111 rfl) rfl ?_
  refine v_iload C (oL_law.at 112 rfl) rfl ?_
  refine v_iconst C (oL_law.at 113 rfl) (v := nI 2) rfl ?_
  refine v_iaddN C (oL_law.at 114 rfl) ?_
  refine v_sld C hs hN (by omega) (oL_law.at 115 rfl) ?_
  refine v_aload_n C (oL_law.at 116 rfl) rfl ?_
  refine v_callH C (oL_law.at 117 rfl) kL_setOutput (tj3 85 (by rfl) rfl) cw rfl rfl rfl ⟨by show z.1 + z'.1 ≤ 603072; omega, by show z.2 + z'.2 ≤ 7157866; omega⟩ rfl rfl (fun _ => rfl) (fun h1 R1 => ?_)
  dsimp only [Option.toList, List.cons_append, List.nil_append]
  obtain ⟨hP1, fr1, f1, hf1, hy1⟩ := R1
  have hR1 := hR.low (h' := h1) (fun j a b => fr1 j (by omega) (by omega))
  obtain ⟨d9, hd9, c9⟩ := j9 h1 _ hR1
  obtain ⟨u1, o1, -⟩ := hR1.o
  refine v_istore C (oL_law.at 118 rfl) rfl ?_
  dsimp only [sto1, sto2, killL]
  refine v_aload_n C (oL_law.at 119 rfl) rfl ?_
  refine v_aload_n C (oL_law.at 120 rfl) rfl ?_
  refine v_iload C (oL_law.at 121 rfl) rfl ?_
  refine v_iconst C (oL_law.at 122 rfl) (v := nI 1) rfl ?_
  refine v_iaddN C (oL_law.at 123 rfl) ?_
  refine v_sld C hs hN (by omega) (oL_law.at 124 rfl) ?_
  refine v_aload_n C (oL_law.at 125 rfl) rfl ?_
  refine v_iload C (oL_law.at 126 rfl) rfl ?_
  refine v_iconst C (oL_law.at 127 rfl) (v := nI 2) rfl ?_
  refine v_iaddN C (oL_law.at 128 rfl) ?_
  refine v_sld C hs hN (by omega) (oL_law.at 129 rfl) ?_
  refine v_callV C (oL_law.at 130 rfl) vL_131 o1 c9 rfl (blt10 hd9) rfl ⟨Nat.ble_eq_true_of_le (by show z.1 + z'.1 ≤ 603072; omega), Nat.ble_eq_true_of_le (by show z.2 + z'.2 ≤ 7157866; omega)⟩ rfl rfl (fun _ => rfl) (fun h2 hp => ?_)
  dsimp only [Option.toList, List.cons_append, List.nil_append]
  refine v_istore C (oL_law.at 131 rfl) rfl ?_
  dsimp only [sto1, sto2, killL]
  refine v_aload_n C (oL_law.at 132 rfl) rfl ?_
  obtain ⟨u2, o2, t2, -⟩ := hp.o
  refine v_callV C (oL_law.at 133 rfl) vL_122 o2 (k9_thrown o2) rfl rfl rfl ⟨Nat.ble_eq_true_of_le (by show z.1 + z'.1 ≤ 603072; omega), Nat.ble_eq_true_of_le (by show z.2 + z'.2 ≤ 7157866; omega)⟩ rfl rfl (fun _ => rfl) (fun h3 e3 => ?_)
  rw [show h3 = _ from e3]
  dsimp only [Option.toList, List.cons_append, List.nil_append]
  rw [t2]
  have J2 : JI2 h2 S' sv' Z' F' := ⟨hP1.top (fun j hj => hp.fr j (.inl (by omega))), ⟨_, hp.low (fun _ _ _ => rfl)⟩, f1, (hp.fr 88 (.inr (by decide))).trans hf1⟩
  refine v_iload C (oL_law.at 134 rfl) rfl ?_
  refine v_icmp_eqN C (oL_law.at 135 rfl) (tgt := 364) (by decide) (by omega) (by omega) (fun _ => ?_) (fun hne => absurd rfl hne)
  refine v_iload C (oL_law.at 138 rfl) rfl ?_
  refine v_if_neN C (oL_law.at 139 rfl) (tgt := 381) (by decide) (by omega) (fun _ => v_goto C (oL_law.at 149 rfl) (tgt := 2096) (by decide) (v_forget _ _ _ _ _ _ _ _ (K h2 S' sv' Z' F' _ J2 ⟨by show z.1 + z'.1 ≤ z.1 + 1; omega, by show z.2 + z'.2 ≤ z.2 + 6; omega⟩))) (fun hr0 => ?_)
  refine v_aload_n C (oL_law.at 140 rfl) rfl ?_
  refine v_iconst C (oL_law.at 141 rfl) (v := nI 0) rfl ?_
  refine v_lald C (oL_law.at 142 rfl) ((hp.fr 88 (.inr (by decide))).trans hf1) (by decide) rfl (j := 0) (by decide) (hy1 hr0) ?_
  refine v_iload C (oL_law.at 143 rfl) rfl ?_
  refine v_i2l C (oL_law.at 144 rfl) ?_
  refine v_lcmp C (oL_law.at 145 rfl) ?_
  exact v_if_eq C (oL_law.at 146 rfl) (tgt := 381) (by decide) (fun _ => v_goto C (oL_law.at 149 rfl) (tgt := 2096) (by decide) (v_forget _ _ _ _ _ _ _ _ (K h2 S' sv' Z' F' _ J2 ⟨by show z.1 + z'.1 ≤ z.1 + 1; omega, by show z.2 + z'.2 ≤ z.2 + 6; omega⟩))) (fun hne => absurd (cmp_self _) hne)
theorem lc_output {X : CT} {o : Oc} {P : Wt → Hp → Prop} (C : Cx X mL_law [] 10 zL o P) {z : Nat × Nat} {w : Wt} {h : Hp} {N i : Nat} {xs : Nat → Int32} {S Z : Sc} {sv : Bool} {F : Sf} (hs : SC X w N xs) (hN : N ≤ 2560) (hi : i + 5 ≤ N) (hz : z.1 + 1 ≤ 603072 ∧ z.2 + 6 ≤ 7157866) (hJ : JI2 h S sv Z F) (K : ∀ h' S' sv' Z' F' z', JI2 h' S' sv' Z' F' → z'.1 ≤ z.1 + 1 ∧ z'.2 ≤ z.2 + 6 → V X z' w h' 2096 (LL i) []) : V X z w h 384 (LL i) [] := by
  obtain ⟨th, hR⟩ := hJ.2.1
  obtain ⟨f, hf⟩ := hJ.2.2
  obtain ⟨S', sv', Z', F', o', z', r, y, j8, j9, hr4, hc⟩ := jm_output hJ.oks (w := w) (S := S) (sv := sv) (Z := Z) (F := F) (x := xs (i + 1))
  obtain ⟨d8, P8, hd8, c8, q8⟩ := j8 h hJ.1
  have hz' : z'.1 ≤ 1 ∧ z'.2 ≤ 6 := by rcases hc with ⟨-, -, rfl⟩ | ⟨E, -, -, rfl⟩ <;> decide
  have hJO : JO rwL_output o' z' r f P8 (RW h S' sv' Z' F' r y.toInt64) := by
    rcases hc with ⟨rfl, rfl, rfl⟩ | ⟨E, rfl, hE, rfl⟩
    · exact .inl ⟨y, rfl, rfl, rfl, fun h1 p1 => ⟨((q8 h1 p1).gf 88 (by decide)).trans hf, rw_ok (q8 h1 p1)⟩⟩
    · exact .inr ⟨E, rfl, rfl, hE, fun h1 p1 => rw_thr (q8 h1 p1) hf (fun e => by subst e; simp [rwL_output] at hE)⟩
  have cw := xL_output hJO hJ.1.ob hd8 c8
  refine v_aload_n C (oL_law.at 150 rfl) rfl ?_
  refine v_aload_n C (oL_law.at 151 rfl) rfl ?_
  refine v_iload C (oL_law.at 152 rfl) rfl ?_
  refine v_iconst C (oL_law.at 153 rfl) (v := nI 1) rfl ?_
  refine v_iaddN C (oL_law.at 154 rfl) ?_
  refine v_sld C hs hN (by omega) (oL_law.at 155 rfl) ?_
  refine v_aload_n C (oL_law.at 156 rfl) rfl ?_
  refine v_callH C (oL_law.at 157 rfl) kL_output (tj3 98 (by rfl) rfl) cw rfl rfl rfl ⟨by show z.1 + z'.1 ≤ 603072; omega, by show z.2 + z'.2 ≤ 7157866; omega⟩ rfl rfl (fun _ => rfl) (fun h1 R1 => ?_)
  dsimp only [Option.toList, List.cons_append, List.nil_append]
  obtain ⟨hP1, fr1, f1, hf1, hy1⟩ := R1
  have hR1 := hR.low (h' := h1) (fun j a b => fr1 j (by omega) (by omega))
  obtain ⟨d9, hd9, c9⟩ := j9 h1 _ hR1
  obtain ⟨u1, o1, -⟩ := hR1.o
  refine v_istore C (oL_law.at 158 rfl) rfl ?_
  dsimp only [sto1, sto2, killL]
  refine v_aload_n C (oL_law.at 159 rfl) rfl ?_
  refine v_aload_n C (oL_law.at 160 rfl) rfl ?_
  refine v_iload C (oL_law.at 161 rfl) rfl ?_
  refine v_iconst C (oL_law.at 162 rfl) (v := nI 1) rfl ?_
  refine v_iaddN C (oL_law.at 163 rfl) ?_
  refine v_sld C hs hN (by omega) (oL_law.at 164 rfl) ?_
  refine v_callV C (oL_law.at 165 rfl) vL_134 o1 c9 rfl (blt10 hd9) rfl ⟨Nat.ble_eq_true_of_le (by show z.1 + z'.1 ≤ 603072; omega), Nat.ble_eq_true_of_le (by show z.2 + z'.2 ≤ 7157866; omega)⟩ rfl rfl (fun _ => rfl) (fun h2 hp => ?_)
  dsimp only [Option.toList, List.cons_append, List.nil_append]
  refine v_istore C (oL_law.at 166 rfl) rfl ?_
  dsimp only [sto1, sto2, killL]
  refine v_aload_n C (oL_law.at 167 rfl) rfl ?_
  obtain ⟨u2, o2, t2, -⟩ := hp.o
  refine v_callV C (oL_law.at 168 rfl) vL_122 o2 (k9_thrown o2) rfl rfl rfl ⟨Nat.ble_eq_true_of_le (by show z.1 + z'.1 ≤ 603072; omega), Nat.ble_eq_true_of_le (by show z.2 + z'.2 ≤ 7157866; omega)⟩ rfl rfl (fun _ => rfl) (fun h3 e3 => ?_)
  rw [show h3 = _ from e3]
  dsimp only [Option.toList, List.cons_append, List.nil_append]
  rw [t2]
  have J2 : JI2 h2 S' sv' Z' F' := ⟨hP1.top (fun j hj => hp.fr j (.inl (by omega))), ⟨_, hp.low (fun _ _ _ => rfl)⟩, f1, (hp.fr 88 (.inr (by decide))).trans hf1⟩
  refine v_iload C (oL_law.at 169 rfl) rfl ?_
  refine v_icmp_eqN C (oL_law.at 170 rfl) (tgt := 420) (by decide) (by omega) (by omega) (fun _ => ?_) (fun hne => absurd rfl hne)
  refine v_iload C (oL_law.at 173 rfl) rfl ?_
  refine v_if_neN C (oL_law.at 174 rfl) (tgt := 437) (by decide) (by omega) (fun _ => v_goto C (oL_law.at 184 rfl) (tgt := 2096) (by decide) (v_forget _ _ _ _ _ _ _ _ (K h2 S' sv' Z' F' _ J2 ⟨by show z.1 + z'.1 ≤ z.1 + 1; omega, by show z.2 + z'.2 ≤ z.2 + 6; omega⟩))) (fun hr0 => ?_)
  refine v_aload_n C (oL_law.at 175 rfl) rfl ?_
  refine v_iconst C (oL_law.at 176 rfl) (v := nI 0) rfl ?_
  refine v_lald C (oL_law.at 177 rfl) ((hp.fr 88 (.inr (by decide))).trans hf1) (by decide) rfl (j := 0) (by decide) (hy1 hr0) ?_
  refine v_iload C (oL_law.at 178 rfl) rfl ?_
  refine v_i2l C (oL_law.at 179 rfl) ?_
  refine v_lcmp C (oL_law.at 180 rfl) ?_
  exact v_if_eq C (oL_law.at 181 rfl) (tgt := 437) (by decide) (fun _ => v_goto C (oL_law.at 184 rfl) (tgt := 2096) (by decide) (v_forget _ _ _ _ _ _ _ _ (K h2 S' sv' Z' F' _ J2 ⟨by show z.1 + z'.1 ≤ z.1 + 1; omega, by show z.2 + z'.2 ≤ z.2 + 6; omega⟩))) (fun hne => absurd (cmp_self _) hne)
theorem lc_setNumber {X : CT} {o : Oc} {P : Wt → Hp → Prop} (C : Cx X mL_law [] 10 zL o P) {z : Nat × Nat} {w : Wt} {h : Hp} {N i : Nat} {xs : Nat → Int32} {S Z : Sc} {sv : Bool} {F : Sf} (hs : SC X w N xs) (hN : N ≤ 2560) (hi : i + 5 ≤ N) (hz : z.1 + 1 ≤ 603072 ∧ z.2 + 6 ≤ 7157866) (hJ : JI2 h S sv Z F) (K : ∀ h' S' sv' Z' F' z', JI2 h' S' sv' Z' F' → z'.1 ≤ z.1 + 1 ∧ z'.2 ≤ z.2 + 6 → V X z' w h' 2096 (LL i) []) : V X z w h 440 (LL i) [] := by
  obtain ⟨th, hR⟩ := hJ.2.1
  obtain ⟨f, hf⟩ := hJ.2.2
  obtain ⟨S', sv', Z', F', o', z', r, y, j8, j9, hr4, hc⟩ := jm_setNumber (w := w) (S := S) (sv := sv) (Z := Z) (F := F) (a := ((xs (i + 1)).toInt64 <<< ((nI 32).toInt64 &&& 63)) ||| ((xs (i + 2)).toInt64 &&& 4294967295))
  obtain ⟨d8, P8, hd8, c8, q8⟩ := j8 h hJ.1
  have hz' : z'.1 ≤ 1 ∧ z'.2 ≤ 6 := by rcases hc with ⟨-, -, rfl⟩ | ⟨E, -, -, rfl⟩ <;> decide
  have hJO : JO rwL_setNumber o' z' r f P8 (RW h S' sv' Z' F' r y.toInt64) := by
    rcases hc with ⟨rfl, rfl, rfl⟩ | ⟨E, rfl, hE, rfl⟩
    · exact .inl ⟨y, rfl, rfl, rfl, fun h1 p1 => ⟨((q8 h1 p1).gf 88 (by decide)).trans hf, rw_ok (q8 h1 p1)⟩⟩
    · exact .inr ⟨E, rfl, rfl, hE, fun h1 p1 => rw_thr (q8 h1 p1) hf (fun e => by subst e; simp [rwL_setNumber] at hE)⟩
  have cw := xL_setNumber hJO hJ.1.ob hd8 c8
  refine v_aload_n C (oL_law.at 185 rfl) rfl ?_
  refine v_aload_n C (oL_law.at 186 rfl) rfl ?_
  refine v_iload C (oL_law.at 187 rfl) rfl ?_
  refine v_iconst C (oL_law.at 188 rfl) (v := nI 1) rfl ?_
  refine v_iaddN C (oL_law.at 189 rfl) ?_
  refine v_sld C hs hN (by omega) (oL_law.at 190 rfl) ?_
  refine v_i2l C (oL_law.at 191 rfl) ?_
  refine v_bipush C (oL_law.at 192 rfl) (v := nI 32) rfl ?_
  refine v_lshl C (oL_law.at 193 rfl) ?_
  refine v_aload_n C (oL_law.at 194 rfl) rfl ?_
  refine v_iload C (oL_law.at 195 rfl) rfl ?_
  refine v_iconst C (oL_law.at 196 rfl) (v := nI 2) rfl ?_
  refine v_iaddN C (oL_law.at 197 rfl) ?_
  refine v_sld C hs hN (by omega) (oL_law.at 198 rfl) ?_
  refine v_i2l C (oL_law.at 199 rfl) ?_
  refine v_ldc2 C (v := 4294967295) (tj8 116 (by rfl) rfl) (oL_law.at 200 rfl) ?_
  refine v_land C (oL_law.at 201 rfl) ?_
  refine v_lor C (oL_law.at 202 rfl) ?_
  refine v_aload_n C (oL_law.at 203 rfl) rfl ?_
  refine v_callH C (oL_law.at 204 rfl) kL_setNumber (tj3 105 (by rfl) rfl) cw rfl rfl rfl ⟨by show z.1 + z'.1 ≤ 603072; omega, by show z.2 + z'.2 ≤ 7157866; omega⟩ rfl rfl (fun _ => rfl) (fun h1 R1 => ?_)
  dsimp only [Option.toList, List.cons_append, List.nil_append]
  obtain ⟨hP1, fr1, f1, hf1, hy1⟩ := R1
  have hR1 := hR.low (h' := h1) (fun j a b => fr1 j (by omega) (by omega))
  obtain ⟨d9, hd9, c9⟩ := j9 h1 _ hR1
  obtain ⟨u1, o1, -⟩ := hR1.o
  refine v_istore C (oL_law.at 205 rfl) rfl ?_
  dsimp only [sto1, sto2, killL]
  refine v_aload_n C (oL_law.at 206 rfl) rfl ?_
  refine v_aload_n C (oL_law.at 207 rfl) rfl ?_
  refine v_iload C (oL_law.at 208 rfl) rfl ?_
  refine v_iconst C (oL_law.at 209 rfl) (v := nI 1) rfl ?_
  refine v_iaddN C (oL_law.at 210 rfl) ?_
  refine v_sld C hs hN (by omega) (oL_law.at 211 rfl) ?_
  refine v_i2l C (oL_law.at 212 rfl) ?_
  refine v_bipush C (oL_law.at 213 rfl) (v := nI 32) rfl ?_
  refine v_lshl C (oL_law.at 214 rfl) ?_
  refine v_aload_n C (oL_law.at 215 rfl) rfl ?_
  refine v_iload C (oL_law.at 216 rfl) rfl ?_
  refine v_iconst C (oL_law.at 217 rfl) (v := nI 2) rfl ?_
  refine v_iaddN C (oL_law.at 218 rfl) ?_
  refine v_sld C hs hN (by omega) (oL_law.at 219 rfl) ?_
  refine v_i2l C (oL_law.at 220 rfl) ?_
  refine v_ldc2 C (v := 4294967295) (tj8 116 (by rfl) rfl) (oL_law.at 221 rfl) ?_
  refine v_land C (oL_law.at 222 rfl) ?_
  refine v_lor C (oL_law.at 223 rfl) ?_
  refine v_callV C (oL_law.at 224 rfl) vL_140 o1 c9 rfl (blt10 hd9) rfl ⟨Nat.ble_eq_true_of_le (by show z.1 + z'.1 ≤ 603072; omega), Nat.ble_eq_true_of_le (by show z.2 + z'.2 ≤ 7157866; omega)⟩ rfl rfl (fun _ => rfl) (fun h2 hp => ?_)
  dsimp only [Option.toList, List.cons_append, List.nil_append]
  refine v_istore C (oL_law.at 225 rfl) rfl ?_
  dsimp only [sto1, sto2, killL]
  refine v_aload_n C (oL_law.at 226 rfl) rfl ?_
  obtain ⟨u2, o2, t2, -⟩ := hp.o
  refine v_callV C (oL_law.at 227 rfl) vL_122 o2 (k9_thrown o2) rfl rfl rfl ⟨Nat.ble_eq_true_of_le (by show z.1 + z'.1 ≤ 603072; omega), Nat.ble_eq_true_of_le (by show z.2 + z'.2 ≤ 7157866; omega)⟩ rfl rfl (fun _ => rfl) (fun h3 e3 => ?_)
  rw [show h3 = _ from e3]
  dsimp only [Option.toList, List.cons_append, List.nil_append]
  rw [t2]
  have J2 : JI2 h2 S' sv' Z' F' := ⟨hP1.top (fun j hj => hp.fr j (.inl (by omega))), ⟨_, hp.low (fun _ _ _ => rfl)⟩, f1, (hp.fr 88 (.inr (by decide))).trans hf1⟩
  refine v_iload C (oL_law.at 228 rfl) rfl ?_
  refine v_icmp_eqN C (oL_law.at 229 rfl) (tgt := 508) (by decide) (by omega) (by omega) (fun _ => ?_) (fun hne => absurd rfl hne)
  refine v_iload C (oL_law.at 232 rfl) rfl ?_
  refine v_if_neN C (oL_law.at 233 rfl) (tgt := 525) (by decide) (by omega) (fun _ => v_goto C (oL_law.at 243 rfl) (tgt := 2096) (by decide) (v_forget _ _ _ _ _ _ _ _ (K h2 S' sv' Z' F' _ J2 ⟨by show z.1 + z'.1 ≤ z.1 + 1; omega, by show z.2 + z'.2 ≤ z.2 + 6; omega⟩))) (fun hr0 => ?_)
  refine v_aload_n C (oL_law.at 234 rfl) rfl ?_
  refine v_iconst C (oL_law.at 235 rfl) (v := nI 0) rfl ?_
  refine v_lald C (oL_law.at 236 rfl) ((hp.fr 88 (.inr (by decide))).trans hf1) (by decide) rfl (j := 0) (by decide) (hy1 hr0) ?_
  refine v_iload C (oL_law.at 237 rfl) rfl ?_
  refine v_i2l C (oL_law.at 238 rfl) ?_
  refine v_lcmp C (oL_law.at 239 rfl) ?_
  exact v_if_eq C (oL_law.at 240 rfl) (tgt := 525) (by decide) (fun _ => v_goto C (oL_law.at 243 rfl) (tgt := 2096) (by decide) (v_forget _ _ _ _ _ _ _ _ (K h2 S' sv' Z' F' _ J2 ⟨by show z.1 + z'.1 ≤ z.1 + 1; omega, by show z.2 + z'.2 ≤ z.2 + 6; omega⟩))) (fun hne => absurd (cmp_self _) hne)
theorem lc_number {X : CT} {o : Oc} {P : Wt → Hp → Prop} (C : Cx X mL_law [] 10 zL o P) {z : Nat × Nat} {w : Wt} {h : Hp} {N i : Nat} {xs : Nat → Int32} {S Z : Sc} {sv : Bool} {F : Sf} (hs : SC X w N xs) (hN : N ≤ 2560) (hi : i + 5 ≤ N) (hz : z.1 + 1 ≤ 603072 ∧ z.2 + 6 ≤ 7157866) (hJ : JI2 h S sv Z F) (K : ∀ h' S' sv' Z' F' z', JI2 h' S' sv' Z' F' → z'.1 ≤ z.1 + 1 ∧ z'.2 ≤ z.2 + 6 → V X z' w h' 2096 (LL i) []) : V X z w h 528 (LL i) [] := by
  obtain ⟨th, hR⟩ := hJ.2.1
  obtain ⟨f, hf⟩ := hJ.2.2
  obtain ⟨S', sv', Z', F', r, j8, j9⟩ := jd_number (w := w) (S := S) (sv := sv) (Z := Z) (F := F)
  obtain ⟨d8, P8, hd8, c8, q8⟩ := j8 h hJ.1
  refine v_aload_n C (oL_law.at 244 rfl) rfl ?_
  refine v_callV C (oL_law.at 245 rfl) vL_141 hJ.1.ob c8 rfl (blt10 hd8) rfl ⟨Nat.ble_eq_true_of_le (by omega), Nat.ble_eq_true_of_le (by omega)⟩ rfl rfl (fun _ => rfl) (fun h1 p1 => ?_)
  dsimp only [Option.toList, List.cons_append, List.nil_append]
  have hP1 := q8 h1 p1
  have hR1 := hR.low (h' := h1) (fun j a b => hP1.gf j (by omega))
  obtain ⟨d9, hd9, c9⟩ := j9 h1 _ hR1
  obtain ⟨u1, o1, -⟩ := hR1.o
  refine v_aload_n C (oL_law.at 246 rfl) rfl ?_
  refine v_callV C (oL_law.at 247 rfl) vL_144 o1 c9 rfl (blt10 hd9) rfl ⟨Nat.ble_eq_true_of_le (by omega), Nat.ble_eq_true_of_le (by omega)⟩ rfl rfl (fun _ => rfl) (fun h2 hp => ?_)
  dsimp only [Option.toList, List.cons_append, List.nil_append]
  refine v_lcmp C (oL_law.at 248 rfl) ?_
  exact v_if_eq C (oL_law.at 249 rfl) (tgt := 2096) (by decide) (fun _ => K h2 S' sv' Z' F' _ ⟨hP1.top (fun j hj => hp.fr j (.inl (by omega))), ⟨_, hp.low (fun _ _ _ => rfl)⟩, f, (hp.fr 88 (.inr (by decide))).trans ((hP1.gf 88 (by decide)).trans hf)⟩ ⟨by omega, by omega⟩) (fun hne => absurd (cmp_self _) hne)
theorem lc_append {X : CT} {o : Oc} {P : Wt → Hp → Prop} (C : Cx X mL_law [] 10 zL o P) {z : Nat × Nat} {w : Wt} {h : Hp} {N i : Nat} {xs : Nat → Int32} {S Z : Sc} {sv : Bool} {F : Sf} (hs : SC X w N xs) (hN : N ≤ 2560) (hi : i + 5 ≤ N) (hz : z.1 + 1 ≤ 603072 ∧ z.2 + 6 ≤ 7157866) (hJ : JI2 h S sv Z F) (K : ∀ h' S' sv' Z' F' z', JI2 h' S' sv' Z' F' → z'.1 ≤ z.1 + 1 ∧ z'.2 ≤ z.2 + 6 → V X z' w h' 2096 (LL i) []) : V X z w h 542 (LL i) [] := by
  obtain ⟨th, hR⟩ := hJ.2.1
  obtain ⟨f, hf⟩ := hJ.2.2
  obtain ⟨S', sv', Z', F', o', z', r, y, j8, j9, hr4, hc⟩ := jm_append (w := w) (S := S) (sv := sv) (Z := Z) (F := F) (x := xs (i + 1))
  obtain ⟨d8, P8, hd8, c8, q8⟩ := j8 h hJ.1
  have hz' : z'.1 ≤ 1 ∧ z'.2 ≤ 6 := by rcases hc with ⟨-, -, rfl⟩ | ⟨E, -, -, rfl⟩ <;> decide
  have hJO : JO rwL_append o' z' r f P8 (RW h S' sv' Z' F' r y.toInt64) := by
    rcases hc with ⟨rfl, rfl, rfl⟩ | ⟨E, rfl, hE, rfl⟩
    · exact .inl ⟨y, rfl, rfl, rfl, fun h1 p1 => ⟨((q8 h1 p1).gf 88 (by decide)).trans hf, rw_ok (q8 h1 p1)⟩⟩
    · exact .inr ⟨E, rfl, rfl, hE, fun h1 p1 => rw_thr (q8 h1 p1) hf (fun e => by subst e; simp [rwL_append] at hE)⟩
  have cw := xL_append hJO hJ.1.ob hd8 c8
  refine v_aload_n C (oL_law.at 252 rfl) rfl ?_
  refine v_aload_n C (oL_law.at 253 rfl) rfl ?_
  refine v_iload C (oL_law.at 254 rfl) rfl ?_
  refine v_iconst C (oL_law.at 255 rfl) (v := nI 1) rfl ?_
  refine v_iaddN C (oL_law.at 256 rfl) ?_
  refine v_sld C hs hN (by omega) (oL_law.at 257 rfl) ?_
  refine v_aload_n C (oL_law.at 258 rfl) rfl ?_
  refine v_callH C (oL_law.at 259 rfl) kL_append (tj3 123 (by rfl) rfl) cw rfl rfl rfl ⟨by show z.1 + z'.1 ≤ 603072; omega, by show z.2 + z'.2 ≤ 7157866; omega⟩ rfl rfl (fun _ => rfl) (fun h1 R1 => ?_)
  dsimp only [Option.toList, List.cons_append, List.nil_append]
  obtain ⟨hP1, fr1, f1, hf1, hy1⟩ := R1
  have hR1 := hR.low (h' := h1) (fun j a b => fr1 j (by omega) (by omega))
  obtain ⟨d9, hd9, c9⟩ := j9 h1 _ hR1
  obtain ⟨u1, o1, -⟩ := hR1.o
  refine v_istore C (oL_law.at 260 rfl) rfl ?_
  dsimp only [sto1, sto2, killL]
  refine v_aload_n C (oL_law.at 261 rfl) rfl ?_
  refine v_aload_n C (oL_law.at 262 rfl) rfl ?_
  refine v_iload C (oL_law.at 263 rfl) rfl ?_
  refine v_iconst C (oL_law.at 264 rfl) (v := nI 1) rfl ?_
  refine v_iaddN C (oL_law.at 265 rfl) ?_
  refine v_sld C hs hN (by omega) (oL_law.at 266 rfl) ?_
  refine v_callV C (oL_law.at 267 rfl) vL_147 o1 c9 rfl (blt10 hd9) rfl ⟨Nat.ble_eq_true_of_le (by show z.1 + z'.1 ≤ 603072; omega), Nat.ble_eq_true_of_le (by show z.2 + z'.2 ≤ 7157866; omega)⟩ rfl rfl (fun _ => rfl) (fun h2 hp => ?_)
  dsimp only [Option.toList, List.cons_append, List.nil_append]
  refine v_istore C (oL_law.at 268 rfl) rfl ?_
  dsimp only [sto1, sto2, killL]
  refine v_aload_n C (oL_law.at 269 rfl) rfl ?_
  obtain ⟨u2, o2, t2, -⟩ := hp.o
  refine v_callV C (oL_law.at 270 rfl) vL_122 o2 (k9_thrown o2) rfl rfl rfl ⟨Nat.ble_eq_true_of_le (by show z.1 + z'.1 ≤ 603072; omega), Nat.ble_eq_true_of_le (by show z.2 + z'.2 ≤ 7157866; omega)⟩ rfl rfl (fun _ => rfl) (fun h3 e3 => ?_)
  rw [show h3 = _ from e3]
  dsimp only [Option.toList, List.cons_append, List.nil_append]
  rw [t2]
  have J2 : JI2 h2 S' sv' Z' F' := ⟨hP1.top (fun j hj => hp.fr j (.inl (by omega))), ⟨_, hp.low (fun _ _ _ => rfl)⟩, f1, (hp.fr 88 (.inr (by decide))).trans hf1⟩
  refine v_iload C (oL_law.at 271 rfl) rfl ?_
  refine v_icmp_eqN C (oL_law.at 272 rfl) (tgt := 578) (by decide) (by omega) (by omega) (fun _ => ?_) (fun hne => absurd rfl hne)
  refine v_iload C (oL_law.at 275 rfl) rfl ?_
  refine v_if_neN C (oL_law.at 276 rfl) (tgt := 595) (by decide) (by omega) (fun _ => v_goto C (oL_law.at 286 rfl) (tgt := 2096) (by decide) (v_forget _ _ _ _ _ _ _ _ (K h2 S' sv' Z' F' _ J2 ⟨by show z.1 + z'.1 ≤ z.1 + 1; omega, by show z.2 + z'.2 ≤ z.2 + 6; omega⟩))) (fun hr0 => ?_)
  refine v_aload_n C (oL_law.at 277 rfl) rfl ?_
  refine v_iconst C (oL_law.at 278 rfl) (v := nI 0) rfl ?_
  refine v_lald C (oL_law.at 279 rfl) ((hp.fr 88 (.inr (by decide))).trans hf1) (by decide) rfl (j := 0) (by decide) (hy1 hr0) ?_
  refine v_iload C (oL_law.at 280 rfl) rfl ?_
  refine v_i2l C (oL_law.at 281 rfl) ?_
  refine v_lcmp C (oL_law.at 282 rfl) ?_
  exact v_if_eq C (oL_law.at 283 rfl) (tgt := 595) (by decide) (fun _ => v_goto C (oL_law.at 286 rfl) (tgt := 2096) (by decide) (v_forget _ _ _ _ _ _ _ _ (K h2 S' sv' Z' F' _ J2 ⟨by show z.1 + z'.1 ≤ z.1 + 1; omega, by show z.2 + z'.2 ≤ z.2 + 6; omega⟩))) (fun hne => absurd (cmp_self _) hne)
theorem lc_compile {X : CT} {o : Oc} {P : Wt → Hp → Prop} (C : Cx X mL_law [] 10 zL o P) {z : Nat × Nat} {w : Wt} {h : Hp} {N i : Nat} {xs : Nat → Int32} {S Z : Sc} {sv : Bool} {F : Sf} (hs : SC X w N xs) (hN : N ≤ 2560) (hi : i + 5 ≤ N) (hz : z.1 + 1 ≤ 603072 ∧ z.2 + 6 ≤ 7157866) (hJ : JI2 h S sv Z F) (K : ∀ h' S' sv' Z' F' z', JI2 h' S' sv' Z' F' → z'.1 ≤ z.1 + 1 ∧ z'.2 ≤ z.2 + 6 → V X z' w h' 2096 (LL i) []) : V X z w h 598 (LL i) [] := by
  obtain ⟨th, hR⟩ := hJ.2.1
  obtain ⟨f, hf⟩ := hJ.2.2
  obtain ⟨S', sv', Z', F', o', z', r, y, j8, j9, hr4, hc⟩ := jm_compile (w := w) (S := S) (sv := sv) (Z := Z) (F := F) 
  obtain ⟨d8, P8, hd8, c8, q8⟩ := j8 h hJ.1
  have hz' : z'.1 ≤ 1 ∧ z'.2 ≤ 6 := by rcases hc with ⟨-, -, rfl⟩ | ⟨E, -, -, rfl⟩ <;> decide
  have hJO : JO rwL_compile o' z' r f P8 (RW h S' sv' Z' F' r y.toInt64) := by
    rcases hc with ⟨rfl, rfl, rfl⟩ | ⟨E, rfl, hE, rfl⟩
    · exact .inl ⟨y, rfl, rfl, rfl, fun h1 p1 => ⟨((q8 h1 p1).gf 88 (by decide)).trans hf, rw_ok (q8 h1 p1)⟩⟩
    · exact .inr ⟨E, rfl, rfl, hE, fun h1 p1 => rw_thr (q8 h1 p1) hf (fun e => by subst e; simp [rwL_compile] at hE)⟩
  have cw := xL_compile hJO hJ.1.ob hd8 c8
  refine v_aload_n C (oL_law.at 287 rfl) rfl ?_
  refine v_aload_n C (oL_law.at 288 rfl) rfl ?_
  refine v_callH C (oL_law.at 289 rfl) kL_compile (tj3 155 (by rfl) rfl) cw rfl rfl rfl ⟨by show z.1 + z'.1 ≤ 603072; omega, by show z.2 + z'.2 ≤ 7157866; omega⟩ rfl rfl (fun _ => rfl) (fun h1 R1 => ?_)
  dsimp only [Option.toList, List.cons_append, List.nil_append]
  obtain ⟨hP1, fr1, f1, hf1, hy1⟩ := R1
  have hR1 := hR.low (h' := h1) (fun j a b => fr1 j (by omega) (by omega))
  obtain ⟨d9, hd9, c9⟩ := j9 h1 _ hR1
  obtain ⟨u1, o1, -⟩ := hR1.o
  refine v_istore C (oL_law.at 290 rfl) rfl ?_
  dsimp only [sto1, sto2, killL]
  refine v_aload_n C (oL_law.at 291 rfl) rfl ?_
  refine v_callV C (oL_law.at 292 rfl) vL_151 o1 c9 rfl (blt10 hd9) rfl ⟨Nat.ble_eq_true_of_le (by show z.1 + z'.1 ≤ 603072; omega), Nat.ble_eq_true_of_le (by show z.2 + z'.2 ≤ 7157866; omega)⟩ rfl rfl (fun _ => rfl) (fun h2 hp => ?_)
  dsimp only [Option.toList, List.cons_append, List.nil_append]
  refine v_istore C (oL_law.at 293 rfl) rfl ?_
  dsimp only [sto1, sto2, killL]
  refine v_aload_n C (oL_law.at 294 rfl) rfl ?_
  obtain ⟨u2, o2, t2, -⟩ := hp.o
  refine v_callV C (oL_law.at 295 rfl) vL_122 o2 (k9_thrown o2) rfl rfl rfl ⟨Nat.ble_eq_true_of_le (by show z.1 + z'.1 ≤ 603072; omega), Nat.ble_eq_true_of_le (by show z.2 + z'.2 ≤ 7157866; omega)⟩ rfl rfl (fun _ => rfl) (fun h3 e3 => ?_)
  rw [show h3 = _ from e3]
  dsimp only [Option.toList, List.cons_append, List.nil_append]
  rw [t2]
  have J2 : JI2 h2 S' sv' Z' F' := ⟨hP1.top (fun j hj => hp.fr j (.inl (by omega))), ⟨_, hp.low (fun _ _ _ => rfl)⟩, f1, (hp.fr 88 (.inr (by decide))).trans hf1⟩
  refine v_iload C (oL_law.at 296 rfl) rfl ?_
  refine v_icmp_eqN C (oL_law.at 297 rfl) (tgt := 622) (by decide) (by omega) (by omega) (fun _ => ?_) (fun hne => absurd rfl hne)
  refine v_iload C (oL_law.at 300 rfl) rfl ?_
  refine v_if_neN C (oL_law.at 301 rfl) (tgt := 639) (by decide) (by omega) (fun _ => v_goto C (oL_law.at 311 rfl) (tgt := 2096) (by decide) (v_forget _ _ _ _ _ _ _ _ (K h2 S' sv' Z' F' _ J2 ⟨by show z.1 + z'.1 ≤ z.1 + 1; omega, by show z.2 + z'.2 ≤ z.2 + 6; omega⟩))) (fun hr0 => ?_)
  refine v_aload_n C (oL_law.at 302 rfl) rfl ?_
  refine v_iconst C (oL_law.at 303 rfl) (v := nI 0) rfl ?_
  refine v_lald C (oL_law.at 304 rfl) ((hp.fr 88 (.inr (by decide))).trans hf1) (by decide) rfl (j := 0) (by decide) (hy1 hr0) ?_
  refine v_iload C (oL_law.at 305 rfl) rfl ?_
  refine v_i2l C (oL_law.at 306 rfl) ?_
  refine v_lcmp C (oL_law.at 307 rfl) ?_
  exact v_if_eq C (oL_law.at 308 rfl) (tgt := 639) (by decide) (fun _ => v_goto C (oL_law.at 311 rfl) (tgt := 2096) (by decide) (v_forget _ _ _ _ _ _ _ _ (K h2 S' sv' Z' F' _ J2 ⟨by show z.1 + z'.1 ≤ z.1 + 1; omega, by show z.2 + z'.2 ≤ z.2 + 6; omega⟩))) (fun hne => absurd (cmp_self _) hne)
theorem lc_error {X : CT} {o : Oc} {P : Wt → Hp → Prop} (C : Cx X mL_law [] 10 zL o P) {z : Nat × Nat} {w : Wt} {h : Hp} {N i : Nat} {xs : Nat → Int32} {S Z : Sc} {sv : Bool} {F : Sf} (hs : SC X w N xs) (hN : N ≤ 2560) (hi : i + 5 ≤ N) (hz : z.1 + 1 ≤ 603072 ∧ z.2 + 6 ≤ 7157866) (hJ : JI2 h S sv Z F) (K : ∀ h' S' sv' Z' F' z', JI2 h' S' sv' Z' F' → z'.1 ≤ z.1 + 1 ∧ z'.2 ≤ z.2 + 6 → V X z' w h' 2096 (LL i) []) : V X z w h 642 (LL i) [] := by
  obtain ⟨th, hR⟩ := hJ.2.1
  obtain ⟨f, hf⟩ := hJ.2.2
  obtain ⟨S', sv', Z', F', o', z', r, y, j8, j9, hr4, hc⟩ := jm_error (w := w) (S := S) (sv := sv) (Z := Z) (F := F) (x := xs (i + 1))
  obtain ⟨d8, P8, hd8, c8, q8⟩ := j8 h hJ.1
  have hz' : z'.1 ≤ 1 ∧ z'.2 ≤ 6 := by rcases hc with ⟨-, -, rfl⟩ | ⟨E, -, -, rfl⟩ <;> decide
  have hJO : JO rwL_error o' z' r f P8 (RW h S' sv' Z' F' r y.toInt64) := by
    rcases hc with ⟨rfl, rfl, rfl⟩ | ⟨E, rfl, hE, rfl⟩
    · exact .inl ⟨y, rfl, rfl, rfl, fun h1 p1 => ⟨((q8 h1 p1).gf 88 (by decide)).trans hf, rw_ok (q8 h1 p1)⟩⟩
    · exact .inr ⟨E, rfl, rfl, hE, fun h1 p1 => rw_thr (q8 h1 p1) hf (fun e => by subst e; simp [rwL_error] at hE)⟩
  have cw := xL_error hJO hJ.1.ob hd8 c8
  refine v_aload_n C (oL_law.at 312 rfl) rfl ?_
  refine v_aload_n C (oL_law.at 313 rfl) rfl ?_
  refine v_iload C (oL_law.at 314 rfl) rfl ?_
  refine v_iconst C (oL_law.at 315 rfl) (v := nI 1) rfl ?_
  refine v_iaddN C (oL_law.at 316 rfl) ?_
  refine v_sld C hs hN (by omega) (oL_law.at 317 rfl) ?_
  refine v_aload_n C (oL_law.at 318 rfl) rfl ?_
  refine v_callH C (oL_law.at 319 rfl) kL_error (tj4 1 (by rfl) rfl) cw rfl rfl rfl ⟨by show z.1 + z'.1 ≤ 603072; omega, by show z.2 + z'.2 ≤ 7157866; omega⟩ rfl rfl (fun _ => rfl) (fun h1 R1 => ?_)
  dsimp only [Option.toList, List.cons_append, List.nil_append]
  obtain ⟨hP1, fr1, f1, hf1, hy1⟩ := R1
  have hR1 := hR.low (h' := h1) (fun j a b => fr1 j (by omega) (by omega))
  obtain ⟨d9, hd9, c9⟩ := j9 h1 _ hR1
  obtain ⟨u1, o1, -⟩ := hR1.o
  refine v_istore C (oL_law.at 320 rfl) rfl ?_
  dsimp only [sto1, sto2, killL]
  refine v_aload_n C (oL_law.at 321 rfl) rfl ?_
  refine v_aload_n C (oL_law.at 322 rfl) rfl ?_
  refine v_iload C (oL_law.at 323 rfl) rfl ?_
  refine v_iconst C (oL_law.at 324 rfl) (v := nI 1) rfl ?_
  refine v_iaddN C (oL_law.at 325 rfl) ?_
  refine v_sld C hs hN (by omega) (oL_law.at 326 rfl) ?_
  refine v_callV C (oL_law.at 327 rfl) vL_154 o1 c9 rfl (blt10 hd9) rfl ⟨Nat.ble_eq_true_of_le (by show z.1 + z'.1 ≤ 603072; omega), Nat.ble_eq_true_of_le (by show z.2 + z'.2 ≤ 7157866; omega)⟩ rfl rfl (fun _ => rfl) (fun h2 hp => ?_)
  dsimp only [Option.toList, List.cons_append, List.nil_append]
  refine v_istore C (oL_law.at 328 rfl) rfl ?_
  dsimp only [sto1, sto2, killL]
  refine v_aload_n C (oL_law.at 329 rfl) rfl ?_
  obtain ⟨u2, o2, t2, -⟩ := hp.o
  refine v_callV C (oL_law.at 330 rfl) vL_122 o2 (k9_thrown o2) rfl rfl rfl ⟨Nat.ble_eq_true_of_le (by show z.1 + z'.1 ≤ 603072; omega), Nat.ble_eq_true_of_le (by show z.2 + z'.2 ≤ 7157866; omega)⟩ rfl rfl (fun _ => rfl) (fun h3 e3 => ?_)
  rw [show h3 = _ from e3]
  dsimp only [Option.toList, List.cons_append, List.nil_append]
  rw [t2]
  have J2 : JI2 h2 S' sv' Z' F' := ⟨hP1.top (fun j hj => hp.fr j (.inl (by omega))), ⟨_, hp.low (fun _ _ _ => rfl)⟩, f1, (hp.fr 88 (.inr (by decide))).trans hf1⟩
  refine v_iload C (oL_law.at 331 rfl) rfl ?_
  refine v_icmp_eqN C (oL_law.at 332 rfl) (tgt := 678) (by decide) (by omega) (by omega) (fun _ => ?_) (fun hne => absurd rfl hne)
  refine v_iload C (oL_law.at 335 rfl) rfl ?_
  refine v_if_neN C (oL_law.at 336 rfl) (tgt := 695) (by decide) (by omega) (fun _ => v_goto C (oL_law.at 346 rfl) (tgt := 2096) (by decide) (v_forget _ _ _ _ _ _ _ _ (K h2 S' sv' Z' F' _ J2 ⟨by show z.1 + z'.1 ≤ z.1 + 1; omega, by show z.2 + z'.2 ≤ z.2 + 6; omega⟩))) (fun hr0 => ?_)
  refine v_aload_n C (oL_law.at 337 rfl) rfl ?_
  refine v_iconst C (oL_law.at 338 rfl) (v := nI 0) rfl ?_
  refine v_lald C (oL_law.at 339 rfl) ((hp.fr 88 (.inr (by decide))).trans hf1) (by decide) rfl (j := 0) (by decide) (hy1 hr0) ?_
  refine v_iload C (oL_law.at 340 rfl) rfl ?_
  refine v_i2l C (oL_law.at 341 rfl) ?_
  refine v_lcmp C (oL_law.at 342 rfl) ?_
  exact v_if_eq C (oL_law.at 343 rfl) (tgt := 695) (by decide) (fun _ => v_goto C (oL_law.at 346 rfl) (tgt := 2096) (by decide) (v_forget _ _ _ _ _ _ _ _ (K h2 S' sv' Z' F' _ J2 ⟨by show z.1 + z'.1 ≤ z.1 + 1; omega, by show z.2 + z'.2 ≤ z.2 + 6; omega⟩))) (fun hne => absurd (cmp_self _) hne)
theorem lc_mirror {X : CT} {o : Oc} {P : Wt → Hp → Prop} (C : Cx X mL_law [] 10 zL o P) {z : Nat × Nat} {w : Wt} {h : Hp} {N i : Nat} {xs : Nat → Int32} {S Z : Sc} {sv : Bool} {F : Sf} (hs : SC X w N xs) (hN : N ≤ 2560) (hi : i + 5 ≤ N) (hz : z.1 + 1 ≤ 603072 ∧ z.2 + 6 ≤ 7157866) (hJ : JI2 h S sv Z F) (K : ∀ h' S' sv' Z' F' z', JI2 h' S' sv' Z' F' → z'.1 ≤ z.1 + 1 ∧ z'.2 ≤ z.2 + 6 → V X z' w h' 2096 (LL i) []) : V X z w h 698 (LL i) [] := by
  obtain ⟨th, hR⟩ := hJ.2.1
  obtain ⟨f, hf⟩ := hJ.2.2
  obtain ⟨S', sv', Z', F', r, j8, j9⟩ := jd_mirror (w := w) (S := S) (sv := sv) (Z := Z) (F := F)
  obtain ⟨d8, P8, hd8, c8, q8⟩ := j8 h hJ.1
  refine v_aload_n C (oL_law.at 347 rfl) rfl ?_
  refine v_callV C (oL_law.at 348 rfl) vL_155 hJ.1.ob c8 rfl (blt10 hd8) rfl ⟨Nat.ble_eq_true_of_le (by omega), Nat.ble_eq_true_of_le (by omega)⟩ rfl rfl (fun _ => rfl) (fun h1 p1 => ?_)
  dsimp only [Option.toList, List.cons_append, List.nil_append]
  have hP1 := q8 h1 p1
  have hR1 := hR.low (h' := h1) (fun j a b => hP1.gf j (by omega))
  obtain ⟨d9, hd9, c9⟩ := j9 h1 _ hR1
  obtain ⟨u1, o1, -⟩ := hR1.o
  refine v_aload_n C (oL_law.at 349 rfl) rfl ?_
  refine v_callV C (oL_law.at 350 rfl) vL_158 o1 c9 rfl (blt10 hd9) rfl ⟨Nat.ble_eq_true_of_le (by omega), Nat.ble_eq_true_of_le (by omega)⟩ rfl rfl (fun _ => rfl) (fun h2 hp => ?_)
  dsimp only [Option.toList, List.cons_append, List.nil_append]
  exact v_icmp_eq C (oL_law.at 351 rfl) (tgt := 2096) (by decide) (fun _ => K h2 S' sv' Z' F' _ ⟨hP1.top (fun j hj => hp.fr j (.inl (by omega))), ⟨_, hp.low (fun _ _ _ => rfl)⟩, f, (hp.fr 88 (.inr (by decide))).trans ((hP1.gf 88 (by decide)).trans hf)⟩ ⟨by omega, by omega⟩) (fun hne => absurd rfl hne)
theorem lc_complement {X : CT} {o : Oc} {P : Wt → Hp → Prop} (C : Cx X mL_law [] 10 zL o P) {z : Nat × Nat} {w : Wt} {h : Hp} {N i : Nat} {xs : Nat → Int32} {S Z : Sc} {sv : Bool} {F : Sf} (hs : SC X w N xs) (hN : N ≤ 2560) (hi : i + 5 ≤ N) (hz : z.1 + 1 ≤ 603072 ∧ z.2 + 6 ≤ 7157866) (hJ : JI2 h S sv Z F) (K : ∀ h' S' sv' Z' F' z', JI2 h' S' sv' Z' F' → z'.1 ≤ z.1 + 1 ∧ z'.2 ≤ z.2 + 6 → V X z' w h' 2096 (LL i) []) : V X z w h 711 (LL i) [] := by
  obtain ⟨th, hR⟩ := hJ.2.1
  obtain ⟨f, hf⟩ := hJ.2.2
  obtain ⟨S', sv', Z', F', r, j8, j9⟩ := jd_complement (w := w) (S := S) (sv := sv) (Z := Z) (F := F)
  obtain ⟨d8, P8, hd8, c8, q8⟩ := j8 h hJ.1
  refine v_aload_n C (oL_law.at 354 rfl) rfl ?_
  refine v_callV C (oL_law.at 355 rfl) vL_159 hJ.1.ob c8 rfl (blt10 hd8) rfl ⟨Nat.ble_eq_true_of_le (by omega), Nat.ble_eq_true_of_le (by omega)⟩ rfl rfl (fun _ => rfl) (fun h1 p1 => ?_)
  dsimp only [Option.toList, List.cons_append, List.nil_append]
  have hP1 := q8 h1 p1
  have hR1 := hR.low (h' := h1) (fun j a b => hP1.gf j (by omega))
  obtain ⟨d9, hd9, c9⟩ := j9 h1 _ hR1
  obtain ⟨u1, o1, -⟩ := hR1.o
  refine v_aload_n C (oL_law.at 356 rfl) rfl ?_
  refine v_callV C (oL_law.at 357 rfl) vL_162 o1 c9 rfl (blt10 hd9) rfl ⟨Nat.ble_eq_true_of_le (by omega), Nat.ble_eq_true_of_le (by omega)⟩ rfl rfl (fun _ => rfl) (fun h2 hp => ?_)
  dsimp only [Option.toList, List.cons_append, List.nil_append]
  exact v_icmp_eq C (oL_law.at 358 rfl) (tgt := 2096) (by decide) (fun _ => K h2 S' sv' Z' F' _ ⟨hP1.top (fun j hj => hp.fr j (.inl (by omega))), ⟨_, hp.low (fun _ _ _ => rfl)⟩, f, (hp.fr 88 (.inr (by decide))).trans ((hP1.gf 88 (by decide)).trans hf)⟩ ⟨by omega, by omega⟩) (fun hne => absurd rfl hne)
theorem lc_leastNumber {X : CT} {o : Oc} {P : Wt → Hp → Prop} (C : Cx X mL_law [] 10 zL o P) {z : Nat × Nat} {w : Wt} {h : Hp} {N i : Nat} {xs : Nat → Int32} {S Z : Sc} {sv : Bool} {F : Sf} (hs : SC X w N xs) (hN : N ≤ 2560) (hi : i + 5 ≤ N) (hz : z.1 + 1 ≤ 603072 ∧ z.2 + 6 ≤ 7157866) (hJ : JI2 h S sv Z F) (K : ∀ h' S' sv' Z' F' z', JI2 h' S' sv' Z' F' → z'.1 ≤ z.1 + 1 ∧ z'.2 ≤ z.2 + 6 → V X z' w h' 2096 (LL i) []) : V X z w h 724 (LL i) [] := by
  obtain ⟨th, hR⟩ := hJ.2.1
  obtain ⟨f, hf⟩ := hJ.2.2
  obtain ⟨S', sv', Z', F', r, j8, j9⟩ := jd_leastNumber (w := w) (S := S) (sv := sv) (Z := Z) (F := F)
  obtain ⟨d8, P8, hd8, c8, q8⟩ := j8 h hJ.1
  refine v_aload_n C (oL_law.at 361 rfl) rfl ?_
  refine v_callV C (oL_law.at 362 rfl) vL_163 hJ.1.ob c8 rfl (blt10 hd8) rfl ⟨Nat.ble_eq_true_of_le (by omega), Nat.ble_eq_true_of_le (by omega)⟩ rfl rfl (fun _ => rfl) (fun h1 p1 => ?_)
  dsimp only [Option.toList, List.cons_append, List.nil_append]
  have hP1 := q8 h1 p1
  have hR1 := hR.low (h' := h1) (fun j a b => hP1.gf j (by omega))
  obtain ⟨d9, hd9, c9⟩ := j9 h1 _ hR1
  obtain ⟨u1, o1, -⟩ := hR1.o
  refine v_aload_n C (oL_law.at 363 rfl) rfl ?_
  refine v_callV C (oL_law.at 364 rfl) vL_166 o1 c9 rfl (blt10 hd9) rfl ⟨Nat.ble_eq_true_of_le (by omega), Nat.ble_eq_true_of_le (by omega)⟩ rfl rfl (fun _ => rfl) (fun h2 hp => ?_)
  dsimp only [Option.toList, List.cons_append, List.nil_append]
  refine v_lcmp C (oL_law.at 365 rfl) ?_
  exact v_if_eq C (oL_law.at 366 rfl) (tgt := 2096) (by decide) (fun _ => K h2 S' sv' Z' F' _ ⟨hP1.top (fun j hj => hp.fr j (.inl (by omega))), ⟨_, hp.low (fun _ _ _ => rfl)⟩, f, (hp.fr 88 (.inr (by decide))).trans ((hP1.gf 88 (by decide)).trans hf)⟩ ⟨by omega, by omega⟩) (fun hne => absurd (cmp_self _) hne)
theorem lc_compose {X : CT} {o : Oc} {P : Wt → Hp → Prop} (C : Cx X mL_law [] 10 zL o P) {z : Nat × Nat} {w : Wt} {h : Hp} {N i : Nat} {xs : Nat → Int32} {S Z : Sc} {sv : Bool} {F : Sf} (hs : SC X w N xs) (hN : N ≤ 2560) (hi : i + 5 ≤ N) (hz : z.1 + 1 ≤ 603072 ∧ z.2 + 6 ≤ 7157866) (hJ : JI2 h S sv Z F) (K : ∀ h' S' sv' Z' F' z', JI2 h' S' sv' Z' F' → z'.1 ≤ z.1 + 1 ∧ z'.2 ≤ z.2 + 6 → V X z' w h' 2096 (LL i) []) : V X z w h 738 (LL i) [] := by
  obtain ⟨th, hR⟩ := hJ.2.1
  obtain ⟨f, hf⟩ := hJ.2.2
  obtain ⟨S', sv', Z', F', o', z', r, y, j8, j9, hr4, hc⟩ := jm_compose hJ.oks (w := w) (S := S) (sv := sv) (Z := Z) (F := F) 
  obtain ⟨d8, P8, hd8, c8, q8⟩ := j8 h hJ.1
  have hz' : z'.1 ≤ 1 ∧ z'.2 ≤ 6 := by rcases hc with ⟨-, -, rfl⟩ | ⟨E, -, -, rfl⟩ <;> decide
  have hJO : JO rwL_compose o' z' r f P8 (RW h S' sv' Z' F' r y.toInt64) := by
    rcases hc with ⟨rfl, rfl, rfl⟩ | ⟨E, rfl, hE, rfl⟩
    · exact .inl ⟨y, rfl, rfl, rfl, fun h1 p1 => ⟨((q8 h1 p1).gf 88 (by decide)).trans hf, rw_ok (q8 h1 p1)⟩⟩
    · exact .inr ⟨E, rfl, rfl, hE, fun h1 p1 => rw_thr (q8 h1 p1) hf (fun e => by subst e; simp [rwL_compose] at hE)⟩
  have cw := xL_compose hJO hJ.1.ob hd8 c8
  refine v_aload_n C (oL_law.at 369 rfl) rfl ?_
  refine v_aload_n C (oL_law.at 370 rfl) rfl ?_
  refine v_callH C (oL_law.at 371 rfl) kL_compose (tj4 12 (by rfl) rfl) cw rfl rfl rfl ⟨by show z.1 + z'.1 ≤ 603072; omega, by show z.2 + z'.2 ≤ 7157866; omega⟩ rfl rfl (fun _ => rfl) (fun h1 R1 => ?_)
  dsimp only [Option.toList, List.cons_append, List.nil_append]
  obtain ⟨hP1, fr1, f1, hf1, hy1⟩ := R1
  have hR1 := hR.low (h' := h1) (fun j a b => fr1 j (by omega) (by omega))
  obtain ⟨d9, hd9, c9⟩ := j9 h1 _ hR1
  obtain ⟨u1, o1, -⟩ := hR1.o
  refine v_istore C (oL_law.at 372 rfl) rfl ?_
  dsimp only [sto1, sto2, killL]
  refine v_aload_n C (oL_law.at 373 rfl) rfl ?_
  refine v_callV C (oL_law.at 374 rfl) vL_169 o1 c9 rfl (blt10 hd9) rfl ⟨Nat.ble_eq_true_of_le (by show z.1 + z'.1 ≤ 603072; omega), Nat.ble_eq_true_of_le (by show z.2 + z'.2 ≤ 7157866; omega)⟩ rfl rfl (fun _ => rfl) (fun h2 hp => ?_)
  dsimp only [Option.toList, List.cons_append, List.nil_append]
  refine v_istore C (oL_law.at 375 rfl) rfl ?_
  dsimp only [sto1, sto2, killL]
  refine v_aload_n C (oL_law.at 376 rfl) rfl ?_
  obtain ⟨u2, o2, t2, -⟩ := hp.o
  refine v_callV C (oL_law.at 377 rfl) vL_122 o2 (k9_thrown o2) rfl rfl rfl ⟨Nat.ble_eq_true_of_le (by show z.1 + z'.1 ≤ 603072; omega), Nat.ble_eq_true_of_le (by show z.2 + z'.2 ≤ 7157866; omega)⟩ rfl rfl (fun _ => rfl) (fun h3 e3 => ?_)
  rw [show h3 = _ from e3]
  dsimp only [Option.toList, List.cons_append, List.nil_append]
  rw [t2]
  have J2 : JI2 h2 S' sv' Z' F' := ⟨hP1.top (fun j hj => hp.fr j (.inl (by omega))), ⟨_, hp.low (fun _ _ _ => rfl)⟩, f1, (hp.fr 88 (.inr (by decide))).trans hf1⟩
  refine v_iload C (oL_law.at 378 rfl) rfl ?_
  refine v_icmp_eqN C (oL_law.at 379 rfl) (tgt := 762) (by decide) (by omega) (by omega) (fun _ => ?_) (fun hne => absurd rfl hne)
  refine v_iload C (oL_law.at 382 rfl) rfl ?_
  refine v_if_neN C (oL_law.at 383 rfl) (tgt := 779) (by decide) (by omega) (fun _ => v_goto C (oL_law.at 393 rfl) (tgt := 2096) (by decide) (v_forget _ _ _ _ _ _ _ _ (K h2 S' sv' Z' F' _ J2 ⟨by show z.1 + z'.1 ≤ z.1 + 1; omega, by show z.2 + z'.2 ≤ z.2 + 6; omega⟩))) (fun hr0 => ?_)
  refine v_aload_n C (oL_law.at 384 rfl) rfl ?_
  refine v_iconst C (oL_law.at 385 rfl) (v := nI 0) rfl ?_
  refine v_lald C (oL_law.at 386 rfl) ((hp.fr 88 (.inr (by decide))).trans hf1) (by decide) rfl (j := 0) (by decide) (hy1 hr0) ?_
  refine v_iload C (oL_law.at 387 rfl) rfl ?_
  refine v_i2l C (oL_law.at 388 rfl) ?_
  refine v_lcmp C (oL_law.at 389 rfl) ?_
  exact v_if_eq C (oL_law.at 390 rfl) (tgt := 779) (by decide) (fun _ => v_goto C (oL_law.at 393 rfl) (tgt := 2096) (by decide) (v_forget _ _ _ _ _ _ _ _ (K h2 S' sv' Z' F' _ J2 ⟨by show z.1 + z'.1 ≤ z.1 + 1; omega, by show z.2 + z'.2 ≤ z.2 + 6; omega⟩))) (fun hne => absurd (cmp_self _) hne)
theorem lc_setWord {X : CT} {o : Oc} {P : Wt → Hp → Prop} (C : Cx X mL_law [] 10 zL o P) {z : Nat × Nat} {w : Wt} {h : Hp} {N i : Nat} {xs : Nat → Int32} {S Z : Sc} {sv : Bool} {F : Sf} (hs : SC X w N xs) (hN : N ≤ 2560) (hi : i + 5 ≤ N) (hz : z.1 + 1 ≤ 603072 ∧ z.2 + 6 ≤ 7157866) (hJ : JI2 h S sv Z F) (K : ∀ h' S' sv' Z' F' z', JI2 h' S' sv' Z' F' → z'.1 ≤ z.1 + 1 ∧ z'.2 ≤ z.2 + 6 → V X z' w h' 2096 (LL i) []) : V X z w h 782 (LL i) [] := by
  obtain ⟨th, hR⟩ := hJ.2.1
  obtain ⟨f, hf⟩ := hJ.2.2
  obtain ⟨S', sv', Z', F', o', z', r, y, j8, j9, hr4, hc⟩ := jm_setWord hJ.oks (w := w) (S := S) (sv := sv) (Z := Z) (F := F) (x := xs (i + 1)) (y := xs (i + 2)) (v := xs (i + 3))
  obtain ⟨d8, P8, hd8, c8, q8⟩ := j8 h hJ.1
  have hz' : z'.1 ≤ 1 ∧ z'.2 ≤ 6 := by rcases hc with ⟨-, -, rfl⟩ | ⟨E, -, -, rfl⟩ <;> decide
  have hJO : JO rwL_setWord o' z' r f P8 (RW h S' sv' Z' F' r y.toInt64) := by
    rcases hc with ⟨rfl, rfl, rfl⟩ | ⟨E, rfl, hE, rfl⟩
    · exact .inl ⟨y, rfl, rfl, rfl, fun h1 p1 => ⟨((q8 h1 p1).gf 88 (by decide)).trans hf, rw_ok (q8 h1 p1)⟩⟩
    · exact .inr ⟨E, rfl, rfl, hE, fun h1 p1 => rw_thr (q8 h1 p1) hf (fun e => by subst e; simp [rwL_setWord] at hE)⟩
  have cw := xL_setWord hJO hJ.1.ob hd8 c8
  refine v_aload_n C (oL_law.at 394 rfl) rfl ?_
  refine v_aload_n C (oL_law.at 395 rfl) rfl ?_
  refine v_iload C (oL_law.at 396 rfl) rfl ?_
  refine v_iconst C (oL_law.at 397 rfl) (v := nI 1) rfl ?_
  refine v_iaddN C (oL_law.at 398 rfl) ?_
  refine v_sld C hs hN (by omega) (oL_law.at 399 rfl) ?_
  refine v_aload_n C (oL_law.at 400 rfl) rfl ?_
  refine v_iload C (oL_law.at 401 rfl) rfl ?_
  refine v_iconst C (oL_law.at 402 rfl) (v := nI 2) rfl ?_
  refine v_iaddN C (oL_law.at 403 rfl) ?_
  refine v_sld C hs hN (by omega) (oL_law.at 404 rfl) ?_
  refine v_aload_n C (oL_law.at 405 rfl) rfl ?_
  refine v_iload C (oL_law.at 406 rfl) rfl ?_
  refine v_iconst C (oL_law.at 407 rfl) (v := nI 3) rfl ?_
  refine v_iaddN C (oL_law.at 408 rfl) ?_
  refine v_sld C hs hN (by omega) (oL_law.at 409 rfl) ?_
  refine v_aload_n C (oL_law.at 410 rfl) rfl ?_
  refine v_callH C (oL_law.at 411 rfl) kL_setWord (tj4 31 (by rfl) rfl) cw rfl rfl rfl ⟨by show z.1 + z'.1 ≤ 603072; omega, by show z.2 + z'.2 ≤ 7157866; omega⟩ rfl rfl (fun _ => rfl) (fun h1 R1 => ?_)
  dsimp only [Option.toList, List.cons_append, List.nil_append]
  obtain ⟨hP1, fr1, f1, hf1, hy1⟩ := R1
  have hR1 := hR.low (h' := h1) (fun j a b => fr1 j (by omega) (by omega))
  obtain ⟨d9, hd9, c9⟩ := j9 h1 _ hR1
  obtain ⟨u1, o1, -⟩ := hR1.o
  refine v_istore C (oL_law.at 412 rfl) rfl ?_
  dsimp only [sto1, sto2, killL]
  refine v_aload_n C (oL_law.at 413 rfl) rfl ?_
  refine v_aload_n C (oL_law.at 414 rfl) rfl ?_
  refine v_iload C (oL_law.at 415 rfl) rfl ?_
  refine v_iconst C (oL_law.at 416 rfl) (v := nI 1) rfl ?_
  refine v_iaddN C (oL_law.at 417 rfl) ?_
  refine v_sld C hs hN (by omega) (oL_law.at 418 rfl) ?_
  refine v_aload_n C (oL_law.at 419 rfl) rfl ?_
  refine v_iload C (oL_law.at 420 rfl) rfl ?_
  refine v_iconst C (oL_law.at 421 rfl) (v := nI 2) rfl ?_
  refine v_iaddN C (oL_law.at 422 rfl) ?_
  refine v_sld C hs hN (by omega) (oL_law.at 423 rfl) ?_
  refine v_aload_n C (oL_law.at 424 rfl) rfl ?_
  refine v_iload C (oL_law.at 425 rfl) rfl ?_
  refine v_iconst C (oL_law.at 426 rfl) (v := nI 3) rfl ?_
  refine v_iaddN C (oL_law.at 427 rfl) ?_
  refine v_sld C hs hN (by omega) (oL_law.at 428 rfl) ?_
  refine v_callV C (oL_law.at 429 rfl) vL_173 o1 c9 rfl (blt10 hd9) rfl ⟨Nat.ble_eq_true_of_le (by show z.1 + z'.1 ≤ 603072; omega), Nat.ble_eq_true_of_le (by show z.2 + z'.2 ≤ 7157866; omega)⟩ rfl rfl (fun _ => rfl) (fun h2 hp => ?_)
  dsimp only [Option.toList, List.cons_append, List.nil_append]
  refine v_istore C (oL_law.at 430 rfl) rfl ?_
  dsimp only [sto1, sto2, killL]
  refine v_aload_n C (oL_law.at 431 rfl) rfl ?_
  obtain ⟨u2, o2, t2, -⟩ := hp.o
  refine v_callV C (oL_law.at 432 rfl) vL_122 o2 (k9_thrown o2) rfl rfl rfl ⟨Nat.ble_eq_true_of_le (by show z.1 + z'.1 ≤ 603072; omega), Nat.ble_eq_true_of_le (by show z.2 + z'.2 ≤ 7157866; omega)⟩ rfl rfl (fun _ => rfl) (fun h3 e3 => ?_)
  rw [show h3 = _ from e3]
  dsimp only [Option.toList, List.cons_append, List.nil_append]
  rw [t2]
  have J2 : JI2 h2 S' sv' Z' F' := ⟨hP1.top (fun j hj => hp.fr j (.inl (by omega))), ⟨_, hp.low (fun _ _ _ => rfl)⟩, f1, (hp.fr 88 (.inr (by decide))).trans hf1⟩
  refine v_iload C (oL_law.at 433 rfl) rfl ?_
  refine v_icmp_eqN C (oL_law.at 434 rfl) (tgt := 842) (by decide) (by omega) (by omega) (fun _ => ?_) (fun hne => absurd rfl hne)
  refine v_iload C (oL_law.at 437 rfl) rfl ?_
  refine v_if_neN C (oL_law.at 438 rfl) (tgt := 859) (by decide) (by omega) (fun _ => v_goto C (oL_law.at 448 rfl) (tgt := 2096) (by decide) (v_forget _ _ _ _ _ _ _ _ (K h2 S' sv' Z' F' _ J2 ⟨by show z.1 + z'.1 ≤ z.1 + 1; omega, by show z.2 + z'.2 ≤ z.2 + 6; omega⟩))) (fun hr0 => ?_)
  refine v_aload_n C (oL_law.at 439 rfl) rfl ?_
  refine v_iconst C (oL_law.at 440 rfl) (v := nI 0) rfl ?_
  refine v_lald C (oL_law.at 441 rfl) ((hp.fr 88 (.inr (by decide))).trans hf1) (by decide) rfl (j := 0) (by decide) (hy1 hr0) ?_
  refine v_iload C (oL_law.at 442 rfl) rfl ?_
  refine v_i2l C (oL_law.at 443 rfl) ?_
  refine v_lcmp C (oL_law.at 444 rfl) ?_
  exact v_if_eq C (oL_law.at 445 rfl) (tgt := 859) (by decide) (fun _ => v_goto C (oL_law.at 448 rfl) (tgt := 2096) (by decide) (v_forget _ _ _ _ _ _ _ _ (K h2 S' sv' Z' F' _ J2 ⟨by show z.1 + z'.1 ≤ z.1 + 1; omega, by show z.2 + z'.2 ≤ z.2 + 6; omega⟩))) (fun hne => absurd (cmp_self _) hne)
theorem lc_wordLength {X : CT} {o : Oc} {P : Wt → Hp → Prop} (C : Cx X mL_law [] 10 zL o P) {z : Nat × Nat} {w : Wt} {h : Hp} {N i : Nat} {xs : Nat → Int32} {S Z : Sc} {sv : Bool} {F : Sf} (hs : SC X w N xs) (hN : N ≤ 2560) (hi : i + 5 ≤ N) (hz : z.1 + 1 ≤ 603072 ∧ z.2 + 6 ≤ 7157866) (hJ : JI2 h S sv Z F) (K : ∀ h' S' sv' Z' F' z', JI2 h' S' sv' Z' F' → z'.1 ≤ z.1 + 1 ∧ z'.2 ≤ z.2 + 6 → V X z' w h' 2096 (LL i) []) : V X z w h 862 (LL i) [] := by
  obtain ⟨th, hR⟩ := hJ.2.1
  obtain ⟨f, hf⟩ := hJ.2.2
  obtain ⟨S', sv', Z', F', o', z', r, y, j8, j9, hr4, hc⟩ := jm_wordLength (w := w) (S := S) (sv := sv) (Z := Z) (F := F) (x := xs (i + 1))
  obtain ⟨d8, P8, hd8, c8, q8⟩ := j8 h hJ.1
  have hz' : z'.1 ≤ 1 ∧ z'.2 ≤ 6 := by rcases hc with ⟨-, -, rfl⟩ | ⟨E, -, -, rfl⟩ <;> decide
  have hJO : JO rwL_wordLength o' z' r f P8 (RW h S' sv' Z' F' r y.toInt64) := by
    rcases hc with ⟨rfl, rfl, rfl⟩ | ⟨E, rfl, hE, rfl⟩
    · exact .inl ⟨y, rfl, rfl, rfl, fun h1 p1 => ⟨((q8 h1 p1).gf 88 (by decide)).trans hf, rw_ok (q8 h1 p1)⟩⟩
    · exact .inr ⟨E, rfl, rfl, hE, fun h1 p1 => rw_thr (q8 h1 p1) hf (fun e => by subst e; simp [rwL_wordLength] at hE)⟩
  have cw := xL_wordLength hJO hJ.1.ob hd8 c8
  refine v_aload_n C (oL_law.at 449 rfl) rfl ?_
  refine v_aload_n C (oL_law.at 450 rfl) rfl ?_
  refine v_iload C (oL_law.at 451 rfl) rfl ?_
  refine v_iconst C (oL_law.at 452 rfl) (v := nI 1) rfl ?_
  refine v_iaddN C (oL_law.at 453 rfl) ?_
  refine v_sld C hs hN (by omega) (oL_law.at 454 rfl) ?_
  refine v_aload_n C (oL_law.at 455 rfl) rfl ?_
  refine v_callH C (oL_law.at 456 rfl) kL_wordLength (tj4 48 (by rfl) rfl) cw rfl rfl rfl ⟨by show z.1 + z'.1 ≤ 603072; omega, by show z.2 + z'.2 ≤ 7157866; omega⟩ rfl rfl (fun _ => rfl) (fun h1 R1 => ?_)
  dsimp only [Option.toList, List.cons_append, List.nil_append]
  obtain ⟨hP1, fr1, f1, hf1, hy1⟩ := R1
  have hR1 := hR.low (h' := h1) (fun j a b => fr1 j (by omega) (by omega))
  obtain ⟨d9, hd9, c9⟩ := j9 h1 _ hR1
  obtain ⟨u1, o1, -⟩ := hR1.o
  refine v_istore C (oL_law.at 457 rfl) rfl ?_
  dsimp only [sto1, sto2, killL]
  refine v_aload_n C (oL_law.at 458 rfl) rfl ?_
  refine v_aload_n C (oL_law.at 459 rfl) rfl ?_
  refine v_iload C (oL_law.at 460 rfl) rfl ?_
  refine v_iconst C (oL_law.at 461 rfl) (v := nI 1) rfl ?_
  refine v_iaddN C (oL_law.at 462 rfl) ?_
  refine v_sld C hs hN (by omega) (oL_law.at 463 rfl) ?_
  refine v_callV C (oL_law.at 464 rfl) vL_176 o1 c9 rfl (blt10 hd9) rfl ⟨Nat.ble_eq_true_of_le (by show z.1 + z'.1 ≤ 603072; omega), Nat.ble_eq_true_of_le (by show z.2 + z'.2 ≤ 7157866; omega)⟩ rfl rfl (fun _ => rfl) (fun h2 hp => ?_)
  dsimp only [Option.toList, List.cons_append, List.nil_append]
  refine v_istore C (oL_law.at 465 rfl) rfl ?_
  dsimp only [sto1, sto2, killL]
  refine v_aload_n C (oL_law.at 466 rfl) rfl ?_
  obtain ⟨u2, o2, t2, -⟩ := hp.o
  refine v_callV C (oL_law.at 467 rfl) vL_122 o2 (k9_thrown o2) rfl rfl rfl ⟨Nat.ble_eq_true_of_le (by show z.1 + z'.1 ≤ 603072; omega), Nat.ble_eq_true_of_le (by show z.2 + z'.2 ≤ 7157866; omega)⟩ rfl rfl (fun _ => rfl) (fun h3 e3 => ?_)
  rw [show h3 = _ from e3]
  dsimp only [Option.toList, List.cons_append, List.nil_append]
  rw [t2]
  have J2 : JI2 h2 S' sv' Z' F' := ⟨hP1.top (fun j hj => hp.fr j (.inl (by omega))), ⟨_, hp.low (fun _ _ _ => rfl)⟩, f1, (hp.fr 88 (.inr (by decide))).trans hf1⟩
  refine v_iload C (oL_law.at 468 rfl) rfl ?_
  refine v_icmp_eqN C (oL_law.at 469 rfl) (tgt := 898) (by decide) (by omega) (by omega) (fun _ => ?_) (fun hne => absurd rfl hne)
  refine v_iload C (oL_law.at 472 rfl) rfl ?_
  refine v_if_neN C (oL_law.at 473 rfl) (tgt := 915) (by decide) (by omega) (fun _ => v_goto C (oL_law.at 483 rfl) (tgt := 2096) (by decide) (v_forget _ _ _ _ _ _ _ _ (K h2 S' sv' Z' F' _ J2 ⟨by show z.1 + z'.1 ≤ z.1 + 1; omega, by show z.2 + z'.2 ≤ z.2 + 6; omega⟩))) (fun hr0 => ?_)
  refine v_aload_n C (oL_law.at 474 rfl) rfl ?_
  refine v_iconst C (oL_law.at 475 rfl) (v := nI 0) rfl ?_
  refine v_lald C (oL_law.at 476 rfl) ((hp.fr 88 (.inr (by decide))).trans hf1) (by decide) rfl (j := 0) (by decide) (hy1 hr0) ?_
  refine v_iload C (oL_law.at 477 rfl) rfl ?_
  refine v_i2l C (oL_law.at 478 rfl) ?_
  refine v_lcmp C (oL_law.at 479 rfl) ?_
  exact v_if_eq C (oL_law.at 480 rfl) (tgt := 915) (by decide) (fun _ => v_goto C (oL_law.at 483 rfl) (tgt := 2096) (by decide) (v_forget _ _ _ _ _ _ _ _ (K h2 S' sv' Z' F' _ J2 ⟨by show z.1 + z'.1 ≤ z.1 + 1; omega, by show z.2 + z'.2 ≤ z.2 + 6; omega⟩))) (fun hne => absurd (cmp_self _) hne)
theorem lc_wordIndex {X : CT} {o : Oc} {P : Wt → Hp → Prop} (C : Cx X mL_law [] 10 zL o P) {z : Nat × Nat} {w : Wt} {h : Hp} {N i : Nat} {xs : Nat → Int32} {S Z : Sc} {sv : Bool} {F : Sf} (hs : SC X w N xs) (hN : N ≤ 2560) (hi : i + 5 ≤ N) (hz : z.1 + 1 ≤ 603072 ∧ z.2 + 6 ≤ 7157866) (hJ : JI2 h S sv Z F) (K : ∀ h' S' sv' Z' F' z', JI2 h' S' sv' Z' F' → z'.1 ≤ z.1 + 1 ∧ z'.2 ≤ z.2 + 6 → V X z' w h' 2096 (LL i) []) : V X z w h 918 (LL i) [] := by
  obtain ⟨th, hR⟩ := hJ.2.1
  obtain ⟨f, hf⟩ := hJ.2.2
  obtain ⟨S', sv', Z', F', o', z', r, y, j8, j9, hr4, hc⟩ := jm_wordIndex (w := w) (S := S) (sv := sv) (Z := Z) (F := F) (x := xs (i + 1))
  obtain ⟨d8, P8, hd8, c8, q8⟩ := j8 h hJ.1
  have hz' : z'.1 ≤ 1 ∧ z'.2 ≤ 6 := by rcases hc with ⟨-, -, rfl⟩ | ⟨E, -, -, rfl⟩ <;> decide
  have hJO : JO rwL_wordIndex o' z' r f P8 (RW h S' sv' Z' F' r y.toInt64) := by
    rcases hc with ⟨rfl, rfl, rfl⟩ | ⟨E, rfl, hE, rfl⟩
    · exact .inl ⟨y, rfl, rfl, rfl, fun h1 p1 => ⟨((q8 h1 p1).gf 88 (by decide)).trans hf, rw_ok (q8 h1 p1)⟩⟩
    · exact .inr ⟨E, rfl, rfl, hE, fun h1 p1 => rw_thr (q8 h1 p1) hf (fun e => by subst e; simp [rwL_wordIndex] at hE)⟩
  have cw := xL_wordIndex hJO hJ.1.ob hd8 c8
  refine v_aload_n C (oL_law.at 484 rfl) rfl ?_
  refine v_aload_n C (oL_law.at 485 rfl) rfl ?_
  refine v_iload C (oL_law.at 486 rfl) rfl ?_
  refine v_iconst C (oL_law.at 487 rfl) (v := nI 1) rfl ?_
  refine v_iaddN C (oL_law.at 488 rfl) ?_
  refine v_sld C hs hN (by omega) (oL_law.at 489 rfl) ?_
  refine v_aload_n C (oL_law.at 490 rfl) rfl ?_
  refine v_callH C (oL_law.at 491 rfl) kL_wordIndex (tj4 55 (by rfl) rfl) cw rfl rfl rfl ⟨by show z.1 + z'.1 ≤ 603072; omega, by show z.2 + z'.2 ≤ 7157866; omega⟩ rfl rfl (fun _ => rfl) (fun h1 R1 => ?_)
  dsimp only [Option.toList, List.cons_append, List.nil_append]
  obtain ⟨hP1, fr1, f1, hf1, hy1⟩ := R1
  have hR1 := hR.low (h' := h1) (fun j a b => fr1 j (by omega) (by omega))
  obtain ⟨d9, hd9, c9⟩ := j9 h1 _ hR1
  obtain ⟨u1, o1, -⟩ := hR1.o
  refine v_istore C (oL_law.at 492 rfl) rfl ?_
  dsimp only [sto1, sto2, killL]
  refine v_aload_n C (oL_law.at 493 rfl) rfl ?_
  refine v_aload_n C (oL_law.at 494 rfl) rfl ?_
  refine v_iload C (oL_law.at 495 rfl) rfl ?_
  refine v_iconst C (oL_law.at 496 rfl) (v := nI 1) rfl ?_
  refine v_iaddN C (oL_law.at 497 rfl) ?_
  refine v_sld C hs hN (by omega) (oL_law.at 498 rfl) ?_
  refine v_callV C (oL_law.at 499 rfl) vL_179 o1 c9 rfl (blt10 hd9) rfl ⟨Nat.ble_eq_true_of_le (by show z.1 + z'.1 ≤ 603072; omega), Nat.ble_eq_true_of_le (by show z.2 + z'.2 ≤ 7157866; omega)⟩ rfl rfl (fun _ => rfl) (fun h2 hp => ?_)
  dsimp only [Option.toList, List.cons_append, List.nil_append]
  refine v_istore C (oL_law.at 500 rfl) rfl ?_
  dsimp only [sto1, sto2, killL]
  refine v_aload_n C (oL_law.at 501 rfl) rfl ?_
  obtain ⟨u2, o2, t2, -⟩ := hp.o
  refine v_callV C (oL_law.at 502 rfl) vL_122 o2 (k9_thrown o2) rfl rfl rfl ⟨Nat.ble_eq_true_of_le (by show z.1 + z'.1 ≤ 603072; omega), Nat.ble_eq_true_of_le (by show z.2 + z'.2 ≤ 7157866; omega)⟩ rfl rfl (fun _ => rfl) (fun h3 e3 => ?_)
  rw [show h3 = _ from e3]
  dsimp only [Option.toList, List.cons_append, List.nil_append]
  rw [t2]
  have J2 : JI2 h2 S' sv' Z' F' := ⟨hP1.top (fun j hj => hp.fr j (.inl (by omega))), ⟨_, hp.low (fun _ _ _ => rfl)⟩, f1, (hp.fr 88 (.inr (by decide))).trans hf1⟩
  refine v_iload C (oL_law.at 503 rfl) rfl ?_
  refine v_icmp_eqN C (oL_law.at 504 rfl) (tgt := 954) (by decide) (by omega) (by omega) (fun _ => ?_) (fun hne => absurd rfl hne)
  refine v_iload C (oL_law.at 507 rfl) rfl ?_
  refine v_if_neN C (oL_law.at 508 rfl) (tgt := 971) (by decide) (by omega) (fun _ => v_goto C (oL_law.at 518 rfl) (tgt := 2096) (by decide) (v_forget _ _ _ _ _ _ _ _ (K h2 S' sv' Z' F' _ J2 ⟨by show z.1 + z'.1 ≤ z.1 + 1; omega, by show z.2 + z'.2 ≤ z.2 + 6; omega⟩))) (fun hr0 => ?_)
  refine v_aload_n C (oL_law.at 509 rfl) rfl ?_
  refine v_iconst C (oL_law.at 510 rfl) (v := nI 0) rfl ?_
  refine v_lald C (oL_law.at 511 rfl) ((hp.fr 88 (.inr (by decide))).trans hf1) (by decide) rfl (j := 0) (by decide) (hy1 hr0) ?_
  refine v_iload C (oL_law.at 512 rfl) rfl ?_
  refine v_i2l C (oL_law.at 513 rfl) ?_
  refine v_lcmp C (oL_law.at 514 rfl) ?_
  exact v_if_eq C (oL_law.at 515 rfl) (tgt := 971) (by decide) (fun _ => v_goto C (oL_law.at 518 rfl) (tgt := 2096) (by decide) (v_forget _ _ _ _ _ _ _ _ (K h2 S' sv' Z' F' _ J2 ⟨by show z.1 + z'.1 ≤ z.1 + 1; omega, by show z.2 + z'.2 ≤ z.2 + 6; omega⟩))) (fun hne => absurd (cmp_self _) hne)
theorem lc_cell {X : CT} {o : Oc} {P : Wt → Hp → Prop} (C : Cx X mL_law [] 10 zL o P) {z : Nat × Nat} {w : Wt} {h : Hp} {N i : Nat} {xs : Nat → Int32} {S Z : Sc} {sv : Bool} {F : Sf} (hs : SC X w N xs) (hN : N ≤ 2560) (hi : i + 5 ≤ N) (hz : z.1 + 1 ≤ 603072 ∧ z.2 + 6 ≤ 7157866) (hJ : JI2 h S sv Z F) (K : ∀ h' S' sv' Z' F' z', JI2 h' S' sv' Z' F' → z'.1 ≤ z.1 + 1 ∧ z'.2 ≤ z.2 + 6 → V X z' w h' 2096 (LL i) []) : V X z w h 974 (LL i) [] := by
  obtain ⟨th, hR⟩ := hJ.2.1
  obtain ⟨f, hf⟩ := hJ.2.2
  obtain ⟨S', sv', Z', F', o', z', r, y, j8, j9, hr4, hc⟩ := jm_cell hJ.oks (w := w) (S := S) (sv := sv) (Z := Z) (F := F) (x := xs (i + 1)) (y := xs (i + 2))
  obtain ⟨d8, P8, hd8, c8, q8⟩ := j8 h hJ.1
  have hz' : z'.1 ≤ 1 ∧ z'.2 ≤ 6 := by rcases hc with ⟨-, -, rfl⟩ | ⟨E, -, -, rfl⟩ <;> decide
  have hJO : JO rwL_cell o' z' r f P8 (RW h S' sv' Z' F' r y.toInt64) := by
    rcases hc with ⟨rfl, rfl, rfl⟩ | ⟨E, rfl, hE, rfl⟩
    · exact .inl ⟨y, rfl, rfl, rfl, fun h1 p1 => ⟨((q8 h1 p1).gf 88 (by decide)).trans hf, rw_ok (q8 h1 p1)⟩⟩
    · exact .inr ⟨E, rfl, rfl, hE, fun h1 p1 => rw_thr (q8 h1 p1) hf (fun e => by subst e; simp [rwL_cell] at hE)⟩
  have cw := xL_cell hJO hJ.1.ob hd8 c8
  refine v_aload_n C (oL_law.at 519 rfl) rfl ?_
  refine v_aload_n C (oL_law.at 520 rfl) rfl ?_
  refine v_iload C (oL_law.at 521 rfl) rfl ?_
  refine v_iconst C (oL_law.at 522 rfl) (v := nI 1) rfl ?_
  refine v_iaddN C (oL_law.at 523 rfl) ?_
  refine v_sld C hs hN (by omega) (oL_law.at 524 rfl) ?_
  refine v_aload_n C (oL_law.at 525 rfl) rfl ?_
  refine v_iload C (oL_law.at 526 rfl) rfl ?_
  refine v_iconst C (oL_law.at 527 rfl) (v := nI 2) rfl ?_
  refine v_iaddN C (oL_law.at 528 rfl) ?_
  refine v_sld C hs hN (by omega) (oL_law.at 529 rfl) ?_
  refine v_aload_n C (oL_law.at 530 rfl) rfl ?_
  refine v_callH C (oL_law.at 531 rfl) kL_cell (tj4 62 (by rfl) rfl) cw rfl rfl rfl ⟨by show z.1 + z'.1 ≤ 603072; omega, by show z.2 + z'.2 ≤ 7157866; omega⟩ rfl rfl (fun _ => rfl) (fun h1 R1 => ?_)
  dsimp only [Option.toList, List.cons_append, List.nil_append]
  obtain ⟨hP1, fr1, f1, hf1, hy1⟩ := R1
  have hR1 := hR.low (h' := h1) (fun j a b => fr1 j (by omega) (by omega))
  obtain ⟨d9, hd9, c9⟩ := j9 h1 _ hR1
  obtain ⟨u1, o1, -⟩ := hR1.o
  refine v_istore C (oL_law.at 532 rfl) rfl ?_
  dsimp only [sto1, sto2, killL]
  refine v_aload_n C (oL_law.at 533 rfl) rfl ?_
  refine v_aload_n C (oL_law.at 534 rfl) rfl ?_
  refine v_iload C (oL_law.at 535 rfl) rfl ?_
  refine v_iconst C (oL_law.at 536 rfl) (v := nI 1) rfl ?_
  refine v_iaddN C (oL_law.at 537 rfl) ?_
  refine v_sld C hs hN (by omega) (oL_law.at 538 rfl) ?_
  refine v_aload_n C (oL_law.at 539 rfl) rfl ?_
  refine v_iload C (oL_law.at 540 rfl) rfl ?_
  refine v_iconst C (oL_law.at 541 rfl) (v := nI 2) rfl ?_
  refine v_iaddN C (oL_law.at 542 rfl) ?_
  refine v_sld C hs hN (by omega) (oL_law.at 543 rfl) ?_
  refine v_callV C (oL_law.at 544 rfl) vL_182 o1 c9 rfl (blt10 hd9) rfl ⟨Nat.ble_eq_true_of_le (by show z.1 + z'.1 ≤ 603072; omega), Nat.ble_eq_true_of_le (by show z.2 + z'.2 ≤ 7157866; omega)⟩ rfl rfl (fun _ => rfl) (fun h2 hp => ?_)
  dsimp only [Option.toList, List.cons_append, List.nil_append]
  refine v_istore C (oL_law.at 545 rfl) rfl ?_
  dsimp only [sto1, sto2, killL]
  refine v_aload_n C (oL_law.at 546 rfl) rfl ?_
  obtain ⟨u2, o2, t2, -⟩ := hp.o
  refine v_callV C (oL_law.at 547 rfl) vL_122 o2 (k9_thrown o2) rfl rfl rfl ⟨Nat.ble_eq_true_of_le (by show z.1 + z'.1 ≤ 603072; omega), Nat.ble_eq_true_of_le (by show z.2 + z'.2 ≤ 7157866; omega)⟩ rfl rfl (fun _ => rfl) (fun h3 e3 => ?_)
  rw [show h3 = _ from e3]
  dsimp only [Option.toList, List.cons_append, List.nil_append]
  rw [t2]
  have J2 : JI2 h2 S' sv' Z' F' := ⟨hP1.top (fun j hj => hp.fr j (.inl (by omega))), ⟨_, hp.low (fun _ _ _ => rfl)⟩, f1, (hp.fr 88 (.inr (by decide))).trans hf1⟩
  refine v_iload C (oL_law.at 548 rfl) rfl ?_
  refine v_icmp_eqN C (oL_law.at 549 rfl) (tgt := 1022) (by decide) (by omega) (by omega) (fun _ => ?_) (fun hne => absurd rfl hne)
  refine v_iload C (oL_law.at 552 rfl) rfl ?_
  refine v_if_neN C (oL_law.at 553 rfl) (tgt := 1039) (by decide) (by omega) (fun _ => v_goto C (oL_law.at 563 rfl) (tgt := 2096) (by decide) (v_forget _ _ _ _ _ _ _ _ (K h2 S' sv' Z' F' _ J2 ⟨by show z.1 + z'.1 ≤ z.1 + 1; omega, by show z.2 + z'.2 ≤ z.2 + 6; omega⟩))) (fun hr0 => ?_)
  refine v_aload_n C (oL_law.at 554 rfl) rfl ?_
  refine v_iconst C (oL_law.at 555 rfl) (v := nI 0) rfl ?_
  refine v_lald C (oL_law.at 556 rfl) ((hp.fr 88 (.inr (by decide))).trans hf1) (by decide) rfl (j := 0) (by decide) (hy1 hr0) ?_
  refine v_iload C (oL_law.at 557 rfl) rfl ?_
  refine v_i2l C (oL_law.at 558 rfl) ?_
  refine v_lcmp C (oL_law.at 559 rfl) ?_
  exact v_if_eq C (oL_law.at 560 rfl) (tgt := 1039) (by decide) (fun _ => v_goto C (oL_law.at 563 rfl) (tgt := 2096) (by decide) (v_forget _ _ _ _ _ _ _ _ (K h2 S' sv' Z' F' _ J2 ⟨by show z.1 + z'.1 ≤ z.1 + 1; omega, by show z.2 + z'.2 ≤ z.2 + 6; omega⟩))) (fun hne => absurd (cmp_self _) hne)
theorem lc_apply {X : CT} {o : Oc} {P : Wt → Hp → Prop} (C : Cx X mL_law [] 10 zL o P) {z : Nat × Nat} {w : Wt} {h : Hp} {N i : Nat} {xs : Nat → Int32} {S Z : Sc} {sv : Bool} {F : Sf} (hs : SC X w N xs) (hN : N ≤ 2560) (hi : i + 5 ≤ N) (hz : z.1 + 1 ≤ 603072 ∧ z.2 + 6 ≤ 7157866) (hJ : JI2 h S sv Z F) (K : ∀ h' S' sv' Z' F' z', JI2 h' S' sv' Z' F' → z'.1 ≤ z.1 + 1 ∧ z'.2 ≤ z.2 + 6 → V X z' w h' 2096 (LL i) []) : V X z w h 1042 (LL i) [] := by
  obtain ⟨th, hR⟩ := hJ.2.1
  obtain ⟨f, hf⟩ := hJ.2.2
  obtain ⟨S', sv', Z', F', o', z', r, y, j8, j9, hr4, hc⟩ := jm_apply (w := w) (S := S) (sv := sv) (Z := Z) (F := F) (x := xs (i + 1)) (c := decide (xs (i + 2) ≠ 0))
  obtain ⟨d8, P8, hd8, c8, q8⟩ := j8 h hJ.1
  have hz' : z'.1 ≤ 1 ∧ z'.2 ≤ 6 := by rcases hc with ⟨-, -, rfl⟩ | ⟨E, -, -, rfl⟩ <;> decide
  have hJO : JO rwL_apply o' z' r f P8 (RW h S' sv' Z' F' r y.toInt64) := by
    rcases hc with ⟨rfl, rfl, rfl⟩ | ⟨E, rfl, hE, rfl⟩
    · exact .inl ⟨y, rfl, rfl, rfl, fun h1 p1 => ⟨((q8 h1 p1).gf 88 (by decide)).trans hf, rw_ok (q8 h1 p1)⟩⟩
    · exact .inr ⟨E, rfl, rfl, hE, fun h1 p1 => rw_thr (q8 h1 p1) hf (fun e => by subst e; simp [rwL_apply] at hE)⟩
  have cw := xL_apply hJO hJ.1.ob hd8 c8
  refine v_aload_n C (oL_law.at 564 rfl) rfl ?_
  refine v_aload_n C (oL_law.at 565 rfl) rfl ?_
  refine v_iload C (oL_law.at 566 rfl) rfl ?_
  refine v_iconst C (oL_law.at 567 rfl) (v := nI 1) rfl ?_
  refine v_iaddN C (oL_law.at 568 rfl) ?_
  refine v_sld C hs hN (by omega) (oL_law.at 569 rfl) ?_
  refine v_aload_n C (oL_law.at 570 rfl) rfl ?_
  refine v_iload C (oL_law.at 571 rfl) rfl ?_
  refine v_iconst C (oL_law.at 572 rfl) (v := nI 2) rfl ?_
  refine v_iaddN C (oL_law.at 573 rfl) ?_
  refine v_sld C hs hN (by omega) (oL_law.at 574 rfl) ?_
  refine v_bool C (oL_law.at 575 rfl) (oL_law.at 576 rfl) (oL_law.at 577 rfl) (oL_law.at 578 rfl) ?_
  refine v_aload_n C (oL_law.at 579 rfl) rfl ?_
  refine v_callH C (oL_law.at 580 rfl) kL_apply (tj4 74 (by rfl) rfl) cw rfl rfl rfl ⟨by show z.1 + z'.1 ≤ 603072; omega, by show z.2 + z'.2 ≤ 7157866; omega⟩ rfl rfl (fun _ => rfl) (fun h1 R1 => ?_)
  dsimp only [Option.toList, List.cons_append, List.nil_append]
  obtain ⟨hP1, fr1, f1, hf1, hy1⟩ := R1
  have hR1 := hR.low (h' := h1) (fun j a b => fr1 j (by omega) (by omega))
  obtain ⟨d9, hd9, c9⟩ := j9 h1 _ hR1
  obtain ⟨u1, o1, -⟩ := hR1.o
  refine v_istore C (oL_law.at 581 rfl) rfl ?_
  dsimp only [sto1, sto2, killL]
  refine v_aload_n C (oL_law.at 582 rfl) rfl ?_
  refine v_aload_n C (oL_law.at 583 rfl) rfl ?_
  refine v_iload C (oL_law.at 584 rfl) rfl ?_
  refine v_iconst C (oL_law.at 585 rfl) (v := nI 1) rfl ?_
  refine v_iaddN C (oL_law.at 586 rfl) ?_
  refine v_sld C hs hN (by omega) (oL_law.at 587 rfl) ?_
  refine v_aload_n C (oL_law.at 588 rfl) rfl ?_
  refine v_iload C (oL_law.at 589 rfl) rfl ?_
  refine v_iconst C (oL_law.at 590 rfl) (v := nI 2) rfl ?_
  refine v_iaddN C (oL_law.at 591 rfl) ?_
  refine v_sld C hs hN (by omega) (oL_law.at 592 rfl) ?_
  refine v_bool C (oL_law.at 593 rfl) (oL_law.at 594 rfl) (oL_law.at 595 rfl) (oL_law.at 596 rfl) ?_
  refine v_callV C (oL_law.at 597 rfl) vL_186 o1 c9 rfl (blt10 hd9) rfl ⟨Nat.ble_eq_true_of_le (by show z.1 + z'.1 ≤ 603072; omega), Nat.ble_eq_true_of_le (by show z.2 + z'.2 ≤ 7157866; omega)⟩ rfl rfl (fun _ => rfl) (fun h2 hp => ?_)
  dsimp only [Option.toList, List.cons_append, List.nil_append]
  refine v_istore C (oL_law.at 598 rfl) rfl ?_
  dsimp only [sto1, sto2, killL]
  refine v_aload_n C (oL_law.at 599 rfl) rfl ?_
  obtain ⟨u2, o2, t2, -⟩ := hp.o
  refine v_callV C (oL_law.at 600 rfl) vL_122 o2 (k9_thrown o2) rfl rfl rfl ⟨Nat.ble_eq_true_of_le (by show z.1 + z'.1 ≤ 603072; omega), Nat.ble_eq_true_of_le (by show z.2 + z'.2 ≤ 7157866; omega)⟩ rfl rfl (fun _ => rfl) (fun h3 e3 => ?_)
  rw [show h3 = _ from e3]
  dsimp only [Option.toList, List.cons_append, List.nil_append]
  rw [t2]
  have J2 : JI2 h2 S' sv' Z' F' := ⟨hP1.top (fun j hj => hp.fr j (.inl (by omega))), ⟨_, hp.low (fun _ _ _ => rfl)⟩, f1, (hp.fr 88 (.inr (by decide))).trans hf1⟩
  refine v_iload C (oL_law.at 601 rfl) rfl ?_
  refine v_icmp_eqN C (oL_law.at 602 rfl) (tgt := 1106) (by decide) (by omega) (by omega) (fun _ => ?_) (fun hne => absurd rfl hne)
  refine v_iload C (oL_law.at 605 rfl) rfl ?_
  refine v_if_neN C (oL_law.at 606 rfl) (tgt := 1123) (by decide) (by omega) (fun _ => v_goto C (oL_law.at 616 rfl) (tgt := 2096) (by decide) (v_forget _ _ _ _ _ _ _ _ (K h2 S' sv' Z' F' _ J2 ⟨by show z.1 + z'.1 ≤ z.1 + 1; omega, by show z.2 + z'.2 ≤ z.2 + 6; omega⟩))) (fun hr0 => ?_)
  refine v_aload_n C (oL_law.at 607 rfl) rfl ?_
  refine v_iconst C (oL_law.at 608 rfl) (v := nI 0) rfl ?_
  refine v_lald C (oL_law.at 609 rfl) ((hp.fr 88 (.inr (by decide))).trans hf1) (by decide) rfl (j := 0) (by decide) (hy1 hr0) ?_
  refine v_iload C (oL_law.at 610 rfl) rfl ?_
  refine v_i2l C (oL_law.at 611 rfl) ?_
  refine v_lcmp C (oL_law.at 612 rfl) ?_
  exact v_if_eq C (oL_law.at 613 rfl) (tgt := 1123) (by decide) (fun _ => v_goto C (oL_law.at 616 rfl) (tgt := 2096) (by decide) (v_forget _ _ _ _ _ _ _ _ (K h2 S' sv' Z' F' _ J2 ⟨by show z.1 + z'.1 ≤ z.1 + 1; omega, by show z.2 + z'.2 ≤ z.2 + 6; omega⟩))) (fun hne => absurd (cmp_self _) hne)
theorem lc_orbit {X : CT} {o : Oc} {P : Wt → Hp → Prop} (C : Cx X mL_law [] 10 zL o P) {z : Nat × Nat} {w : Wt} {h : Hp} {N i : Nat} {xs : Nat → Int32} {S Z : Sc} {sv : Bool} {F : Sf} (hs : SC X w N xs) (hN : N ≤ 2560) (hi : i + 5 ≤ N) (hz : z.1 + 1 ≤ 603072 ∧ z.2 + 6 ≤ 7157866) (hJ : JI2 h S sv Z F) (K : ∀ h' S' sv' Z' F' z', JI2 h' S' sv' Z' F' → z'.1 ≤ z.1 + 1 ∧ z'.2 ≤ z.2 + 6 → V X z' w h' 2096 (LL i) []) : V X z w h 1126 (LL i) [] := by
  obtain ⟨th, hR⟩ := hJ.2.1
  obtain ⟨f, hf⟩ := hJ.2.2
  obtain ⟨S', sv', Z', F', o', z', r, y, j8, j9, hr4, hc⟩ := jm_orbit hJ.oks (w := w) (S := S) (sv := sv) (Z := Z) (F := F) (x := xs (i + 1)) (y := xs (i + 2))
  obtain ⟨d8, P8, hd8, c8, q8⟩ := j8 h hJ.1
  have hz' : z'.1 ≤ 1 ∧ z'.2 ≤ 6 := by rcases hc with ⟨-, -, rfl⟩ | ⟨E, -, -, rfl⟩ <;> decide
  have hJO : JO rwL_orbit o' z' r f P8 (RW h S' sv' Z' F' r y.toInt64) := by
    rcases hc with ⟨rfl, rfl, rfl⟩ | ⟨E, rfl, hE, rfl⟩
    · exact .inl ⟨y, rfl, rfl, rfl, fun h1 p1 => ⟨((q8 h1 p1).gf 88 (by decide)).trans hf, rw_ok (q8 h1 p1)⟩⟩
    · exact .inr ⟨E, rfl, rfl, hE, fun h1 p1 => rw_thr (q8 h1 p1) hf (fun e => by subst e; simp [rwL_orbit] at hE)⟩
  have cw := xL_orbit hJO hJ.1.ob hd8 c8
  refine v_aload_n C (oL_law.at 617 rfl) rfl ?_
  refine v_aload_n C (oL_law.at 618 rfl) rfl ?_
  refine v_iload C (oL_law.at 619 rfl) rfl ?_
  refine v_iconst C (oL_law.at 620 rfl) (v := nI 1) rfl ?_
  refine v_iaddN C (oL_law.at 621 rfl) ?_
  refine v_sld C hs hN (by omega) (oL_law.at 622 rfl) ?_
  refine v_aload_n C (oL_law.at 623 rfl) rfl ?_
  refine v_iload C (oL_law.at 624 rfl) rfl ?_
  refine v_iconst C (oL_law.at 625 rfl) (v := nI 2) rfl ?_
  refine v_iaddN C (oL_law.at 626 rfl) ?_
  refine v_sld C hs hN (by omega) (oL_law.at 627 rfl) ?_
  refine v_aload_n C (oL_law.at 628 rfl) rfl ?_
  refine v_callH C (oL_law.at 629 rfl) kL_orbit (tj4 86 (by rfl) rfl) cw rfl rfl rfl ⟨by show z.1 + z'.1 ≤ 603072; omega, by show z.2 + z'.2 ≤ 7157866; omega⟩ rfl rfl (fun _ => rfl) (fun h1 R1 => ?_)
  dsimp only [Option.toList, List.cons_append, List.nil_append]
  obtain ⟨hP1, fr1, f1, hf1, hy1⟩ := R1
  have hR1 := hR.low (h' := h1) (fun j a b => fr1 j (by omega) (by omega))
  obtain ⟨d9, hd9, c9⟩ := j9 h1 _ hR1
  obtain ⟨u1, o1, -⟩ := hR1.o
  refine v_istore C (oL_law.at 630 rfl) rfl ?_
  dsimp only [sto1, sto2, killL]
  refine v_aload_n C (oL_law.at 631 rfl) rfl ?_
  refine v_aload_n C (oL_law.at 632 rfl) rfl ?_
  refine v_iload C (oL_law.at 633 rfl) rfl ?_
  refine v_iconst C (oL_law.at 634 rfl) (v := nI 1) rfl ?_
  refine v_iaddN C (oL_law.at 635 rfl) ?_
  refine v_sld C hs hN (by omega) (oL_law.at 636 rfl) ?_
  refine v_aload_n C (oL_law.at 637 rfl) rfl ?_
  refine v_iload C (oL_law.at 638 rfl) rfl ?_
  refine v_iconst C (oL_law.at 639 rfl) (v := nI 2) rfl ?_
  refine v_iaddN C (oL_law.at 640 rfl) ?_
  refine v_sld C hs hN (by omega) (oL_law.at 641 rfl) ?_
  refine v_callV C (oL_law.at 642 rfl) vL_189 o1 c9 rfl (blt10 hd9) rfl ⟨Nat.ble_eq_true_of_le (by show z.1 + z'.1 ≤ 603072; omega), Nat.ble_eq_true_of_le (by show z.2 + z'.2 ≤ 7157866; omega)⟩ rfl rfl (fun _ => rfl) (fun h2 hp => ?_)
  dsimp only [Option.toList, List.cons_append, List.nil_append]
  refine v_istore C (oL_law.at 643 rfl) rfl ?_
  dsimp only [sto1, sto2, killL]
  refine v_aload_n C (oL_law.at 644 rfl) rfl ?_
  obtain ⟨u2, o2, t2, -⟩ := hp.o
  refine v_callV C (oL_law.at 645 rfl) vL_122 o2 (k9_thrown o2) rfl rfl rfl ⟨Nat.ble_eq_true_of_le (by show z.1 + z'.1 ≤ 603072; omega), Nat.ble_eq_true_of_le (by show z.2 + z'.2 ≤ 7157866; omega)⟩ rfl rfl (fun _ => rfl) (fun h3 e3 => ?_)
  rw [show h3 = _ from e3]
  dsimp only [Option.toList, List.cons_append, List.nil_append]
  rw [t2]
  have J2 : JI2 h2 S' sv' Z' F' := ⟨hP1.top (fun j hj => hp.fr j (.inl (by omega))), ⟨_, hp.low (fun _ _ _ => rfl)⟩, f1, (hp.fr 88 (.inr (by decide))).trans hf1⟩
  refine v_iload C (oL_law.at 646 rfl) rfl ?_
  refine v_icmp_eqN C (oL_law.at 647 rfl) (tgt := 1174) (by decide) (by omega) (by omega) (fun _ => ?_) (fun hne => absurd rfl hne)
  refine v_iload C (oL_law.at 650 rfl) rfl ?_
  refine v_if_neN C (oL_law.at 651 rfl) (tgt := 1191) (by decide) (by omega) (fun _ => v_goto C (oL_law.at 661 rfl) (tgt := 2096) (by decide) (v_forget _ _ _ _ _ _ _ _ (K h2 S' sv' Z' F' _ J2 ⟨by show z.1 + z'.1 ≤ z.1 + 1; omega, by show z.2 + z'.2 ≤ z.2 + 6; omega⟩))) (fun hr0 => ?_)
  refine v_aload_n C (oL_law.at 652 rfl) rfl ?_
  refine v_iconst C (oL_law.at 653 rfl) (v := nI 0) rfl ?_
  refine v_lald C (oL_law.at 654 rfl) ((hp.fr 88 (.inr (by decide))).trans hf1) (by decide) rfl (j := 0) (by decide) (hy1 hr0) ?_
  refine v_iload C (oL_law.at 655 rfl) rfl ?_
  refine v_i2l C (oL_law.at 656 rfl) ?_
  refine v_lcmp C (oL_law.at 657 rfl) ?_
  exact v_if_eq C (oL_law.at 658 rfl) (tgt := 1191) (by decide) (fun _ => v_goto C (oL_law.at 661 rfl) (tgt := 2096) (by decide) (v_forget _ _ _ _ _ _ _ _ (K h2 S' sv' Z' F' _ J2 ⟨by show z.1 + z'.1 ≤ z.1 + 1; omega, by show z.2 + z'.2 ≤ z.2 + 6; omega⟩))) (fun hne => absurd (cmp_self _) hne)
theorem lc_preimageCount {X : CT} {o : Oc} {P : Wt → Hp → Prop} (C : Cx X mL_law [] 10 zL o P) {z : Nat × Nat} {w : Wt} {h : Hp} {N i : Nat} {xs : Nat → Int32} {S Z : Sc} {sv : Bool} {F : Sf} (hs : SC X w N xs) (hN : N ≤ 2560) (hi : i + 5 ≤ N) (hz : z.1 + 1 ≤ 603072 ∧ z.2 + 6 ≤ 7157866) (hJ : JI2 h S sv Z F) (K : ∀ h' S' sv' Z' F' z', JI2 h' S' sv' Z' F' → z'.1 ≤ z.1 + 1 ∧ z'.2 ≤ z.2 + 6 → V X z' w h' 2096 (LL i) []) : V X z w h 1194 (LL i) [] := by
  obtain ⟨th, hR⟩ := hJ.2.1
  obtain ⟨f, hf⟩ := hJ.2.2
  obtain ⟨S', sv', Z', F', o', z', r, y, j8, j9, hr4, hc⟩ := jm_preimageCount (w := w) (S := S) (sv := sv) (Z := Z) (F := F) (x := xs (i + 1)) (c := decide (xs (i + 2) ≠ 0))
  obtain ⟨d8, P8, hd8, c8, q8⟩ := j8 h hJ.1
  have hz' : z'.1 ≤ 1 ∧ z'.2 ≤ 6 := by rcases hc with ⟨-, -, rfl⟩ | ⟨E, -, -, rfl⟩ <;> decide
  have hJO : JO rwL_preimageCount o' z' r f P8 (RW h S' sv' Z' F' r y.toInt64) := by
    rcases hc with ⟨rfl, rfl, rfl⟩ | ⟨E, rfl, hE, rfl⟩
    · exact .inl ⟨y, rfl, rfl, rfl, fun h1 p1 => ⟨((q8 h1 p1).gf 88 (by decide)).trans hf, rw_ok (q8 h1 p1)⟩⟩
    · exact .inr ⟨E, rfl, rfl, hE, fun h1 p1 => rw_thr (q8 h1 p1) hf (fun e => by subst e; simp [rwL_preimageCount] at hE)⟩
  have cw := xL_preimageCount hJO hJ.1.ob hd8 c8
  refine v_aload_n C (oL_law.at 662 rfl) rfl ?_
  refine v_aload_n C (oL_law.at 663 rfl) rfl ?_
  refine v_iload C (oL_law.at 664 rfl) rfl ?_
  refine v_iconst C (oL_law.at 665 rfl) (v := nI 1) rfl ?_
  refine v_iaddN C (oL_law.at 666 rfl) ?_
  refine v_sld C hs hN (by omega) (oL_law.at 667 rfl) ?_
  refine v_aload_n C (oL_law.at 668 rfl) rfl ?_
  refine v_iload C (oL_law.at 669 rfl) rfl ?_
  refine v_iconst C (oL_law.at 670 rfl) (v := nI 2) rfl ?_
  refine v_iaddN C (oL_law.at 671 rfl) ?_
  refine v_sld C hs hN (by omega) (oL_law.at 672 rfl) ?_
  refine v_bool C (oL_law.at 673 rfl) (oL_law.at 674 rfl) (oL_law.at 675 rfl) (oL_law.at 676 rfl) ?_
  refine v_aload_n C (oL_law.at 677 rfl) rfl ?_
  refine v_callH C (oL_law.at 678 rfl) kL_preimageCount (tj5 107 (by rfl) rfl) cw rfl rfl rfl ⟨by show z.1 + z'.1 ≤ 603072; omega, by show z.2 + z'.2 ≤ 7157866; omega⟩ rfl rfl (fun _ => rfl) (fun h1 R1 => ?_)
  dsimp only [Option.toList, List.cons_append, List.nil_append]
  obtain ⟨hP1, fr1, f1, hf1, hy1⟩ := R1
  have hR1 := hR.low (h' := h1) (fun j a b => fr1 j (by omega) (by omega))
  obtain ⟨d9, hd9, c9⟩ := j9 h1 _ hR1
  obtain ⟨u1, o1, -⟩ := hR1.o
  refine v_istore C (oL_law.at 679 rfl) rfl ?_
  dsimp only [sto1, sto2, killL]
  refine v_aload_n C (oL_law.at 680 rfl) rfl ?_
  refine v_aload_n C (oL_law.at 681 rfl) rfl ?_
  refine v_iload C (oL_law.at 682 rfl) rfl ?_
  refine v_iconst C (oL_law.at 683 rfl) (v := nI 1) rfl ?_
  refine v_iaddN C (oL_law.at 684 rfl) ?_
  refine v_sld C hs hN (by omega) (oL_law.at 685 rfl) ?_
  refine v_aload_n C (oL_law.at 686 rfl) rfl ?_
  refine v_iload C (oL_law.at 687 rfl) rfl ?_
  refine v_iconst C (oL_law.at 688 rfl) (v := nI 2) rfl ?_
  refine v_iaddN C (oL_law.at 689 rfl) ?_
  refine v_sld C hs hN (by omega) (oL_law.at 690 rfl) ?_
  refine v_bool C (oL_law.at 691 rfl) (oL_law.at 692 rfl) (oL_law.at 693 rfl) (oL_law.at 694 rfl) ?_
  refine v_callV C (oL_law.at 695 rfl) vL_192 o1 c9 rfl (blt10 hd9) rfl ⟨Nat.ble_eq_true_of_le (by show z.1 + z'.1 ≤ 603072; omega), Nat.ble_eq_true_of_le (by show z.2 + z'.2 ≤ 7157866; omega)⟩ rfl rfl (fun _ => rfl) (fun h2 hp => ?_)
  dsimp only [Option.toList, List.cons_append, List.nil_append]
  refine v_istore C (oL_law.at 696 rfl) rfl ?_
  dsimp only [sto1, sto2, killL]
  refine v_aload_n C (oL_law.at 697 rfl) rfl ?_
  obtain ⟨u2, o2, t2, -⟩ := hp.o
  refine v_callV C (oL_law.at 698 rfl) vL_122 o2 (k9_thrown o2) rfl rfl rfl ⟨Nat.ble_eq_true_of_le (by show z.1 + z'.1 ≤ 603072; omega), Nat.ble_eq_true_of_le (by show z.2 + z'.2 ≤ 7157866; omega)⟩ rfl rfl (fun _ => rfl) (fun h3 e3 => ?_)
  rw [show h3 = _ from e3]
  dsimp only [Option.toList, List.cons_append, List.nil_append]
  rw [t2]
  have J2 : JI2 h2 S' sv' Z' F' := ⟨hP1.top (fun j hj => hp.fr j (.inl (by omega))), ⟨_, hp.low (fun _ _ _ => rfl)⟩, f1, (hp.fr 88 (.inr (by decide))).trans hf1⟩
  refine v_iload C (oL_law.at 699 rfl) rfl ?_
  refine v_icmp_eqN C (oL_law.at 700 rfl) (tgt := 1258) (by decide) (by omega) (by omega) (fun _ => ?_) (fun hne => absurd rfl hne)
  refine v_iload C (oL_law.at 703 rfl) rfl ?_
  refine v_if_neN C (oL_law.at 704 rfl) (tgt := 1275) (by decide) (by omega) (fun _ => v_goto C (oL_law.at 714 rfl) (tgt := 2096) (by decide) (v_forget _ _ _ _ _ _ _ _ (K h2 S' sv' Z' F' _ J2 ⟨by show z.1 + z'.1 ≤ z.1 + 1; omega, by show z.2 + z'.2 ≤ z.2 + 6; omega⟩))) (fun hr0 => ?_)
  refine v_aload_n C (oL_law.at 705 rfl) rfl ?_
  refine v_iconst C (oL_law.at 706 rfl) (v := nI 0) rfl ?_
  refine v_lald C (oL_law.at 707 rfl) ((hp.fr 88 (.inr (by decide))).trans hf1) (by decide) rfl (j := 0) (by decide) (hy1 hr0) ?_
  refine v_iload C (oL_law.at 708 rfl) rfl ?_
  refine v_i2l C (oL_law.at 709 rfl) ?_
  refine v_lcmp C (oL_law.at 710 rfl) ?_
  exact v_if_eq C (oL_law.at 711 rfl) (tgt := 1275) (by decide) (fun _ => v_goto C (oL_law.at 714 rfl) (tgt := 2096) (by decide) (v_forget _ _ _ _ _ _ _ _ (K h2 S' sv' Z' F' _ J2 ⟨by show z.1 + z'.1 ≤ z.1 + 1; omega, by show z.2 + z'.2 ≤ z.2 + 6; omega⟩))) (fun hne => absurd (cmp_self _) hne)
theorem lc_preimage {X : CT} {o : Oc} {P : Wt → Hp → Prop} (C : Cx X mL_law [] 10 zL o P) {z : Nat × Nat} {w : Wt} {h : Hp} {N i : Nat} {xs : Nat → Int32} {S Z : Sc} {sv : Bool} {F : Sf} (hs : SC X w N xs) (hN : N ≤ 2560) (hi : i + 5 ≤ N) (hz : z.1 + 1 ≤ 603072 ∧ z.2 + 6 ≤ 7157866) (hJ : JI2 h S sv Z F) (K : ∀ h' S' sv' Z' F' z', JI2 h' S' sv' Z' F' → z'.1 ≤ z.1 + 1 ∧ z'.2 ≤ z.2 + 6 → V X z' w h' 2096 (LL i) []) : V X z w h 1278 (LL i) [] := by
  obtain ⟨th, hR⟩ := hJ.2.1
  obtain ⟨f, hf⟩ := hJ.2.2
  obtain ⟨S', sv', Z', F', o', z', r, y, j8, j9, hr4, hc⟩ := jm_preimage hJ.oks (w := w) (S := S) (sv := sv) (Z := Z) (F := F) (x := xs (i + 1)) (c := decide (xs (i + 2) ≠ 0)) (y := xs (i + 3)) (v := xs (i + 4))
  obtain ⟨d8, P8, hd8, c8, q8⟩ := j8 h hJ.1
  have hz' : z'.1 ≤ 1 ∧ z'.2 ≤ 6 := by rcases hc with ⟨-, -, rfl⟩ | ⟨E, -, -, rfl⟩ <;> decide
  have hJO : JO rwL_preimage o' z' r f P8 (RW h S' sv' Z' F' r y.toInt64) := by
    rcases hc with ⟨rfl, rfl, rfl⟩ | ⟨E, rfl, hE, rfl⟩
    · exact .inl ⟨y, rfl, rfl, rfl, fun h1 p1 => ⟨((q8 h1 p1).gf 88 (by decide)).trans hf, rw_ok (q8 h1 p1)⟩⟩
    · exact .inr ⟨E, rfl, rfl, hE, fun h1 p1 => rw_thr (q8 h1 p1) hf (fun e => by subst e; simp [rwL_preimage] at hE)⟩
  have cw := xL_preimage hJO hJ.1.ob hd8 c8
  refine v_aload_n C (oL_law.at 715 rfl) rfl ?_
  refine v_aload_n C (oL_law.at 716 rfl) rfl ?_
  refine v_iload C (oL_law.at 717 rfl) rfl ?_
  refine v_iconst C (oL_law.at 718 rfl) (v := nI 1) rfl ?_
  refine v_iaddN C (oL_law.at 719 rfl) ?_
  refine v_sld C hs hN (by omega) (oL_law.at 720 rfl) ?_
  refine v_aload_n C (oL_law.at 721 rfl) rfl ?_
  refine v_iload C (oL_law.at 722 rfl) rfl ?_
  refine v_iconst C (oL_law.at 723 rfl) (v := nI 2) rfl ?_
  refine v_iaddN C (oL_law.at 724 rfl) ?_
  refine v_sld C hs hN (by omega) (oL_law.at 725 rfl) ?_
  refine v_bool C (oL_law.at 726 rfl) (oL_law.at 727 rfl) (oL_law.at 728 rfl) (oL_law.at 729 rfl) ?_
  refine v_aload_n C (oL_law.at 730 rfl) rfl ?_
  refine v_iload C (oL_law.at 731 rfl) rfl ?_
  refine v_iconst C (oL_law.at 732 rfl) (v := nI 3) rfl ?_
  refine v_iaddN C (oL_law.at 733 rfl) ?_
  refine v_sld C hs hN (by omega) (oL_law.at 734 rfl) ?_
  refine v_aload_n C (oL_law.at 735 rfl) rfl ?_
  refine v_iload C (oL_law.at 736 rfl) rfl ?_
  refine v_iconst C (oL_law.at 737 rfl) (v := nI 4) rfl ?_
  refine v_iaddN C (oL_law.at 738 rfl) ?_
  refine v_sld C hs hN (by omega) (oL_law.at 739 rfl) ?_
  refine v_aload_n C (oL_law.at 740 rfl) rfl ?_
  refine v_callH C (oL_law.at 741 rfl) kL_preimage (tj5 155 (by rfl) rfl) cw rfl rfl rfl ⟨by show z.1 + z'.1 ≤ 603072; omega, by show z.2 + z'.2 ≤ 7157866; omega⟩ rfl rfl (fun _ => rfl) (fun h1 R1 => ?_)
  dsimp only [Option.toList, List.cons_append, List.nil_append]
  obtain ⟨hP1, fr1, f1, hf1, hy1⟩ := R1
  have hR1 := hR.low (h' := h1) (fun j a b => fr1 j (by omega) (by omega))
  obtain ⟨d9, hd9, c9⟩ := j9 h1 _ hR1
  obtain ⟨u1, o1, -⟩ := hR1.o
  refine v_istore C (oL_law.at 742 rfl) rfl ?_
  dsimp only [sto1, sto2, killL]
  refine v_aload_n C (oL_law.at 743 rfl) rfl ?_
  refine v_aload_n C (oL_law.at 744 rfl) rfl ?_
  refine v_iload C (oL_law.at 745 rfl) rfl ?_
  refine v_iconst C (oL_law.at 746 rfl) (v := nI 1) rfl ?_
  refine v_iaddN C (oL_law.at 747 rfl) ?_
  refine v_sld C hs hN (by omega) (oL_law.at 748 rfl) ?_
  refine v_aload_n C (oL_law.at 749 rfl) rfl ?_
  refine v_iload C (oL_law.at 750 rfl) rfl ?_
  refine v_iconst C (oL_law.at 751 rfl) (v := nI 2) rfl ?_
  refine v_iaddN C (oL_law.at 752 rfl) ?_
  refine v_sld C hs hN (by omega) (oL_law.at 753 rfl) ?_
  refine v_bool C (oL_law.at 754 rfl) (oL_law.at 755 rfl) (oL_law.at 756 rfl) (oL_law.at 757 rfl) ?_
  refine v_aload_n C (oL_law.at 758 rfl) rfl ?_
  refine v_iload C (oL_law.at 759 rfl) rfl ?_
  refine v_iconst C (oL_law.at 760 rfl) (v := nI 3) rfl ?_
  refine v_iaddN C (oL_law.at 761 rfl) ?_
  refine v_sld C hs hN (by omega) (oL_law.at 762 rfl) ?_
  refine v_aload_n C (oL_law.at 763 rfl) rfl ?_
  refine v_iload C (oL_law.at 764 rfl) rfl ?_
  refine v_iconst C (oL_law.at 765 rfl) (v := nI 4) rfl ?_
  refine v_iaddN C (oL_law.at 766 rfl) ?_
  refine v_sld C hs hN (by omega) (oL_law.at 767 rfl) ?_
  refine v_callV C (oL_law.at 768 rfl) vL_196 o1 c9 rfl (blt10 hd9) rfl ⟨Nat.ble_eq_true_of_le (by show z.1 + z'.1 ≤ 603072; omega), Nat.ble_eq_true_of_le (by show z.2 + z'.2 ≤ 7157866; omega)⟩ rfl rfl (fun _ => rfl) (fun h2 hp => ?_)
  dsimp only [Option.toList, List.cons_append, List.nil_append]
  refine v_istore C (oL_law.at 769 rfl) rfl ?_
  dsimp only [sto1, sto2, killL]
  refine v_aload_n C (oL_law.at 770 rfl) rfl ?_
  obtain ⟨u2, o2, t2, -⟩ := hp.o
  refine v_callV C (oL_law.at 771 rfl) vL_122 o2 (k9_thrown o2) rfl rfl rfl ⟨Nat.ble_eq_true_of_le (by show z.1 + z'.1 ≤ 603072; omega), Nat.ble_eq_true_of_le (by show z.2 + z'.2 ≤ 7157866; omega)⟩ rfl rfl (fun _ => rfl) (fun h3 e3 => ?_)
  rw [show h3 = _ from e3]
  dsimp only [Option.toList, List.cons_append, List.nil_append]
  rw [t2]
  have J2 : JI2 h2 S' sv' Z' F' := ⟨hP1.top (fun j hj => hp.fr j (.inl (by omega))), ⟨_, hp.low (fun _ _ _ => rfl)⟩, f1, (hp.fr 88 (.inr (by decide))).trans hf1⟩
  refine v_iload C (oL_law.at 772 rfl) rfl ?_
  refine v_icmp_eqN C (oL_law.at 773 rfl) (tgt := 1366) (by decide) (by omega) (by omega) (fun _ => ?_) (fun hne => absurd rfl hne)
  refine v_iload C (oL_law.at 776 rfl) rfl ?_
  refine v_if_neN C (oL_law.at 777 rfl) (tgt := 1383) (by decide) (by omega) (fun _ => v_goto C (oL_law.at 787 rfl) (tgt := 2096) (by decide) (v_forget _ _ _ _ _ _ _ _ (K h2 S' sv' Z' F' _ J2 ⟨by show z.1 + z'.1 ≤ z.1 + 1; omega, by show z.2 + z'.2 ≤ z.2 + 6; omega⟩))) (fun hr0 => ?_)
  refine v_aload_n C (oL_law.at 778 rfl) rfl ?_
  refine v_iconst C (oL_law.at 779 rfl) (v := nI 0) rfl ?_
  refine v_lald C (oL_law.at 780 rfl) ((hp.fr 88 (.inr (by decide))).trans hf1) (by decide) rfl (j := 0) (by decide) (hy1 hr0) ?_
  refine v_iload C (oL_law.at 781 rfl) rfl ?_
  refine v_i2l C (oL_law.at 782 rfl) ?_
  refine v_lcmp C (oL_law.at 783 rfl) ?_
  exact v_if_eq C (oL_law.at 784 rfl) (tgt := 1383) (by decide) (fun _ => v_goto C (oL_law.at 787 rfl) (tgt := 2096) (by decide) (v_forget _ _ _ _ _ _ _ _ (K h2 S' sv' Z' F' _ J2 ⟨by show z.1 + z'.1 ≤ z.1 + 1; omega, by show z.2 + z'.2 ≤ z.2 + 6; omega⟩))) (fun hne => absurd (cmp_self _) hne)
theorem lc_preimagesBetween {X : CT} {o : Oc} {P : Wt → Hp → Prop} (C : Cx X mL_law [] 10 zL o P) {z : Nat × Nat} {w : Wt} {h : Hp} {N i : Nat} {xs : Nat → Int32} {S Z : Sc} {sv : Bool} {F : Sf} (hs : SC X w N xs) (hN : N ≤ 2560) (hi : i + 5 ≤ N) (hz : z.1 + 1 ≤ 603072 ∧ z.2 + 6 ≤ 7157866) (hJ : JI2 h S sv Z F) (K : ∀ h' S' sv' Z' F' z', JI2 h' S' sv' Z' F' → z'.1 ≤ z.1 + 1 ∧ z'.2 ≤ z.2 + 6 → V X z' w h' 2096 (LL i) []) : V X z w h 1386 (LL i) [] := by
  obtain ⟨th, hR⟩ := hJ.2.1
  obtain ⟨f, hf⟩ := hJ.2.2
  obtain ⟨S', sv', Z', F', o', z', r, y, j8, j9, hr4, hc⟩ := jm_preimagesBetween hJ.oks (w := w) (S := S) (sv := sv) (Z := Z) (F := F) (x := xs (i + 1)) (y := xs (i + 2)) (v := xs (i + 3))
  obtain ⟨d8, P8, hd8, c8, q8⟩ := j8 h hJ.1
  have hz' : z'.1 ≤ 1 ∧ z'.2 ≤ 6 := by rcases hc with ⟨-, -, rfl⟩ | ⟨E, -, -, rfl⟩ <;> decide
  have hJO : JO rwL_preimagesBetween o' z' r f P8 (RW h S' sv' Z' F' r y.toInt64) := by
    rcases hc with ⟨rfl, rfl, rfl⟩ | ⟨E, rfl, hE, rfl⟩
    · exact .inl ⟨y, rfl, rfl, rfl, fun h1 p1 => ⟨((q8 h1 p1).gf 88 (by decide)).trans hf, rw_ok (q8 h1 p1)⟩⟩
    · exact .inr ⟨E, rfl, rfl, hE, fun h1 p1 => rw_thr (q8 h1 p1) hf (fun e => by subst e; simp [rwL_preimagesBetween] at hE)⟩
  have cw := xL_preimagesBetween hJO hJ.1.ob hd8 c8
  refine v_aload_n C (oL_law.at 788 rfl) rfl ?_
  refine v_aload_n C (oL_law.at 789 rfl) rfl ?_
  refine v_iload C (oL_law.at 790 rfl) rfl ?_
  refine v_iconst C (oL_law.at 791 rfl) (v := nI 1) rfl ?_
  refine v_iaddN C (oL_law.at 792 rfl) ?_
  refine v_sld C hs hN (by omega) (oL_law.at 793 rfl) ?_
  refine v_aload_n C (oL_law.at 794 rfl) rfl ?_
  refine v_iload C (oL_law.at 795 rfl) rfl ?_
  refine v_iconst C (oL_law.at 796 rfl) (v := nI 2) rfl ?_
  refine v_iaddN C (oL_law.at 797 rfl) ?_
  refine v_sld C hs hN (by omega) (oL_law.at 798 rfl) ?_
  refine v_aload_n C (oL_law.at 799 rfl) rfl ?_
  refine v_iload C (oL_law.at 800 rfl) rfl ?_
  refine v_iconst C (oL_law.at 801 rfl) (v := nI 3) rfl ?_
  refine v_iaddN C (oL_law.at 802 rfl) ?_
  refine v_sld C hs hN (by omega) (oL_law.at 803 rfl) ?_
  refine v_aload_n C (oL_law.at 804 rfl) rfl ?_
  refine v_callH C (oL_law.at 805 rfl) kL_preimagesBetween (tj5 196 (by rfl) rfl) cw rfl rfl rfl ⟨by show z.1 + z'.1 ≤ 603072; omega, by show z.2 + z'.2 ≤ 7157866; omega⟩ rfl rfl (fun _ => rfl) (fun h1 R1 => ?_)
  dsimp only [Option.toList, List.cons_append, List.nil_append]
  obtain ⟨hP1, fr1, f1, hf1, hy1⟩ := R1
  have hR1 := hR.low (h' := h1) (fun j a b => fr1 j (by omega) (by omega))
  obtain ⟨d9, hd9, c9⟩ := j9 h1 _ hR1
  obtain ⟨u1, o1, -⟩ := hR1.o
  refine v_istore C (oL_law.at 806 rfl) rfl ?_
  dsimp only [sto1, sto2, killL]
  refine v_aload_n C (oL_law.at 807 rfl) rfl ?_
  refine v_aload_n C (oL_law.at 808 rfl) rfl ?_
  refine v_iload C (oL_law.at 809 rfl) rfl ?_
  refine v_iconst C (oL_law.at 810 rfl) (v := nI 1) rfl ?_
  refine v_iaddN C (oL_law.at 811 rfl) ?_
  refine v_sld C hs hN (by omega) (oL_law.at 812 rfl) ?_
  refine v_aload_n C (oL_law.at 813 rfl) rfl ?_
  refine v_iload C (oL_law.at 814 rfl) rfl ?_
  refine v_iconst C (oL_law.at 815 rfl) (v := nI 2) rfl ?_
  refine v_iaddN C (oL_law.at 816 rfl) ?_
  refine v_sld C hs hN (by omega) (oL_law.at 817 rfl) ?_
  refine v_aload_n C (oL_law.at 818 rfl) rfl ?_
  refine v_iload C (oL_law.at 819 rfl) rfl ?_
  refine v_iconst C (oL_law.at 820 rfl) (v := nI 3) rfl ?_
  refine v_iaddN C (oL_law.at 821 rfl) ?_
  refine v_sld C hs hN (by omega) (oL_law.at 822 rfl) ?_
  refine v_callV C (oL_law.at 823 rfl) vL_199 o1 c9 rfl (blt10 hd9) rfl ⟨Nat.ble_eq_true_of_le (by show z.1 + z'.1 ≤ 603072; omega), Nat.ble_eq_true_of_le (by show z.2 + z'.2 ≤ 7157866; omega)⟩ rfl rfl (fun _ => rfl) (fun h2 hp => ?_)
  dsimp only [Option.toList, List.cons_append, List.nil_append]
  refine v_istore C (oL_law.at 824 rfl) rfl ?_
  dsimp only [sto1, sto2, killL]
  refine v_aload_n C (oL_law.at 825 rfl) rfl ?_
  obtain ⟨u2, o2, t2, -⟩ := hp.o
  refine v_callV C (oL_law.at 826 rfl) vL_122 o2 (k9_thrown o2) rfl rfl rfl ⟨Nat.ble_eq_true_of_le (by show z.1 + z'.1 ≤ 603072; omega), Nat.ble_eq_true_of_le (by show z.2 + z'.2 ≤ 7157866; omega)⟩ rfl rfl (fun _ => rfl) (fun h3 e3 => ?_)
  rw [show h3 = _ from e3]
  dsimp only [Option.toList, List.cons_append, List.nil_append]
  rw [t2]
  have J2 : JI2 h2 S' sv' Z' F' := ⟨hP1.top (fun j hj => hp.fr j (.inl (by omega))), ⟨_, hp.low (fun _ _ _ => rfl)⟩, f1, (hp.fr 88 (.inr (by decide))).trans hf1⟩
  refine v_iload C (oL_law.at 827 rfl) rfl ?_
  refine v_icmp_eqN C (oL_law.at 828 rfl) (tgt := 1446) (by decide) (by omega) (by omega) (fun _ => ?_) (fun hne => absurd rfl hne)
  refine v_iload C (oL_law.at 831 rfl) rfl ?_
  refine v_if_neN C (oL_law.at 832 rfl) (tgt := 1463) (by decide) (by omega) (fun _ => v_goto C (oL_law.at 842 rfl) (tgt := 2096) (by decide) (v_forget _ _ _ _ _ _ _ _ (K h2 S' sv' Z' F' _ J2 ⟨by show z.1 + z'.1 ≤ z.1 + 1; omega, by show z.2 + z'.2 ≤ z.2 + 6; omega⟩))) (fun hr0 => ?_)
  refine v_aload_n C (oL_law.at 833 rfl) rfl ?_
  refine v_iconst C (oL_law.at 834 rfl) (v := nI 0) rfl ?_
  refine v_lald C (oL_law.at 835 rfl) ((hp.fr 88 (.inr (by decide))).trans hf1) (by decide) rfl (j := 0) (by decide) (hy1 hr0) ?_
  refine v_iload C (oL_law.at 836 rfl) rfl ?_
  refine v_i2l C (oL_law.at 837 rfl) ?_
  refine v_lcmp C (oL_law.at 838 rfl) ?_
  exact v_if_eq C (oL_law.at 839 rfl) (tgt := 1463) (by decide) (fun _ => v_goto C (oL_law.at 842 rfl) (tgt := 2096) (by decide) (v_forget _ _ _ _ _ _ _ _ (K h2 S' sv' Z' F' _ J2 ⟨by show z.1 + z'.1 ≤ z.1 + 1; omega, by show z.2 + z'.2 ≤ z.2 + 6; omega⟩))) (fun hne => absurd (cmp_self _) hne)
theorem lc_wordsWith {X : CT} {o : Oc} {P : Wt → Hp → Prop} (C : Cx X mL_law [] 10 zL o P) {z : Nat × Nat} {w : Wt} {h : Hp} {N i : Nat} {xs : Nat → Int32} {S Z : Sc} {sv : Bool} {F : Sf} (hs : SC X w N xs) (hN : N ≤ 2560) (hi : i + 5 ≤ N) (hz : z.1 + 1 ≤ 603072 ∧ z.2 + 6 ≤ 7157866) (hJ : JI2 h S sv Z F) (K : ∀ h' S' sv' Z' F' z', JI2 h' S' sv' Z' F' → z'.1 ≤ z.1 + 1 ∧ z'.2 ≤ z.2 + 6 → V X z' w h' 2096 (LL i) []) : V X z w h 1466 (LL i) [] := by
  obtain ⟨th, hR⟩ := hJ.2.1
  obtain ⟨f, hf⟩ := hJ.2.2
  obtain ⟨S', sv', Z', F', o', z', r, y, j8, j9, hr4, hc⟩ := jm_wordsWith (w := w) (S := S) (sv := sv) (Z := Z) (F := F) (x := xs (i + 1)) (y := xs (i + 2))
  obtain ⟨d8, P8, hd8, c8, q8⟩ := j8 h hJ.1
  have hz' : z'.1 ≤ 1 ∧ z'.2 ≤ 6 := by rcases hc with ⟨-, -, rfl⟩ | ⟨E, -, -, rfl⟩ <;> decide
  have hJO : JO rwL_wordsWith o' z' r f P8 (RW h S' sv' Z' F' r y.toInt64) := by
    rcases hc with ⟨rfl, rfl, rfl⟩ | ⟨E, rfl, hE, rfl⟩
    · exact .inl ⟨y, rfl, rfl, rfl, fun h1 p1 => ⟨((q8 h1 p1).gf 88 (by decide)).trans hf, rw_ok (q8 h1 p1)⟩⟩
    · exact .inr ⟨E, rfl, rfl, hE, fun h1 p1 => rw_thr (q8 h1 p1) hf (fun e => by subst e; simp [rwL_wordsWith] at hE)⟩
  have cw := xL_wordsWith hJO hJ.1.ob hd8 c8
  refine v_aload_n C (oL_law.at 843 rfl) rfl ?_
  refine v_aload_n C (oL_law.at 844 rfl) rfl ?_
  refine v_iload C (oL_law.at 845 rfl) rfl ?_
  refine v_iconst C (oL_law.at 846 rfl) (v := nI 1) rfl ?_
  refine v_iaddN C (oL_law.at 847 rfl) ?_
  refine v_sld C hs hN (by omega) (oL_law.at 848 rfl) ?_
  refine v_aload_n C (oL_law.at 849 rfl) rfl ?_
  refine v_iload C (oL_law.at 850 rfl) rfl ?_
  refine v_iconst C (oL_law.at 851 rfl) (v := nI 2) rfl ?_
  refine v_iaddN C (oL_law.at 852 rfl) ?_
  refine v_sld C hs hN (by omega) (oL_law.at 853 rfl) ?_
  refine v_aload_n C (oL_law.at 854 rfl) rfl ?_
  refine v_callH C (oL_law.at 855 rfl) kL_wordsWith (tj5 209 (by rfl) rfl) cw rfl rfl rfl ⟨by show z.1 + z'.1 ≤ 603072; omega, by show z.2 + z'.2 ≤ 7157866; omega⟩ rfl rfl (fun _ => rfl) (fun h1 R1 => ?_)
  dsimp only [Option.toList, List.cons_append, List.nil_append]
  obtain ⟨hP1, fr1, f1, hf1, hy1⟩ := R1
  have hR1 := hR.low (h' := h1) (fun j a b => fr1 j (by omega) (by omega))
  obtain ⟨d9, hd9, c9⟩ := j9 h1 _ hR1
  obtain ⟨u1, o1, -⟩ := hR1.o
  refine v_istore C (oL_law.at 856 rfl) rfl ?_
  dsimp only [sto1, sto2, killL]
  refine v_aload_n C (oL_law.at 857 rfl) rfl ?_
  refine v_aload_n C (oL_law.at 858 rfl) rfl ?_
  refine v_iload C (oL_law.at 859 rfl) rfl ?_
  refine v_iconst C (oL_law.at 860 rfl) (v := nI 1) rfl ?_
  refine v_iaddN C (oL_law.at 861 rfl) ?_
  refine v_sld C hs hN (by omega) (oL_law.at 862 rfl) ?_
  refine v_aload_n C (oL_law.at 863 rfl) rfl ?_
  refine v_iload C (oL_law.at 864 rfl) rfl ?_
  refine v_iconst C (oL_law.at 865 rfl) (v := nI 2) rfl ?_
  refine v_iaddN C (oL_law.at 866 rfl) ?_
  refine v_sld C hs hN (by omega) (oL_law.at 867 rfl) ?_
  refine v_callV C (oL_law.at 868 rfl) vL_202 o1 c9 rfl (blt10 hd9) rfl ⟨Nat.ble_eq_true_of_le (by show z.1 + z'.1 ≤ 603072; omega), Nat.ble_eq_true_of_le (by show z.2 + z'.2 ≤ 7157866; omega)⟩ rfl rfl (fun _ => rfl) (fun h2 hp => ?_)
  dsimp only [Option.toList, List.cons_append, List.nil_append]
  refine v_istore C (oL_law.at 869 rfl) rfl ?_
  dsimp only [sto1, sto2, killL]
  refine v_aload_n C (oL_law.at 870 rfl) rfl ?_
  obtain ⟨u2, o2, t2, -⟩ := hp.o
  refine v_callV C (oL_law.at 871 rfl) vL_122 o2 (k9_thrown o2) rfl rfl rfl ⟨Nat.ble_eq_true_of_le (by show z.1 + z'.1 ≤ 603072; omega), Nat.ble_eq_true_of_le (by show z.2 + z'.2 ≤ 7157866; omega)⟩ rfl rfl (fun _ => rfl) (fun h3 e3 => ?_)
  rw [show h3 = _ from e3]
  dsimp only [Option.toList, List.cons_append, List.nil_append]
  rw [t2]
  have J2 : JI2 h2 S' sv' Z' F' := ⟨hP1.top (fun j hj => hp.fr j (.inl (by omega))), ⟨_, hp.low (fun _ _ _ => rfl)⟩, f1, (hp.fr 88 (.inr (by decide))).trans hf1⟩
  refine v_iload C (oL_law.at 872 rfl) rfl ?_
  refine v_icmp_eqN C (oL_law.at 873 rfl) (tgt := 1514) (by decide) (by omega) (by omega) (fun _ => ?_) (fun hne => absurd rfl hne)
  refine v_iload C (oL_law.at 876 rfl) rfl ?_
  refine v_if_neN C (oL_law.at 877 rfl) (tgt := 1531) (by decide) (by omega) (fun _ => v_goto C (oL_law.at 887 rfl) (tgt := 2096) (by decide) (v_forget _ _ _ _ _ _ _ _ (K h2 S' sv' Z' F' _ J2 ⟨by show z.1 + z'.1 ≤ z.1 + 1; omega, by show z.2 + z'.2 ≤ z.2 + 6; omega⟩))) (fun hr0 => ?_)
  refine v_aload_n C (oL_law.at 878 rfl) rfl ?_
  refine v_iconst C (oL_law.at 879 rfl) (v := nI 0) rfl ?_
  refine v_lald C (oL_law.at 880 rfl) ((hp.fr 88 (.inr (by decide))).trans hf1) (by decide) rfl (j := 0) (by decide) (hy1 hr0) ?_
  refine v_iload C (oL_law.at 881 rfl) rfl ?_
  refine v_i2l C (oL_law.at 882 rfl) ?_
  refine v_lcmp C (oL_law.at 883 rfl) ?_
  exact v_if_eq C (oL_law.at 884 rfl) (tgt := 1531) (by decide) (fun _ => v_goto C (oL_law.at 887 rfl) (tgt := 2096) (by decide) (v_forget _ _ _ _ _ _ _ _ (K h2 S' sv' Z' F' _ J2 ⟨by show z.1 + z'.1 ≤ z.1 + 1; omega, by show z.2 + z'.2 ≤ z.2 + 6; omega⟩))) (fun hne => absurd (cmp_self _) hne)
theorem lc_mostPreimages {X : CT} {o : Oc} {P : Wt → Hp → Prop} (C : Cx X mL_law [] 10 zL o P) {z : Nat × Nat} {w : Wt} {h : Hp} {N i : Nat} {xs : Nat → Int32} {S Z : Sc} {sv : Bool} {F : Sf} (hs : SC X w N xs) (hN : N ≤ 2560) (hi : i + 5 ≤ N) (hz : z.1 + 1 ≤ 603072 ∧ z.2 + 6 ≤ 7157866) (hJ : JI2 h S sv Z F) (K : ∀ h' S' sv' Z' F' z', JI2 h' S' sv' Z' F' → z'.1 ≤ z.1 + 1 ∧ z'.2 ≤ z.2 + 6 → V X z' w h' 2096 (LL i) []) : V X z w h 1534 (LL i) [] := by
  obtain ⟨th, hR⟩ := hJ.2.1
  obtain ⟨f, hf⟩ := hJ.2.2
  obtain ⟨S', sv', Z', F', o', z', r, y, j8, j9, hr4, hc⟩ := jm_mostPreimages (w := w) (S := S) (sv := sv) (Z := Z) (F := F) (x := xs (i + 1))
  obtain ⟨d8, P8, hd8, c8, q8⟩ := j8 h hJ.1
  have hz' : z'.1 ≤ 1 ∧ z'.2 ≤ 6 := by rcases hc with ⟨-, -, rfl⟩ | ⟨E, -, -, rfl⟩ <;> decide
  have hJO : JO rwL_mostPreimages o' z' r f P8 (RW h S' sv' Z' F' r y.toInt64) := by
    rcases hc with ⟨rfl, rfl, rfl⟩ | ⟨E, rfl, hE, rfl⟩
    · exact .inl ⟨y, rfl, rfl, rfl, fun h1 p1 => ⟨((q8 h1 p1).gf 88 (by decide)).trans hf, rw_ok (q8 h1 p1)⟩⟩
    · exact .inr ⟨E, rfl, rfl, hE, fun h1 p1 => rw_thr (q8 h1 p1) hf (fun e => by subst e; simp [rwL_mostPreimages] at hE)⟩
  have cw := xL_mostPreimages hJO hJ.1.ob hd8 c8
  refine v_aload_n C (oL_law.at 888 rfl) rfl ?_
  refine v_aload_n C (oL_law.at 889 rfl) rfl ?_
  refine v_iload C (oL_law.at 890 rfl) rfl ?_
  refine v_iconst C (oL_law.at 891 rfl) (v := nI 1) rfl ?_
  refine v_iaddN C (oL_law.at 892 rfl) ?_
  refine v_sld C hs hN (by omega) (oL_law.at 893 rfl) ?_
  refine v_aload_n C (oL_law.at 894 rfl) rfl ?_
  refine v_callH C (oL_law.at 895 rfl) kL_mostPreimages (tj5 233 (by rfl) rfl) cw rfl rfl rfl ⟨by show z.1 + z'.1 ≤ 603072; omega, by show z.2 + z'.2 ≤ 7157866; omega⟩ rfl rfl (fun _ => rfl) (fun h1 R1 => ?_)
  dsimp only [Option.toList, List.cons_append, List.nil_append]
  obtain ⟨hP1, fr1, f1, hf1, hy1⟩ := R1
  have hR1 := hR.low (h' := h1) (fun j a b => fr1 j (by omega) (by omega))
  obtain ⟨d9, hd9, c9⟩ := j9 h1 _ hR1
  obtain ⟨u1, o1, -⟩ := hR1.o
  refine v_istore C (oL_law.at 896 rfl) rfl ?_
  dsimp only [sto1, sto2, killL]
  refine v_aload_n C (oL_law.at 897 rfl) rfl ?_
  refine v_aload_n C (oL_law.at 898 rfl) rfl ?_
  refine v_iload C (oL_law.at 899 rfl) rfl ?_
  refine v_iconst C (oL_law.at 900 rfl) (v := nI 1) rfl ?_
  refine v_iaddN C (oL_law.at 901 rfl) ?_
  refine v_sld C hs hN (by omega) (oL_law.at 902 rfl) ?_
  refine v_callV C (oL_law.at 903 rfl) vL_205 o1 c9 rfl (blt10 hd9) rfl ⟨Nat.ble_eq_true_of_le (by show z.1 + z'.1 ≤ 603072; omega), Nat.ble_eq_true_of_le (by show z.2 + z'.2 ≤ 7157866; omega)⟩ rfl rfl (fun _ => rfl) (fun h2 hp => ?_)
  dsimp only [Option.toList, List.cons_append, List.nil_append]
  refine v_istore C (oL_law.at 904 rfl) rfl ?_
  dsimp only [sto1, sto2, killL]
  refine v_aload_n C (oL_law.at 905 rfl) rfl ?_
  obtain ⟨u2, o2, t2, -⟩ := hp.o
  refine v_callV C (oL_law.at 906 rfl) vL_122 o2 (k9_thrown o2) rfl rfl rfl ⟨Nat.ble_eq_true_of_le (by show z.1 + z'.1 ≤ 603072; omega), Nat.ble_eq_true_of_le (by show z.2 + z'.2 ≤ 7157866; omega)⟩ rfl rfl (fun _ => rfl) (fun h3 e3 => ?_)
  rw [show h3 = _ from e3]
  dsimp only [Option.toList, List.cons_append, List.nil_append]
  rw [t2]
  have J2 : JI2 h2 S' sv' Z' F' := ⟨hP1.top (fun j hj => hp.fr j (.inl (by omega))), ⟨_, hp.low (fun _ _ _ => rfl)⟩, f1, (hp.fr 88 (.inr (by decide))).trans hf1⟩
  refine v_iload C (oL_law.at 907 rfl) rfl ?_
  refine v_icmp_eqN C (oL_law.at 908 rfl) (tgt := 1570) (by decide) (by omega) (by omega) (fun _ => ?_) (fun hne => absurd rfl hne)
  refine v_iload C (oL_law.at 911 rfl) rfl ?_
  refine v_if_neN C (oL_law.at 912 rfl) (tgt := 1587) (by decide) (by omega) (fun _ => v_goto C (oL_law.at 922 rfl) (tgt := 2096) (by decide) (v_forget _ _ _ _ _ _ _ _ (K h2 S' sv' Z' F' _ J2 ⟨by show z.1 + z'.1 ≤ z.1 + 1; omega, by show z.2 + z'.2 ≤ z.2 + 6; omega⟩))) (fun hr0 => ?_)
  refine v_aload_n C (oL_law.at 913 rfl) rfl ?_
  refine v_iconst C (oL_law.at 914 rfl) (v := nI 0) rfl ?_
  refine v_lald C (oL_law.at 915 rfl) ((hp.fr 88 (.inr (by decide))).trans hf1) (by decide) rfl (j := 0) (by decide) (hy1 hr0) ?_
  refine v_iload C (oL_law.at 916 rfl) rfl ?_
  refine v_i2l C (oL_law.at 917 rfl) ?_
  refine v_lcmp C (oL_law.at 918 rfl) ?_
  exact v_if_eq C (oL_law.at 919 rfl) (tgt := 1587) (by decide) (fun _ => v_goto C (oL_law.at 922 rfl) (tgt := 2096) (by decide) (v_forget _ _ _ _ _ _ _ _ (K h2 S' sv' Z' F' _ J2 ⟨by show z.1 + z'.1 ≤ z.1 + 1; omega, by show z.2 + z'.2 ≤ z.2 + 6; omega⟩))) (fun hne => absurd (cmp_self _) hne)
theorem lc_fixedWords {X : CT} {o : Oc} {P : Wt → Hp → Prop} (C : Cx X mL_law [] 10 zL o P) {z : Nat × Nat} {w : Wt} {h : Hp} {N i : Nat} {xs : Nat → Int32} {S Z : Sc} {sv : Bool} {F : Sf} (hs : SC X w N xs) (hN : N ≤ 2560) (hi : i + 5 ≤ N) (hz : z.1 + 1 ≤ 603072 ∧ z.2 + 6 ≤ 7157866) (hJ : JI2 h S sv Z F) (K : ∀ h' S' sv' Z' F' z', JI2 h' S' sv' Z' F' → z'.1 ≤ z.1 + 1 ∧ z'.2 ≤ z.2 + 6 → V X z' w h' 2096 (LL i) []) : V X z w h 1590 (LL i) [] := by
  obtain ⟨th, hR⟩ := hJ.2.1
  obtain ⟨f, hf⟩ := hJ.2.2
  obtain ⟨S', sv', Z', F', o', z', r, y, j8, j9, hr4, hc⟩ := jm_fixedWords hJ.oks (w := w) (S := S) (sv := sv) (Z := Z) (F := F) (x := xs (i + 1))
  obtain ⟨d8, P8, hd8, c8, q8⟩ := j8 h hJ.1
  have hz' : z'.1 ≤ 1 ∧ z'.2 ≤ 6 := by rcases hc with ⟨-, -, rfl⟩ | ⟨E, -, -, rfl⟩ <;> decide
  have hJO : JO rwL_fixedWords o' z' r f P8 (RW h S' sv' Z' F' r y.toInt64) := by
    rcases hc with ⟨rfl, rfl, rfl⟩ | ⟨E, rfl, hE, rfl⟩
    · exact .inl ⟨y, rfl, rfl, rfl, fun h1 p1 => ⟨((q8 h1 p1).gf 88 (by decide)).trans hf, rw_ok (q8 h1 p1)⟩⟩
    · exact .inr ⟨E, rfl, rfl, hE, fun h1 p1 => rw_thr (q8 h1 p1) hf (fun e => by subst e; simp [rwL_fixedWords] at hE)⟩
  have cw := xL_fixedWords hJO hJ.1.ob hd8 c8
  refine v_aload_n C (oL_law.at 923 rfl) rfl ?_
  refine v_aload_n C (oL_law.at 924 rfl) rfl ?_
  refine v_iload C (oL_law.at 925 rfl) rfl ?_
  refine v_iconst C (oL_law.at 926 rfl) (v := nI 1) rfl ?_
  refine v_iaddN C (oL_law.at 927 rfl) ?_
  refine v_sld C hs hN (by omega) (oL_law.at 928 rfl) ?_
  refine v_aload_n C (oL_law.at 929 rfl) rfl ?_
  refine v_callH C (oL_law.at 930 rfl) kL_fixedWords (tj6 0 (by rfl) rfl) cw rfl rfl rfl ⟨by show z.1 + z'.1 ≤ 603072; omega, by show z.2 + z'.2 ≤ 7157866; omega⟩ rfl rfl (fun _ => rfl) (fun h1 R1 => ?_)
  dsimp only [Option.toList, List.cons_append, List.nil_append]
  obtain ⟨hP1, fr1, f1, hf1, hy1⟩ := R1
  have hR1 := hR.low (h' := h1) (fun j a b => fr1 j (by omega) (by omega))
  obtain ⟨d9, hd9, c9⟩ := j9 h1 _ hR1
  obtain ⟨u1, o1, -⟩ := hR1.o
  refine v_istore C (oL_law.at 931 rfl) rfl ?_
  dsimp only [sto1, sto2, killL]
  refine v_aload_n C (oL_law.at 932 rfl) rfl ?_
  refine v_aload_n C (oL_law.at 933 rfl) rfl ?_
  refine v_iload C (oL_law.at 934 rfl) rfl ?_
  refine v_iconst C (oL_law.at 935 rfl) (v := nI 1) rfl ?_
  refine v_iaddN C (oL_law.at 936 rfl) ?_
  refine v_sld C hs hN (by omega) (oL_law.at 937 rfl) ?_
  refine v_callV C (oL_law.at 938 rfl) vL_208 o1 c9 rfl (blt10 hd9) rfl ⟨Nat.ble_eq_true_of_le (by show z.1 + z'.1 ≤ 603072; omega), Nat.ble_eq_true_of_le (by show z.2 + z'.2 ≤ 7157866; omega)⟩ rfl rfl (fun _ => rfl) (fun h2 hp => ?_)
  dsimp only [Option.toList, List.cons_append, List.nil_append]
  refine v_istore C (oL_law.at 939 rfl) rfl ?_
  dsimp only [sto1, sto2, killL]
  refine v_aload_n C (oL_law.at 940 rfl) rfl ?_
  obtain ⟨u2, o2, t2, -⟩ := hp.o
  refine v_callV C (oL_law.at 941 rfl) vL_122 o2 (k9_thrown o2) rfl rfl rfl ⟨Nat.ble_eq_true_of_le (by show z.1 + z'.1 ≤ 603072; omega), Nat.ble_eq_true_of_le (by show z.2 + z'.2 ≤ 7157866; omega)⟩ rfl rfl (fun _ => rfl) (fun h3 e3 => ?_)
  rw [show h3 = _ from e3]
  dsimp only [Option.toList, List.cons_append, List.nil_append]
  rw [t2]
  have J2 : JI2 h2 S' sv' Z' F' := ⟨hP1.top (fun j hj => hp.fr j (.inl (by omega))), ⟨_, hp.low (fun _ _ _ => rfl)⟩, f1, (hp.fr 88 (.inr (by decide))).trans hf1⟩
  refine v_iload C (oL_law.at 942 rfl) rfl ?_
  refine v_icmp_eqN C (oL_law.at 943 rfl) (tgt := 1626) (by decide) (by omega) (by omega) (fun _ => ?_) (fun hne => absurd rfl hne)
  refine v_iload C (oL_law.at 946 rfl) rfl ?_
  refine v_if_neN C (oL_law.at 947 rfl) (tgt := 1643) (by decide) (by omega) (fun _ => v_goto C (oL_law.at 957 rfl) (tgt := 2096) (by decide) (v_forget _ _ _ _ _ _ _ _ (K h2 S' sv' Z' F' _ J2 ⟨by show z.1 + z'.1 ≤ z.1 + 1; omega, by show z.2 + z'.2 ≤ z.2 + 6; omega⟩))) (fun hr0 => ?_)
  refine v_aload_n C (oL_law.at 948 rfl) rfl ?_
  refine v_iconst C (oL_law.at 949 rfl) (v := nI 0) rfl ?_
  refine v_lald C (oL_law.at 950 rfl) ((hp.fr 88 (.inr (by decide))).trans hf1) (by decide) rfl (j := 0) (by decide) (hy1 hr0) ?_
  refine v_iload C (oL_law.at 951 rfl) rfl ?_
  refine v_i2l C (oL_law.at 952 rfl) ?_
  refine v_lcmp C (oL_law.at 953 rfl) ?_
  exact v_if_eq C (oL_law.at 954 rfl) (tgt := 1643) (by decide) (fun _ => v_goto C (oL_law.at 957 rfl) (tgt := 2096) (by decide) (v_forget _ _ _ _ _ _ _ _ (K h2 S' sv' Z' F' _ J2 ⟨by show z.1 + z'.1 ≤ z.1 + 1; omega, by show z.2 + z'.2 ≤ z.2 + 6; omega⟩))) (fun hne => absurd (cmp_self _) hne)
theorem lc_edge {X : CT} {o : Oc} {P : Wt → Hp → Prop} (C : Cx X mL_law [] 10 zL o P) {z : Nat × Nat} {w : Wt} {h : Hp} {N i : Nat} {xs : Nat → Int32} {S Z : Sc} {sv : Bool} {F : Sf} (hs : SC X w N xs) (hN : N ≤ 2560) (hi : i + 5 ≤ N) (hz : z.1 + 1 ≤ 603072 ∧ z.2 + 6 ≤ 7157866) (hJ : JI2 h S sv Z F) (K : ∀ h' S' sv' Z' F' z', JI2 h' S' sv' Z' F' → z'.1 ≤ z.1 + 1 ∧ z'.2 ≤ z.2 + 6 → V X z' w h' 2096 (LL i) []) : V X z w h 1646 (LL i) [] := by
  obtain ⟨th, hR⟩ := hJ.2.1
  obtain ⟨f, hf⟩ := hJ.2.2
  obtain ⟨S', sv', Z', F', o', z', r, y, j8, j9, hr4, hc⟩ := jm_edge hJ.oks (w := w) (S := S) (sv := sv) (Z := Z) (F := F) (x := xs (i + 1)) (y := xs (i + 2)) (v := xs (i + 3))
  obtain ⟨d8, P8, hd8, c8, q8⟩ := j8 h hJ.1
  have hz' : z'.1 ≤ 1 ∧ z'.2 ≤ 6 := by rcases hc with ⟨-, -, rfl⟩ | ⟨E, -, -, rfl⟩ <;> decide
  have hJO : JO rwL_edge o' z' r f P8 (RW h S' sv' Z' F' r y.toInt64) := by
    rcases hc with ⟨rfl, rfl, rfl⟩ | ⟨E, rfl, hE, rfl⟩
    · exact .inl ⟨y, rfl, rfl, rfl, fun h1 p1 => ⟨((q8 h1 p1).gf 88 (by decide)).trans hf, rw_ok (q8 h1 p1)⟩⟩
    · exact .inr ⟨E, rfl, rfl, hE, fun h1 p1 => rw_thr (q8 h1 p1) hf (fun e => by subst e; simp [rwL_edge] at hE)⟩
  have cw := xL_edge hJO hJ.1.ob hd8 c8
  refine v_aload_n C (oL_law.at 958 rfl) rfl ?_
  refine v_aload_n C (oL_law.at 959 rfl) rfl ?_
  refine v_iload C (oL_law.at 960 rfl) rfl ?_
  refine v_iconst C (oL_law.at 961 rfl) (v := nI 1) rfl ?_
  refine v_iaddN C (oL_law.at 962 rfl) ?_
  refine v_sld C hs hN (by omega) (oL_law.at 963 rfl) ?_
  refine v_aload_n C (oL_law.at 964 rfl) rfl ?_
  refine v_iload C (oL_law.at 965 rfl) rfl ?_
  refine v_iconst C (oL_law.at 966 rfl) (v := nI 2) rfl ?_
  refine v_iaddN C (oL_law.at 967 rfl) ?_
  refine v_sld C hs hN (by omega) (oL_law.at 968 rfl) ?_
  refine v_aload_n C (oL_law.at 969 rfl) rfl ?_
  refine v_iload C (oL_law.at 970 rfl) rfl ?_
  refine v_iconst C (oL_law.at 971 rfl) (v := nI 3) rfl ?_
  refine v_iaddN C (oL_law.at 972 rfl) ?_
  refine v_sld C hs hN (by omega) (oL_law.at 973 rfl) ?_
  refine v_aload_n C (oL_law.at 974 rfl) rfl ?_
  refine v_callH C (oL_law.at 975 rfl) kL_edge (tj6 14 (by rfl) rfl) cw rfl rfl rfl ⟨by show z.1 + z'.1 ≤ 603072; omega, by show z.2 + z'.2 ≤ 7157866; omega⟩ rfl rfl (fun _ => rfl) (fun h1 R1 => ?_)
  dsimp only [Option.toList, List.cons_append, List.nil_append]
  obtain ⟨hP1, fr1, f1, hf1, hy1⟩ := R1
  have hR1 := hR.low (h' := h1) (fun j a b => fr1 j (by omega) (by omega))
  obtain ⟨d9, hd9, c9⟩ := j9 h1 _ hR1
  obtain ⟨u1, o1, -⟩ := hR1.o
  refine v_istore C (oL_law.at 976 rfl) rfl ?_
  dsimp only [sto1, sto2, killL]
  refine v_aload_n C (oL_law.at 977 rfl) rfl ?_
  refine v_aload_n C (oL_law.at 978 rfl) rfl ?_
  refine v_iload C (oL_law.at 979 rfl) rfl ?_
  refine v_iconst C (oL_law.at 980 rfl) (v := nI 1) rfl ?_
  refine v_iaddN C (oL_law.at 981 rfl) ?_
  refine v_sld C hs hN (by omega) (oL_law.at 982 rfl) ?_
  refine v_aload_n C (oL_law.at 983 rfl) rfl ?_
  refine v_iload C (oL_law.at 984 rfl) rfl ?_
  refine v_iconst C (oL_law.at 985 rfl) (v := nI 2) rfl ?_
  refine v_iaddN C (oL_law.at 986 rfl) ?_
  refine v_sld C hs hN (by omega) (oL_law.at 987 rfl) ?_
  refine v_aload_n C (oL_law.at 988 rfl) rfl ?_
  refine v_iload C (oL_law.at 989 rfl) rfl ?_
  refine v_iconst C (oL_law.at 990 rfl) (v := nI 3) rfl ?_
  refine v_iaddN C (oL_law.at 991 rfl) ?_
  refine v_sld C hs hN (by omega) (oL_law.at 992 rfl) ?_
  refine v_callV C (oL_law.at 993 rfl) vL_211 o1 c9 rfl (blt10 hd9) rfl ⟨Nat.ble_eq_true_of_le (by show z.1 + z'.1 ≤ 603072; omega), Nat.ble_eq_true_of_le (by show z.2 + z'.2 ≤ 7157866; omega)⟩ rfl rfl (fun _ => rfl) (fun h2 hp => ?_)
  dsimp only [Option.toList, List.cons_append, List.nil_append]
  refine v_istore C (oL_law.at 994 rfl) rfl ?_
  dsimp only [sto1, sto2, killL]
  refine v_aload_n C (oL_law.at 995 rfl) rfl ?_
  obtain ⟨u2, o2, t2, -⟩ := hp.o
  refine v_callV C (oL_law.at 996 rfl) vL_122 o2 (k9_thrown o2) rfl rfl rfl ⟨Nat.ble_eq_true_of_le (by show z.1 + z'.1 ≤ 603072; omega), Nat.ble_eq_true_of_le (by show z.2 + z'.2 ≤ 7157866; omega)⟩ rfl rfl (fun _ => rfl) (fun h3 e3 => ?_)
  rw [show h3 = _ from e3]
  dsimp only [Option.toList, List.cons_append, List.nil_append]
  rw [t2]
  have J2 : JI2 h2 S' sv' Z' F' := ⟨hP1.top (fun j hj => hp.fr j (.inl (by omega))), ⟨_, hp.low (fun _ _ _ => rfl)⟩, f1, (hp.fr 88 (.inr (by decide))).trans hf1⟩
  refine v_iload C (oL_law.at 997 rfl) rfl ?_
  refine v_icmp_eqN C (oL_law.at 998 rfl) (tgt := 1706) (by decide) (by omega) (by omega) (fun _ => ?_) (fun hne => absurd rfl hne)
  refine v_iload C (oL_law.at 1001 rfl) rfl ?_
  refine v_if_neN C (oL_law.at 1002 rfl) (tgt := 1723) (by decide) (by omega) (fun _ => v_goto C (oL_law.at 1012 rfl) (tgt := 2096) (by decide) (v_forget _ _ _ _ _ _ _ _ (K h2 S' sv' Z' F' _ J2 ⟨by show z.1 + z'.1 ≤ z.1 + 1; omega, by show z.2 + z'.2 ≤ z.2 + 6; omega⟩))) (fun hr0 => ?_)
  refine v_aload_n C (oL_law.at 1003 rfl) rfl ?_
  refine v_iconst C (oL_law.at 1004 rfl) (v := nI 0) rfl ?_
  refine v_lald C (oL_law.at 1005 rfl) ((hp.fr 88 (.inr (by decide))).trans hf1) (by decide) rfl (j := 0) (by decide) (hy1 hr0) ?_
  refine v_iload C (oL_law.at 1006 rfl) rfl ?_
  refine v_i2l C (oL_law.at 1007 rfl) ?_
  refine v_lcmp C (oL_law.at 1008 rfl) ?_
  exact v_if_eq C (oL_law.at 1009 rfl) (tgt := 1723) (by decide) (fun _ => v_goto C (oL_law.at 1012 rfl) (tgt := 2096) (by decide) (v_forget _ _ _ _ _ _ _ _ (K h2 S' sv' Z' F' _ J2 ⟨by show z.1 + z'.1 ≤ z.1 + 1; omega, by show z.2 + z'.2 ≤ z.2 + 6; omega⟩))) (fun hne => absurd (cmp_self _) hne)
theorem lc_subsets {X : CT} {o : Oc} {P : Wt → Hp → Prop} (C : Cx X mL_law [] 10 zL o P) {z : Nat × Nat} {w : Wt} {h : Hp} {N i : Nat} {xs : Nat → Int32} {S Z : Sc} {sv : Bool} {F : Sf} (hs : SC X w N xs) (hN : N ≤ 2560) (hi : i + 5 ≤ N) (hz : z.1 + 1 ≤ 603072 ∧ z.2 + 6 ≤ 7157866) (hJ : JI2 h S sv Z F) (K : ∀ h' S' sv' Z' F' z', JI2 h' S' sv' Z' F' → z'.1 ≤ z.1 + 1 ∧ z'.2 ≤ z.2 + 6 → V X z' w h' 2096 (LL i) []) : V X z w h 1726 (LL i) [] := by
  obtain ⟨th, hR⟩ := hJ.2.1
  obtain ⟨f, hf⟩ := hJ.2.2
  obtain ⟨e0, S', sv', Z', F', r, j8, j9⟩ := jd_subsets (w := w) (sv := sv) hJ.oks
  obtain ⟨d8, P8, hd8, c8, q8⟩ := j8 h hJ.1
  refine v_aload_n C (oL_law.at 1013 rfl) rfl ?_
  refine v_callV C (oL_law.at 1014 rfl) vL_212 hJ.1.ob c8 rfl (blt10 hd8) rfl ⟨Nat.ble_eq_true_of_le (by omega), Nat.ble_eq_true_of_le (by omega)⟩ rfl rfl (fun _ => rfl) (fun h1 p1 => ?_)
  dsimp only [Option.toList, List.cons_append, List.nil_append]
  have hP1 := q8 h1 p1
  have hR1 := hR.low (h' := h1) (fun j a b => hP1.gf j (by omega))
  obtain ⟨d9, hd9, c9⟩ := j9 h1 _ hR1
  obtain ⟨u1, o1, -⟩ := hR1.o
  refine v_aload_n C (oL_law.at 1015 rfl) rfl ?_
  refine v_callV C (oL_law.at 1016 rfl) vL_215 o1 c9 rfl (blt10 hd9) rfl ⟨Nat.ble_eq_true_of_le (by omega), Nat.ble_eq_true_of_le (by omega)⟩ rfl rfl (fun _ => rfl) (fun h2 hp => ?_)
  dsimp only [Option.toList, List.cons_append, List.nil_append]
  exact v_icmp_eq C (oL_law.at 1017 rfl) (tgt := 2096) (by decide) (fun _ => K h2 S' sv' Z' F' _ ⟨hP1.top (fun j hj => hp.fr j (.inl (by omega))), ⟨_, hp.low (fun _ _ _ => rfl)⟩, f, (hp.fr 88 (.inr (by decide))).trans ((hP1.gf 88 (by decide)).trans hf)⟩ ⟨by omega, by omega⟩) (fun hne => absurd rfl hne)
theorem lc_orphans {X : CT} {o : Oc} {P : Wt → Hp → Prop} (C : Cx X mL_law [] 10 zL o P) {z : Nat × Nat} {w : Wt} {h : Hp} {N i : Nat} {xs : Nat → Int32} {S Z : Sc} {sv : Bool} {F : Sf} (hs : SC X w N xs) (hN : N ≤ 2560) (hi : i + 5 ≤ N) (hz : z.1 + 1 ≤ 603072 ∧ z.2 + 6 ≤ 7157866) (hJ : JI2 h S sv Z F) (K : ∀ h' S' sv' Z' F' z', JI2 h' S' sv' Z' F' → z'.1 ≤ z.1 + 1 ∧ z'.2 ≤ z.2 + 6 → V X z' w h' 2096 (LL i) []) : V X z w h 1739 (LL i) [] := by
  obtain ⟨th, hR⟩ := hJ.2.1
  obtain ⟨f, hf⟩ := hJ.2.2
  obtain ⟨S', sv', Z', F', o', z', r, y, j8, j9, hr4, hc⟩ := jm_orphans hJ.oks (w := w) (S := S) (sv := sv) (Z := Z) (F := F) (x := xs (i + 1))
  obtain ⟨d8, P8, hd8, c8, q8⟩ := j8 h hJ.1
  have hz' : z'.1 ≤ 1 ∧ z'.2 ≤ 6 := by rcases hc with ⟨-, -, rfl⟩ | ⟨E, -, -, rfl⟩ <;> decide
  have hJO : JO rwL_orphans o' z' r f P8 (RW h S' sv' Z' F' r y.toInt64) := by
    rcases hc with ⟨rfl, rfl, rfl⟩ | ⟨E, rfl, hE, rfl⟩
    · exact .inl ⟨y, rfl, rfl, rfl, fun h1 p1 => ⟨((q8 h1 p1).gf 88 (by decide)).trans hf, rw_ok (q8 h1 p1)⟩⟩
    · exact .inr ⟨E, rfl, rfl, hE, fun h1 p1 => rw_thr (q8 h1 p1) hf (fun e => by subst e; simp [rwL_orphans] at hE)⟩
  have cw := xL_orphans hJO hJ.1.ob hd8 c8
  refine v_aload_n C (oL_law.at 1020 rfl) rfl ?_
  refine v_aload_n C (oL_law.at 1021 rfl) rfl ?_
  refine v_iload C (oL_law.at 1022 rfl) rfl ?_
  refine v_iconst C (oL_law.at 1023 rfl) (v := nI 1) rfl ?_
  refine v_iaddN C (oL_law.at 1024 rfl) ?_
  refine v_sld C hs hN (by omega) (oL_law.at 1025 rfl) ?_
  refine v_aload_n C (oL_law.at 1026 rfl) rfl ?_
  refine v_callH C (oL_law.at 1027 rfl) kL_orphans (tj6 22 (by rfl) rfl) cw rfl rfl rfl ⟨by show z.1 + z'.1 ≤ 603072; omega, by show z.2 + z'.2 ≤ 7157866; omega⟩ rfl rfl (fun _ => rfl) (fun h1 R1 => ?_)
  dsimp only [Option.toList, List.cons_append, List.nil_append]
  obtain ⟨hP1, fr1, f1, hf1, hy1⟩ := R1
  have hR1 := hR.low (h' := h1) (fun j a b => fr1 j (by omega) (by omega))
  obtain ⟨d9, hd9, c9⟩ := j9 h1 _ hR1
  obtain ⟨u1, o1, -⟩ := hR1.o
  refine v_istore C (oL_law.at 1028 rfl) rfl ?_
  dsimp only [sto1, sto2, killL]
  refine v_aload_n C (oL_law.at 1029 rfl) rfl ?_
  refine v_aload_n C (oL_law.at 1030 rfl) rfl ?_
  refine v_iload C (oL_law.at 1031 rfl) rfl ?_
  refine v_iconst C (oL_law.at 1032 rfl) (v := nI 1) rfl ?_
  refine v_iaddN C (oL_law.at 1033 rfl) ?_
  refine v_sld C hs hN (by omega) (oL_law.at 1034 rfl) ?_
  refine v_callV C (oL_law.at 1035 rfl) vL_218 o1 c9 rfl (blt10 hd9) rfl ⟨Nat.ble_eq_true_of_le (by show z.1 + z'.1 ≤ 603072; omega), Nat.ble_eq_true_of_le (by show z.2 + z'.2 ≤ 7157866; omega)⟩ rfl rfl (fun _ => rfl) (fun h2 hp => ?_)
  dsimp only [Option.toList, List.cons_append, List.nil_append]
  refine v_istore C (oL_law.at 1036 rfl) rfl ?_
  dsimp only [sto1, sto2, killL]
  refine v_aload_n C (oL_law.at 1037 rfl) rfl ?_
  obtain ⟨u2, o2, t2, -⟩ := hp.o
  refine v_callV C (oL_law.at 1038 rfl) vL_122 o2 (k9_thrown o2) rfl rfl rfl ⟨Nat.ble_eq_true_of_le (by show z.1 + z'.1 ≤ 603072; omega), Nat.ble_eq_true_of_le (by show z.2 + z'.2 ≤ 7157866; omega)⟩ rfl rfl (fun _ => rfl) (fun h3 e3 => ?_)
  rw [show h3 = _ from e3]
  dsimp only [Option.toList, List.cons_append, List.nil_append]
  rw [t2]
  have J2 : JI2 h2 S' sv' Z' F' := ⟨hP1.top (fun j hj => hp.fr j (.inl (by omega))), ⟨_, hp.low (fun _ _ _ => rfl)⟩, f1, (hp.fr 88 (.inr (by decide))).trans hf1⟩
  refine v_iload C (oL_law.at 1039 rfl) rfl ?_
  refine v_icmp_eqN C (oL_law.at 1040 rfl) (tgt := 1775) (by decide) (by omega) (by omega) (fun _ => ?_) (fun hne => absurd rfl hne)
  refine v_iload C (oL_law.at 1043 rfl) rfl ?_
  refine v_if_neN C (oL_law.at 1044 rfl) (tgt := 1792) (by decide) (by omega) (fun _ => v_goto C (oL_law.at 1054 rfl) (tgt := 2096) (by decide) (v_forget _ _ _ _ _ _ _ _ (K h2 S' sv' Z' F' _ J2 ⟨by show z.1 + z'.1 ≤ z.1 + 1; omega, by show z.2 + z'.2 ≤ z.2 + 6; omega⟩))) (fun hr0 => ?_)
  refine v_aload_n C (oL_law.at 1045 rfl) rfl ?_
  refine v_iconst C (oL_law.at 1046 rfl) (v := nI 0) rfl ?_
  refine v_lald C (oL_law.at 1047 rfl) ((hp.fr 88 (.inr (by decide))).trans hf1) (by decide) rfl (j := 0) (by decide) (hy1 hr0) ?_
  refine v_iload C (oL_law.at 1048 rfl) rfl ?_
  refine v_i2l C (oL_law.at 1049 rfl) ?_
  refine v_lcmp C (oL_law.at 1050 rfl) ?_
  exact v_if_eq C (oL_law.at 1051 rfl) (tgt := 1792) (by decide) (fun _ => v_goto C (oL_law.at 1054 rfl) (tgt := 2096) (by decide) (v_forget _ _ _ _ _ _ _ _ (K h2 S' sv' Z' F' _ J2 ⟨by show z.1 + z'.1 ≤ z.1 + 1; omega, by show z.2 + z'.2 ≤ z.2 + 6; omega⟩))) (fun hne => absurd (cmp_self _) hne)
theorem lc_shortestOrphan {X : CT} {o : Oc} {P : Wt → Hp → Prop} (C : Cx X mL_law [] 10 zL o P) {z : Nat × Nat} {w : Wt} {h : Hp} {N i : Nat} {xs : Nat → Int32} {S Z : Sc} {sv : Bool} {F : Sf} (hs : SC X w N xs) (hN : N ≤ 2560) (hi : i + 5 ≤ N) (hz : z.1 + 1 ≤ 603072 ∧ z.2 + 6 ≤ 7157866) (hJ : JI2 h S sv Z F) (K : ∀ h' S' sv' Z' F' z', JI2 h' S' sv' Z' F' → z'.1 ≤ z.1 + 1 ∧ z'.2 ≤ z.2 + 6 → V X z' w h' 2096 (LL i) []) : V X z w h 1795 (LL i) [] := by
  obtain ⟨th, hR⟩ := hJ.2.1
  obtain ⟨f, hf⟩ := hJ.2.2
  obtain ⟨S', sv', Z', F', o', z', r, y, j8, j9, hr4, hc⟩ := jm_shortestOrphan hJ.oks (w := w) (S := S) (sv := sv) (Z := Z) (F := F) (x := xs (i + 1))
  obtain ⟨d8, P8, hd8, c8, q8⟩ := j8 h hJ.1
  have hz' : z'.1 ≤ 1 ∧ z'.2 ≤ 6 := by rcases hc with ⟨-, -, rfl⟩ | ⟨E, -, -, rfl⟩ <;> decide
  have hJO : JO rwL_shortestOrphan o' z' r f P8 (RW h S' sv' Z' F' r y.toInt64) := by
    rcases hc with ⟨rfl, rfl, rfl⟩ | ⟨E, rfl, hE, rfl⟩
    · exact .inl ⟨y, rfl, rfl, rfl, fun h1 p1 => ⟨((q8 h1 p1).gf 88 (by decide)).trans hf, rw_ok (q8 h1 p1)⟩⟩
    · exact .inr ⟨E, rfl, rfl, hE, fun h1 p1 => rw_thr (q8 h1 p1) hf (fun e => by subst e; simp [rwL_shortestOrphan] at hE)⟩
  have cw := xL_shortestOrphan hJO hJ.1.ob hd8 c8
  refine v_aload_n C (oL_law.at 1055 rfl) rfl ?_
  refine v_aload_n C (oL_law.at 1056 rfl) rfl ?_
  refine v_iload C (oL_law.at 1057 rfl) rfl ?_
  refine v_iconst C (oL_law.at 1058 rfl) (v := nI 1) rfl ?_
  refine v_iaddN C (oL_law.at 1059 rfl) ?_
  refine v_sld C hs hN (by omega) (oL_law.at 1060 rfl) ?_
  refine v_aload_n C (oL_law.at 1061 rfl) rfl ?_
  refine v_callH C (oL_law.at 1062 rfl) kL_shortestOrphan (tj6 43 (by rfl) rfl) cw rfl rfl rfl ⟨by show z.1 + z'.1 ≤ 603072; omega, by show z.2 + z'.2 ≤ 7157866; omega⟩ rfl rfl (fun _ => rfl) (fun h1 R1 => ?_)
  dsimp only [Option.toList, List.cons_append, List.nil_append]
  obtain ⟨hP1, fr1, f1, hf1, hy1⟩ := R1
  have hR1 := hR.low (h' := h1) (fun j a b => fr1 j (by omega) (by omega))
  obtain ⟨d9, hd9, c9⟩ := j9 h1 _ hR1
  obtain ⟨u1, o1, -⟩ := hR1.o
  refine v_istore C (oL_law.at 1063 rfl) rfl ?_
  dsimp only [sto1, sto2, killL]
  refine v_aload_n C (oL_law.at 1064 rfl) rfl ?_
  refine v_aload_n C (oL_law.at 1065 rfl) rfl ?_
  refine v_iload C (oL_law.at 1066 rfl) rfl ?_
  refine v_iconst C (oL_law.at 1067 rfl) (v := nI 1) rfl ?_
  refine v_iaddN C (oL_law.at 1068 rfl) ?_
  refine v_sld C hs hN (by omega) (oL_law.at 1069 rfl) ?_
  refine v_callV C (oL_law.at 1070 rfl) vL_221 o1 c9 rfl (blt10 hd9) rfl ⟨Nat.ble_eq_true_of_le (by show z.1 + z'.1 ≤ 603072; omega), Nat.ble_eq_true_of_le (by show z.2 + z'.2 ≤ 7157866; omega)⟩ rfl rfl (fun _ => rfl) (fun h2 hp => ?_)
  dsimp only [Option.toList, List.cons_append, List.nil_append]
  refine v_istore C (oL_law.at 1071 rfl) rfl ?_
  dsimp only [sto1, sto2, killL]
  refine v_aload_n C (oL_law.at 1072 rfl) rfl ?_
  obtain ⟨u2, o2, t2, -⟩ := hp.o
  refine v_callV C (oL_law.at 1073 rfl) vL_122 o2 (k9_thrown o2) rfl rfl rfl ⟨Nat.ble_eq_true_of_le (by show z.1 + z'.1 ≤ 603072; omega), Nat.ble_eq_true_of_le (by show z.2 + z'.2 ≤ 7157866; omega)⟩ rfl rfl (fun _ => rfl) (fun h3 e3 => ?_)
  rw [show h3 = _ from e3]
  dsimp only [Option.toList, List.cons_append, List.nil_append]
  rw [t2]
  have J2 : JI2 h2 S' sv' Z' F' := ⟨hP1.top (fun j hj => hp.fr j (.inl (by omega))), ⟨_, hp.low (fun _ _ _ => rfl)⟩, f1, (hp.fr 88 (.inr (by decide))).trans hf1⟩
  refine v_iload C (oL_law.at 1074 rfl) rfl ?_
  refine v_icmp_eqN C (oL_law.at 1075 rfl) (tgt := 1831) (by decide) (by omega) (by omega) (fun _ => ?_) (fun hne => absurd rfl hne)
  refine v_iload C (oL_law.at 1078 rfl) rfl ?_
  refine v_if_neN C (oL_law.at 1079 rfl) (tgt := 1848) (by decide) (by omega) (fun _ => v_goto C (oL_law.at 1089 rfl) (tgt := 2096) (by decide) (v_forget _ _ _ _ _ _ _ _ (K h2 S' sv' Z' F' _ J2 ⟨by show z.1 + z'.1 ≤ z.1 + 1; omega, by show z.2 + z'.2 ≤ z.2 + 6; omega⟩))) (fun hr0 => ?_)
  refine v_aload_n C (oL_law.at 1080 rfl) rfl ?_
  refine v_iconst C (oL_law.at 1081 rfl) (v := nI 0) rfl ?_
  refine v_lald C (oL_law.at 1082 rfl) ((hp.fr 88 (.inr (by decide))).trans hf1) (by decide) rfl (j := 0) (by decide) (hy1 hr0) ?_
  refine v_iload C (oL_law.at 1083 rfl) rfl ?_
  refine v_i2l C (oL_law.at 1084 rfl) ?_
  refine v_lcmp C (oL_law.at 1085 rfl) ?_
  exact v_if_eq C (oL_law.at 1086 rfl) (tgt := 1848) (by decide) (fun _ => v_goto C (oL_law.at 1089 rfl) (tgt := 2096) (by decide) (v_forget _ _ _ _ _ _ _ _ (K h2 S' sv' Z' F' _ J2 ⟨by show z.1 + z'.1 ≤ z.1 + 1; omega, by show z.2 + z'.2 ≤ z.2 + 6; omega⟩))) (fun hne => absurd (cmp_self _) hne)
theorem lc_has {X : CT} {o : Oc} {P : Wt → Hp → Prop} (C : Cx X mL_law [] 10 zL o P) {z : Nat × Nat} {w : Wt} {h : Hp} {N i : Nat} {xs : Nat → Int32} {S Z : Sc} {sv : Bool} {F : Sf} (hs : SC X w N xs) (hN : N ≤ 2560) (hi : i + 5 ≤ N) (hz : z.1 + 1 ≤ 603072 ∧ z.2 + 6 ≤ 7157866) (hJ : JI2 h S sv Z F) (K : ∀ h' S' sv' Z' F' z', JI2 h' S' sv' Z' F' → z'.1 ≤ z.1 + 1 ∧ z'.2 ≤ z.2 + 6 → V X z' w h' 2096 (LL i) []) : V X z w h 1851 (LL i) [] := by
  obtain ⟨th, hR⟩ := hJ.2.1
  obtain ⟨f, hf⟩ := hJ.2.2
  obtain ⟨S', sv', Z', F', o', z', r, b, j8, j9, hr4, hc⟩ := jm_has hJ.oks (w := w) (S := S) (sv := sv) (Z := Z) (F := F) (x := xs (i + 1))
  obtain ⟨d8, P8, hd8, c8, q8⟩ := j8 h hJ.1
  have hz' : z'.1 ≤ 1 ∧ z'.2 ≤ 6 := by rcases hc with ⟨-, -, rfl⟩ | ⟨E, -, -, rfl⟩ <;> decide
  have hJO : JOB rwL_has o' z' r f P8 (RW h S' sv' Z' F' r (if b then 1 else 0)) := by
    rcases hc with ⟨rfl, rfl, rfl⟩ | ⟨E, rfl, hE, rfl⟩
    · exact .inl ⟨b, rfl, rfl, rfl, fun h1 p1 => ⟨((q8 h1 p1).gf 88 (by decide)).trans hf, rw_ok (q8 h1 p1)⟩⟩
    · exact .inr ⟨E, rfl, rfl, hE, fun h1 p1 => rw_thr (q8 h1 p1) hf (fun e => by subst e; simp [rwL_has] at hE)⟩
  have cw := xL_has hJO hJ.1.ob hd8 c8
  refine v_aload_n C (oL_law.at 1090 rfl) rfl ?_
  refine v_aload_n C (oL_law.at 1091 rfl) rfl ?_
  refine v_iload C (oL_law.at 1092 rfl) rfl ?_
  refine v_iconst C (oL_law.at 1093 rfl) (v := nI 1) rfl ?_
  refine v_iaddN C (oL_law.at 1094 rfl) ?_
  refine v_sld C hs hN (by omega) (oL_law.at 1095 rfl) ?_
  refine v_aload_n C (oL_law.at 1096 rfl) rfl ?_
  refine v_callH C (oL_law.at 1097 rfl) kL_has (tj6 61 (by rfl) rfl) cw rfl rfl rfl ⟨by show z.1 + z'.1 ≤ 603072; omega, by show z.2 + z'.2 ≤ 7157866; omega⟩ rfl rfl (fun _ => rfl) (fun h1 R1 => ?_)
  dsimp only [Option.toList, List.cons_append, List.nil_append]
  obtain ⟨hP1, fr1, f1, hf1, hy1⟩ := R1
  have hR1 := hR.low (h' := h1) (fun j a b => fr1 j (by omega) (by omega))
  obtain ⟨d9, hd9, c9⟩ := j9 h1 _ hR1
  obtain ⟨u1, o1, -⟩ := hR1.o
  refine v_istore C (oL_law.at 1098 rfl) rfl ?_
  dsimp only [sto1, sto2, killL]
  refine v_aload_n C (oL_law.at 1099 rfl) rfl ?_
  refine v_aload_n C (oL_law.at 1100 rfl) rfl ?_
  refine v_iload C (oL_law.at 1101 rfl) rfl ?_
  refine v_iconst C (oL_law.at 1102 rfl) (v := nI 1) rfl ?_
  refine v_iaddN C (oL_law.at 1103 rfl) ?_
  refine v_sld C hs hN (by omega) (oL_law.at 1104 rfl) ?_
  refine v_callV C (oL_law.at 1105 rfl) vL_224 o1 c9 rfl (blt10 hd9) rfl ⟨Nat.ble_eq_true_of_le (by show z.1 + z'.1 ≤ 603072; omega), Nat.ble_eq_true_of_le (by show z.2 + z'.2 ≤ 7157866; omega)⟩ rfl rfl (fun _ => rfl) (fun h2 hp => ?_)
  dsimp only [Option.toList, List.cons_append, List.nil_append]
  refine v_istore C (oL_law.at 1106 rfl) rfl ?_
  dsimp only [sto1, sto2, killL]
  refine v_aload_n C (oL_law.at 1107 rfl) rfl ?_
  obtain ⟨u2, o2, t2, -⟩ := hp.o
  refine v_callV C (oL_law.at 1108 rfl) vL_122 o2 (k9_thrown o2) rfl rfl rfl ⟨Nat.ble_eq_true_of_le (by show z.1 + z'.1 ≤ 603072; omega), Nat.ble_eq_true_of_le (by show z.2 + z'.2 ≤ 7157866; omega)⟩ rfl rfl (fun _ => rfl) (fun h3 e3 => ?_)
  rw [show h3 = _ from e3]
  dsimp only [Option.toList, List.cons_append, List.nil_append]
  rw [t2]
  have J2 : JI2 h2 S' sv' Z' F' := ⟨hP1.top (fun j hj => hp.fr j (.inl (by omega))), ⟨_, hp.low (fun _ _ _ => rfl)⟩, f1, (hp.fr 88 (.inr (by decide))).trans hf1⟩
  refine v_iload C (oL_law.at 1109 rfl) rfl ?_
  refine v_icmp_eqN C (oL_law.at 1110 rfl) (tgt := 1887) (by decide) (by omega) (by omega) (fun _ => ?_) (fun hne => absurd rfl hne)
  refine v_iload C (oL_law.at 1113 rfl) rfl ?_
  refine v_if_neN C (oL_law.at 1114 rfl) (tgt := 1911) (by decide) (by omega) (fun _ => v_goto C (oL_law.at 1127 rfl) (tgt := 2096) (by decide) (v_forget _ _ _ _ _ _ _ _ (K h2 S' sv' Z' F' _ J2 ⟨by show z.1 + z'.1 ≤ z.1 + 1; omega, by show z.2 + z'.2 ≤ z.2 + 6; omega⟩))) (fun hr0 => ?_)
  refine v_aload_n C (oL_law.at 1115 rfl) rfl ?_
  refine v_iconst C (oL_law.at 1116 rfl) (v := nI 0) rfl ?_
  refine v_lald C (oL_law.at 1117 rfl) ((hp.fr 88 (.inr (by decide))).trans hf1) (by decide) rfl (j := 0) (by decide) (hy1 hr0) ?_
  refine v_iload C (oL_law.at 1118 rfl) rfl ?_
  refine v_if_eqB C (oL_law.at 1119 rfl) (tgt := 1904) (by decide) (fun hb => ?_) (fun hb => ?_)
  · subst hb
    refine v_lconst C (oL_law.at 1122 rfl) (v := 0) rfl ?_
    refine v_lcmp C (oL_law.at 1123 rfl) ?_
    exact v_if_eq C (oL_law.at 1124 rfl) (tgt := 1911) (by decide) (fun _ => v_goto C (oL_law.at 1127 rfl) (tgt := 2096) (by decide) (v_forget _ _ _ _ _ _ _ _ (K h2 S' sv' Z' F' _ J2 ⟨by show z.1 + z'.1 ≤ z.1 + 1; omega, by show z.2 + z'.2 ≤ z.2 + 6; omega⟩))) (fun hne => absurd (cmp_self _) hne)
  · subst hb
    refine v_lconst C (oL_law.at 1120 rfl) (v := 1) rfl ?_
    refine v_goto C (oL_law.at 1121 rfl) (tgt := 1905) (by decide) ?_
    refine v_lcmp C (oL_law.at 1123 rfl) ?_
    exact v_if_eq C (oL_law.at 1124 rfl) (tgt := 1911) (by decide) (fun _ => v_goto C (oL_law.at 1127 rfl) (tgt := 2096) (by decide) (v_forget _ _ _ _ _ _ _ _ (K h2 S' sv' Z' F' _ J2 ⟨by show z.1 + z'.1 ≤ z.1 + 1; omega, by show z.2 + z'.2 ≤ z.2 + 6; omega⟩))) (fun hne => absurd (cmp_self _) hne)
theorem lc_cyclicPairs {X : CT} {o : Oc} {P : Wt → Hp → Prop} (C : Cx X mL_law [] 10 zL o P) {z : Nat × Nat} {w : Wt} {h : Hp} {N i : Nat} {xs : Nat → Int32} {S Z : Sc} {sv : Bool} {F : Sf} (hs : SC X w N xs) (hN : N ≤ 2560) (hi : i + 5 ≤ N) (hz : z.1 + 1 ≤ 603072 ∧ z.2 + 6 ≤ 7157866) (hJ : JI2 h S sv Z F) (K : ∀ h' S' sv' Z' F' z', JI2 h' S' sv' Z' F' → z'.1 ≤ z.1 + 1 ∧ z'.2 ≤ z.2 + 6 → V X z' w h' 2096 (LL i) []) : V X z w h 1914 (LL i) [] := by
  obtain ⟨th, hR⟩ := hJ.2.1
  obtain ⟨f, hf⟩ := hJ.2.2
  obtain ⟨S', sv', Z', F', r, j8, j9⟩ := jd_cyclicPairs (w := w) (S := S) (sv := sv) (Z := Z) (F := F) hJ.oks
  obtain ⟨d8, P8, hd8, c8, q8⟩ := j8 h hJ.1
  refine v_aload_n C (oL_law.at 1128 rfl) rfl ?_
  refine v_callV C (oL_law.at 1129 rfl) vL_225 hJ.1.ob c8 rfl (blt10 hd8) rfl ⟨Nat.ble_eq_true_of_le (by omega), Nat.ble_eq_true_of_le (by omega)⟩ rfl rfl (fun _ => rfl) (fun h1 p1 => ?_)
  dsimp only [Option.toList, List.cons_append, List.nil_append]
  have hP1 := q8 h1 p1
  have hR1 := hR.low (h' := h1) (fun j a b => hP1.gf j (by omega))
  obtain ⟨d9, hd9, c9⟩ := j9 h1 _ hR1
  obtain ⟨u1, o1, -⟩ := hR1.o
  refine v_aload_n C (oL_law.at 1130 rfl) rfl ?_
  refine v_callV C (oL_law.at 1131 rfl) vL_228 o1 c9 rfl (blt10 hd9) rfl ⟨Nat.ble_eq_true_of_le (by omega), Nat.ble_eq_true_of_le (by omega)⟩ rfl rfl (fun _ => rfl) (fun h2 hp => ?_)
  dsimp only [Option.toList, List.cons_append, List.nil_append]
  exact v_icmp_eq C (oL_law.at 1132 rfl) (tgt := 2096) (by decide) (fun _ => K h2 S' sv' Z' F' _ ⟨hP1.top (fun j hj => hp.fr j (.inl (by omega))), ⟨_, hp.low (fun _ _ _ => rfl)⟩, f, (hp.fr 88 (.inr (by decide))).trans ((hP1.gf 88 (by decide)).trans hf)⟩ ⟨by omega, by omega⟩) (fun hne => absurd rfl hne)
theorem lc_inverse {X : CT} {o : Oc} {P : Wt → Hp → Prop} (C : Cx X mL_law [] 10 zL o P) {z : Nat × Nat} {w : Wt} {h : Hp} {N i : Nat} {xs : Nat → Int32} {S Z : Sc} {sv : Bool} {F : Sf} (hs : SC X w N xs) (hN : N ≤ 2560) (hi : i + 5 ≤ N) (hz : z.1 + 1 ≤ 603072 ∧ z.2 + 6 ≤ 7157866) (hJ : JI2 h S sv Z F) (K : ∀ h' S' sv' Z' F' z', JI2 h' S' sv' Z' F' → z'.1 ≤ z.1 + 1 ∧ z'.2 ≤ z.2 + 6 → V X z' w h' 2096 (LL i) []) : V X z w h 1927 (LL i) [] := by
  obtain ⟨th, hR⟩ := hJ.2.1
  obtain ⟨f, hf⟩ := hJ.2.2
  obtain ⟨S', sv', Z', F', o', z', r, y, j8, j9, hr4, hc⟩ := jm_inverse (w := w) (S := S) (sv := sv) (Z := Z) (F := F) (x := xs (i + 1))
  obtain ⟨d8, P8, hd8, c8, q8⟩ := j8 h hJ.1
  have hz' : z'.1 ≤ 1 ∧ z'.2 ≤ 6 := by rcases hc with ⟨-, -, rfl⟩ | ⟨E, -, -, rfl⟩ <;> decide
  have hJO : JO rwL_inverse o' z' r f P8 (RW h S' sv' Z' F' r y.toInt64) := by
    rcases hc with ⟨rfl, rfl, rfl⟩ | ⟨E, rfl, hE, rfl⟩
    · exact .inl ⟨y, rfl, rfl, rfl, fun h1 p1 => ⟨((q8 h1 p1).gf 88 (by decide)).trans hf, rw_ok (q8 h1 p1)⟩⟩
    · exact .inr ⟨E, rfl, rfl, hE, fun h1 p1 => rw_thr (q8 h1 p1) hf (fun e => by subst e; simp [rwL_inverse] at hE)⟩
  have cw := xL_inverse hJO hJ.1.ob hd8 c8
  refine v_aload_n C (oL_law.at 1135 rfl) rfl ?_
  refine v_aload_n C (oL_law.at 1136 rfl) rfl ?_
  refine v_iload C (oL_law.at 1137 rfl) rfl ?_
  refine v_iconst C (oL_law.at 1138 rfl) (v := nI 1) rfl ?_
  refine v_iaddN C (oL_law.at 1139 rfl) ?_
  refine v_sld C hs hN (by omega) (oL_law.at 1140 rfl) ?_
  refine v_aload_n C (oL_law.at 1141 rfl) rfl ?_
  refine v_callH C (oL_law.at 1142 rfl) kL_inverse (tj6 86 (by rfl) rfl) cw rfl rfl rfl ⟨by show z.1 + z'.1 ≤ 603072; omega, by show z.2 + z'.2 ≤ 7157866; omega⟩ rfl rfl (fun _ => rfl) (fun h1 R1 => ?_)
  dsimp only [Option.toList, List.cons_append, List.nil_append]
  obtain ⟨hP1, fr1, f1, hf1, hy1⟩ := R1
  have hR1 := hR.low (h' := h1) (fun j a b => fr1 j (by omega) (by omega))
  obtain ⟨d9, hd9, c9⟩ := j9 h1 _ hR1
  obtain ⟨u1, o1, -⟩ := hR1.o
  refine v_istore C (oL_law.at 1143 rfl) rfl ?_
  dsimp only [sto1, sto2, killL]
  refine v_aload_n C (oL_law.at 1144 rfl) rfl ?_
  refine v_aload_n C (oL_law.at 1145 rfl) rfl ?_
  refine v_iload C (oL_law.at 1146 rfl) rfl ?_
  refine v_iconst C (oL_law.at 1147 rfl) (v := nI 1) rfl ?_
  refine v_iaddN C (oL_law.at 1148 rfl) ?_
  refine v_sld C hs hN (by omega) (oL_law.at 1149 rfl) ?_
  refine v_callV C (oL_law.at 1150 rfl) vL_231 o1 c9 rfl (blt10 hd9) rfl ⟨Nat.ble_eq_true_of_le (by show z.1 + z'.1 ≤ 603072; omega), Nat.ble_eq_true_of_le (by show z.2 + z'.2 ≤ 7157866; omega)⟩ rfl rfl (fun _ => rfl) (fun h2 hp => ?_)
  dsimp only [Option.toList, List.cons_append, List.nil_append]
  refine v_istore C (oL_law.at 1151 rfl) rfl ?_
  dsimp only [sto1, sto2, killL]
  refine v_aload_n C (oL_law.at 1152 rfl) rfl ?_
  obtain ⟨u2, o2, t2, -⟩ := hp.o
  refine v_callV C (oL_law.at 1153 rfl) vL_122 o2 (k9_thrown o2) rfl rfl rfl ⟨Nat.ble_eq_true_of_le (by show z.1 + z'.1 ≤ 603072; omega), Nat.ble_eq_true_of_le (by show z.2 + z'.2 ≤ 7157866; omega)⟩ rfl rfl (fun _ => rfl) (fun h3 e3 => ?_)
  rw [show h3 = _ from e3]
  dsimp only [Option.toList, List.cons_append, List.nil_append]
  rw [t2]
  have J2 : JI2 h2 S' sv' Z' F' := ⟨hP1.top (fun j hj => hp.fr j (.inl (by omega))), ⟨_, hp.low (fun _ _ _ => rfl)⟩, f1, (hp.fr 88 (.inr (by decide))).trans hf1⟩
  refine v_iload C (oL_law.at 1154 rfl) rfl ?_
  refine v_icmp_eqN C (oL_law.at 1155 rfl) (tgt := 1963) (by decide) (by omega) (by omega) (fun _ => ?_) (fun hne => absurd rfl hne)
  refine v_iload C (oL_law.at 1158 rfl) rfl ?_
  refine v_if_neN C (oL_law.at 1159 rfl) (tgt := 1980) (by decide) (by omega) (fun _ => v_goto C (oL_law.at 1169 rfl) (tgt := 2096) (by decide) (v_forget _ _ _ _ _ _ _ _ (K h2 S' sv' Z' F' _ J2 ⟨by show z.1 + z'.1 ≤ z.1 + 1; omega, by show z.2 + z'.2 ≤ z.2 + 6; omega⟩))) (fun hr0 => ?_)
  refine v_aload_n C (oL_law.at 1160 rfl) rfl ?_
  refine v_iconst C (oL_law.at 1161 rfl) (v := nI 0) rfl ?_
  refine v_lald C (oL_law.at 1162 rfl) ((hp.fr 88 (.inr (by decide))).trans hf1) (by decide) rfl (j := 0) (by decide) (hy1 hr0) ?_
  refine v_iload C (oL_law.at 1163 rfl) rfl ?_
  refine v_i2l C (oL_law.at 1164 rfl) ?_
  refine v_lcmp C (oL_law.at 1165 rfl) ?_
  exact v_if_eq C (oL_law.at 1166 rfl) (tgt := 1980) (by decide) (fun _ => v_goto C (oL_law.at 1169 rfl) (tgt := 2096) (by decide) (v_forget _ _ _ _ _ _ _ _ (K h2 S' sv' Z' F' _ J2 ⟨by show z.1 + z'.1 ≤ z.1 + 1; omega, by show z.2 + z'.2 ≤ z.2 + 6; omega⟩))) (fun hne => absurd (cmp_self _) hne)
theorem lc_inverseOutput {X : CT} {o : Oc} {P : Wt → Hp → Prop} (C : Cx X mL_law [] 10 zL o P) {z : Nat × Nat} {w : Wt} {h : Hp} {N i : Nat} {xs : Nat → Int32} {S Z : Sc} {sv : Bool} {F : Sf} (hs : SC X w N xs) (hN : N ≤ 2560) (hi : i + 5 ≤ N) (hz : z.1 + 1 ≤ 603072 ∧ z.2 + 6 ≤ 7157866) (hJ : JI2 h S sv Z F) (K : ∀ h' S' sv' Z' F' z', JI2 h' S' sv' Z' F' → z'.1 ≤ z.1 + 1 ∧ z'.2 ≤ z.2 + 6 → V X z' w h' 2096 (LL i) []) : V X z w h 1983 (LL i) [] := by
  obtain ⟨th, hR⟩ := hJ.2.1
  obtain ⟨f, hf⟩ := hJ.2.2
  obtain ⟨S', sv', Z', F', o', z', r, y, j8, j9, hr4, hc⟩ := jm_inverseOutput hJ.oks (w := w) (S := S) (sv := sv) (Z := Z) (F := F) (x := xs (i + 1))
  obtain ⟨d8, P8, hd8, c8, q8⟩ := j8 h hJ.1
  have hz' : z'.1 ≤ 1 ∧ z'.2 ≤ 6 := by rcases hc with ⟨-, -, rfl⟩ | ⟨E, -, -, rfl⟩ <;> decide
  have hJO : JO rwL_inverseOutput o' z' r f P8 (RW h S' sv' Z' F' r y.toInt64) := by
    rcases hc with ⟨rfl, rfl, rfl⟩ | ⟨E, rfl, hE, rfl⟩
    · exact .inl ⟨y, rfl, rfl, rfl, fun h1 p1 => ⟨((q8 h1 p1).gf 88 (by decide)).trans hf, rw_ok (q8 h1 p1)⟩⟩
    · exact .inr ⟨E, rfl, rfl, hE, fun h1 p1 => rw_thr (q8 h1 p1) hf (fun e => by subst e; simp [rwL_inverseOutput] at hE)⟩
  have cw := xL_inverseOutput hJO hJ.1.ob hd8 c8
  refine v_aload_n C (oL_law.at 1170 rfl) rfl ?_
  refine v_aload_n C (oL_law.at 1171 rfl) rfl ?_
  refine v_iload C (oL_law.at 1172 rfl) rfl ?_
  refine v_iconst C (oL_law.at 1173 rfl) (v := nI 1) rfl ?_
  refine v_iaddN C (oL_law.at 1174 rfl) ?_
  refine v_sld C hs hN (by omega) (oL_law.at 1175 rfl) ?_
  refine v_aload_n C (oL_law.at 1176 rfl) rfl ?_
  refine v_callH C (oL_law.at 1177 rfl) kL_inverseOutput (tj6 122 (by rfl) rfl) cw rfl rfl rfl ⟨by show z.1 + z'.1 ≤ 603072; omega, by show z.2 + z'.2 ≤ 7157866; omega⟩ rfl rfl (fun _ => rfl) (fun h1 R1 => ?_)
  dsimp only [Option.toList, List.cons_append, List.nil_append]
  obtain ⟨hP1, fr1, f1, hf1, hy1⟩ := R1
  have hR1 := hR.low (h' := h1) (fun j a b => fr1 j (by omega) (by omega))
  obtain ⟨d9, hd9, c9⟩ := j9 h1 _ hR1
  obtain ⟨u1, o1, -⟩ := hR1.o
  refine v_istore C (oL_law.at 1178 rfl) rfl ?_
  dsimp only [sto1, sto2, killL]
  refine v_aload_n C (oL_law.at 1179 rfl) rfl ?_
  refine v_aload_n C (oL_law.at 1180 rfl) rfl ?_
  refine v_iload C (oL_law.at 1181 rfl) rfl ?_
  refine v_iconst C (oL_law.at 1182 rfl) (v := nI 1) rfl ?_
  refine v_iaddN C (oL_law.at 1183 rfl) ?_
  refine v_sld C hs hN (by omega) (oL_law.at 1184 rfl) ?_
  refine v_callV C (oL_law.at 1185 rfl) vL_234 o1 c9 rfl (blt10 hd9) rfl ⟨Nat.ble_eq_true_of_le (by show z.1 + z'.1 ≤ 603072; omega), Nat.ble_eq_true_of_le (by show z.2 + z'.2 ≤ 7157866; omega)⟩ rfl rfl (fun _ => rfl) (fun h2 hp => ?_)
  dsimp only [Option.toList, List.cons_append, List.nil_append]
  refine v_istore C (oL_law.at 1186 rfl) rfl ?_
  dsimp only [sto1, sto2, killL]
  refine v_aload_n C (oL_law.at 1187 rfl) rfl ?_
  obtain ⟨u2, o2, t2, -⟩ := hp.o
  refine v_callV C (oL_law.at 1188 rfl) vL_122 o2 (k9_thrown o2) rfl rfl rfl ⟨Nat.ble_eq_true_of_le (by show z.1 + z'.1 ≤ 603072; omega), Nat.ble_eq_true_of_le (by show z.2 + z'.2 ≤ 7157866; omega)⟩ rfl rfl (fun _ => rfl) (fun h3 e3 => ?_)
  rw [show h3 = _ from e3]
  dsimp only [Option.toList, List.cons_append, List.nil_append]
  rw [t2]
  have J2 : JI2 h2 S' sv' Z' F' := ⟨hP1.top (fun j hj => hp.fr j (.inl (by omega))), ⟨_, hp.low (fun _ _ _ => rfl)⟩, f1, (hp.fr 88 (.inr (by decide))).trans hf1⟩
  refine v_iload C (oL_law.at 1189 rfl) rfl ?_
  refine v_icmp_eqN C (oL_law.at 1190 rfl) (tgt := 2019) (by decide) (by omega) (by omega) (fun _ => ?_) (fun hne => absurd rfl hne)
  refine v_iload C (oL_law.at 1193 rfl) rfl ?_
  refine v_if_neN C (oL_law.at 1194 rfl) (tgt := 2036) (by decide) (by omega) (fun _ => v_goto C (oL_law.at 1204 rfl) (tgt := 2096) (by decide) (v_forget _ _ _ _ _ _ _ _ (K h2 S' sv' Z' F' _ J2 ⟨by show z.1 + z'.1 ≤ z.1 + 1; omega, by show z.2 + z'.2 ≤ z.2 + 6; omega⟩))) (fun hr0 => ?_)
  refine v_aload_n C (oL_law.at 1195 rfl) rfl ?_
  refine v_iconst C (oL_law.at 1196 rfl) (v := nI 0) rfl ?_
  refine v_lald C (oL_law.at 1197 rfl) ((hp.fr 88 (.inr (by decide))).trans hf1) (by decide) rfl (j := 0) (by decide) (hy1 hr0) ?_
  refine v_iload C (oL_law.at 1198 rfl) rfl ?_
  refine v_i2l C (oL_law.at 1199 rfl) ?_
  refine v_lcmp C (oL_law.at 1200 rfl) ?_
  exact v_if_eq C (oL_law.at 1201 rfl) (tgt := 2036) (by decide) (fun _ => v_goto C (oL_law.at 1204 rfl) (tgt := 2096) (by decide) (v_forget _ _ _ _ _ _ _ _ (K h2 S' sv' Z' F' _ J2 ⟨by show z.1 + z'.1 ≤ z.1 + 1; omega, by show z.2 + z'.2 ≤ z.2 + 6; omega⟩))) (fun hne => absurd (cmp_self _) hne)
theorem lc_save {X : CT} {o : Oc} {P : Wt → Hp → Prop} (C : Cx X mL_law [] 10 zL o P) {z : Nat × Nat} {w : Wt} {h : Hp} {N i : Nat} {xs : Nat → Int32} {S Z : Sc} {sv : Bool} {F : Sf} (hs : SC X w N xs) (hN : N ≤ 2560) (hi : i + 5 ≤ N) (hz : z.1 + 1 ≤ 603072 ∧ z.2 + 6 ≤ 7157866) (hJ : JI2 h S sv Z F) (K : ∀ h' S' sv' Z' F' z', JI2 h' S' sv' Z' F' → z'.1 ≤ z.1 + 1 ∧ z'.2 ≤ z.2 + 6 → V X z' w h' 2096 (LL i) []) : V X z w h 2039 (LL i) [] := by
  obtain ⟨th, hR⟩ := hJ.2.1
  obtain ⟨f, hf⟩ := hJ.2.2
  obtain ⟨S', sv', Z', F', r, j8, j9⟩ := jd_save (w := w) (S := S) (sv := sv) (Z := Z) (F := F)
  obtain ⟨d8, P8, hd8, c8, q8⟩ := j8 h hJ.1
  refine v_aload_n C (oL_law.at 1205 rfl) rfl ?_
  refine v_callV C (oL_law.at 1206 rfl) vL_235 hJ.1.ob c8 rfl (blt10 hd8) rfl ⟨Nat.ble_eq_true_of_le (by omega), Nat.ble_eq_true_of_le (by omega)⟩ rfl rfl (fun _ => rfl) (fun h1 p1 => ?_)
  dsimp only [Option.toList, List.cons_append, List.nil_append]
  have hP1 := q8 h1 p1
  have hR1 := hR.low (h' := h1) (fun j a b => hP1.gf j (by omega))
  obtain ⟨d9, hd9, c9⟩ := j9 h1 _ hR1
  obtain ⟨u1, o1, -⟩ := hR1.o
  refine v_aload_n C (oL_law.at 1207 rfl) rfl ?_
  refine v_callV C (oL_law.at 1208 rfl) vL_238 o1 c9 rfl (blt10 hd9) rfl ⟨Nat.ble_eq_true_of_le (by omega), Nat.ble_eq_true_of_le (by omega)⟩ rfl rfl (fun _ => rfl) (fun h2 hp => ?_)
  dsimp only [Option.toList, List.cons_append, List.nil_append]
  refine v_lcmp C (oL_law.at 1209 rfl) ?_
  exact v_if_eq C (oL_law.at 1210 rfl) (tgt := 2096) (by decide) (fun _ => K h2 S' sv' Z' F' _ ⟨hP1.top (fun j hj => hp.fr j (.inl (by omega))), ⟨_, hp.low (fun _ _ _ => rfl)⟩, f, (hp.fr 88 (.inr (by decide))).trans ((hP1.gf 88 (by decide)).trans hf)⟩ ⟨by omega, by omega⟩) (fun hne => absurd (cmp_self _) hne)
theorem lc_restore {X : CT} {o : Oc} {P : Wt → Hp → Prop} (C : Cx X mL_law [] 10 zL o P) {z : Nat × Nat} {w : Wt} {h : Hp} {N i : Nat} {xs : Nat → Int32} {S Z : Sc} {sv : Bool} {F : Sf} (hs : SC X w N xs) (hN : N ≤ 2560) (hi : i + 5 ≤ N) (hz : z.1 + 1 ≤ 603072 ∧ z.2 + 6 ≤ 7157866) (hJ : JI2 h S sv Z F) (K : ∀ h' S' sv' Z' F' z', JI2 h' S' sv' Z' F' → z'.1 ≤ z.1 + 1 ∧ z'.2 ≤ z.2 + 6 → V X z' w h' 2096 (LL i) []) : V X z w h 2053 (LL i) [] := by
  obtain ⟨th, hR⟩ := hJ.2.1
  obtain ⟨f, hf⟩ := hJ.2.2
  obtain ⟨S', sv', Z', F', o', z', r, y, j8, j9, hr4, hc⟩ := jm_restore (w := w) (S := S) (sv := sv) (Z := Z) (F := F) 
  obtain ⟨d8, P8, hd8, c8, q8⟩ := j8 h hJ.1
  have hz' : z'.1 ≤ 1 ∧ z'.2 ≤ 6 := by rcases hc with ⟨-, -, rfl⟩ | ⟨E, -, -, rfl⟩ <;> decide
  have hJO : JOL rwL_restore o' z' r f P8 (RW h S' sv' Z' F' r y) := by
    rcases hc with ⟨rfl, rfl, rfl⟩ | ⟨E, rfl, hE, rfl⟩
    · exact .inl ⟨y, rfl, rfl, rfl, fun h1 p1 => ⟨((q8 h1 p1).gf 88 (by decide)).trans hf, rw_ok (q8 h1 p1)⟩⟩
    · exact .inr ⟨E, rfl, rfl, hE, fun h1 p1 => rw_thr (q8 h1 p1) hf (fun e => by subst e; simp [rwL_restore] at hE)⟩
  have cw := xL_restore hJO hJ.1.ob hd8 c8
  refine v_aload_n C (oL_law.at 1213 rfl) rfl ?_
  refine v_aload_n C (oL_law.at 1214 rfl) rfl ?_
  refine v_callH C (oL_law.at 1215 rfl) kL_restore (tj6 135 (by rfl) rfl) cw rfl rfl rfl ⟨by show z.1 + z'.1 ≤ 603072; omega, by show z.2 + z'.2 ≤ 7157866; omega⟩ rfl rfl (fun _ => rfl) (fun h1 R1 => ?_)
  dsimp only [Option.toList, List.cons_append, List.nil_append]
  obtain ⟨hP1, fr1, f1, hf1, hy1⟩ := R1
  have hR1 := hR.low (h' := h1) (fun j a b => fr1 j (by omega) (by omega))
  obtain ⟨d9, hd9, c9⟩ := j9 h1 _ hR1
  obtain ⟨u1, o1, -⟩ := hR1.o
  refine v_istore C (oL_law.at 1216 rfl) rfl ?_
  dsimp only [sto1, sto2, killL]
  refine v_aload_n C (oL_law.at 1217 rfl) rfl ?_
  refine v_callV C (oL_law.at 1218 rfl) vL_241 o1 c9 rfl (blt10 hd9) rfl ⟨Nat.ble_eq_true_of_le (by show z.1 + z'.1 ≤ 603072; omega), Nat.ble_eq_true_of_le (by show z.2 + z'.2 ≤ 7157866; omega)⟩ rfl rfl (fun _ => rfl) (fun h2 hp => ?_)
  dsimp only [Option.toList, List.cons_append, List.nil_append]
  refine v_lstore C (oL_law.at 1219 rfl) rfl ?_
  dsimp only [sto1, sto2, killL]
  refine v_aload_n C (oL_law.at 1220 rfl) rfl ?_
  obtain ⟨u2, o2, t2, -⟩ := hp.o
  refine v_callV C (oL_law.at 1221 rfl) vL_122 o2 (k9_thrown o2) rfl rfl rfl ⟨Nat.ble_eq_true_of_le (by show z.1 + z'.1 ≤ 603072; omega), Nat.ble_eq_true_of_le (by show z.2 + z'.2 ≤ 7157866; omega)⟩ rfl rfl (fun _ => rfl) (fun h3 e3 => ?_)
  rw [show h3 = _ from e3]
  dsimp only [Option.toList, List.cons_append, List.nil_append]
  rw [t2]
  have J2 : JI2 h2 S' sv' Z' F' := ⟨hP1.top (fun j hj => hp.fr j (.inl (by omega))), ⟨_, hp.low (fun _ _ _ => rfl)⟩, f1, (hp.fr 88 (.inr (by decide))).trans hf1⟩
  refine v_iload C (oL_law.at 1222 rfl) rfl ?_
  refine v_icmp_eqN C (oL_law.at 1223 rfl) (tgt := 2077) (by decide) (by omega) (by omega) (fun _ => ?_) (fun hne => absurd rfl hne)
  refine v_iload C (oL_law.at 1226 rfl) rfl ?_
  refine v_if_neN C (oL_law.at 1227 rfl) (tgt := 2093) (by decide) (by omega) (fun _ => v_goto C (oL_law.at 1236 rfl) (tgt := 2096) (by decide) (v_forget _ _ _ _ _ _ _ _ (K h2 S' sv' Z' F' _ J2 ⟨by show z.1 + z'.1 ≤ z.1 + 1; omega, by show z.2 + z'.2 ≤ z.2 + 6; omega⟩))) (fun hr0 => ?_)
  refine v_aload_n C (oL_law.at 1228 rfl) rfl ?_
  refine v_iconst C (oL_law.at 1229 rfl) (v := nI 0) rfl ?_
  refine v_lald C (oL_law.at 1230 rfl) ((hp.fr 88 (.inr (by decide))).trans hf1) (by decide) rfl (j := 0) (by decide) (hy1 hr0) ?_
  refine v_lload C (oL_law.at 1231 rfl) rfl ?_
  refine v_lcmp C (oL_law.at 1232 rfl) ?_
  exact v_if_eq C (oL_law.at 1233 rfl) (tgt := 2093) (by decide) (fun _ => v_goto C (oL_law.at 1236 rfl) (tgt := 2096) (by decide) (v_forget _ _ _ _ _ _ _ _ (K h2 S' sv' Z' F' _ J2 ⟨by show z.1 + z'.1 ≤ z.1 + 1; omega, by show z.2 + z'.2 ≤ z.2 + 6; omega⟩))) (fun hne => absurd (cmp_self _) hne)
