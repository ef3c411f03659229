def q_L_law : vm_Y := ("RepeatFreeLaw", cL_law, 8, false, [])
def t_L_law_0 : List (Nat × Instr × Nat) := [(0, .new 8, 3), (3, .dup, 1), (4, .invokespecial 129, 3), (7, .astore_n 1, 1), (8, .new 130, 3), (11, .dup, 1), (12, .invokespecial 132, 3), (15, .astore_n 2, 1), (16, .iconst 1, 1), (17, .newarray .long, 2), (19, .astore_n 3, 1), (20, .iconst 0, 1), (21, .istore 4, 2), (23, .iload 4, 2), (25, .aload_n 0, 1), (26, .arraylength, 1), (27, .bipush 6, 2), (29, .isub, 1), (30, .if_icmp .gt 2775, 3), (33, .aload_n 0, 1), (34, .iload 4, 2), (36, .iaload, 1), (37, .bipush 63, 2), (39, .iand, 1), (40, .tableswitch 2759 0 50 #[220, 293, 318, 362, 406, 419, 444, 500, 544, 557, 570, 583, 639, 652, 677, 745, 801, 814, 882, 895, 908, 964, 1008, 1064, 1077, 1133, 1189, 1269, 1348, 1472, 1563, 1631, 1699, 1755, 1811, 1874, 1942, 2010, 2066, 2110, 2178, 2191, 2271, 2362, 2387, 2400, 2456, 2536, 2591, 2654, 2734], 220), (260, .aload_n 1, 1), (261, .aload_n 0, 1), (262, .iload 4, 2), (264, .iconst 1, 1), (265, .iadd, 1), (266, .iaload, 1), (267, .aload_n 0, 1), (268, .iload 4, 2), (270, .iconst 2, 1), (271, .iadd, 1), (272, .iaload, 1), (273, .aload_n 0, 1), (274, .iload 4, 2), (276, .iconst 3, 1), (277, .iadd, 1), (278, .iaload, 1), (279, .aload_n 0, 1), (280, .iload 4, 2), (282, .iconst 4, 1), (283, .iadd, 1), (284, .iaload, 1), (285, .aload_n 0, 1), (286, .iload 4, 2), (288, .iconst 5, 1), (289, .iadd, 1), (290, .iaload, 1), (291, .invokevirtual 133, 3), (294, .aload_n 2, 1), (295, .aload_n 0, 1), (296, .iload 4, 2), (298, .iconst 1, 1), (299, .iadd, 1), (300, .iaload, 1), (301, .aload_n 0, 1), (302, .iload 4, 2)]
theorem b_L_law_0 : (t_L_law_0.all fun q => decide (decode q_L_law.2.1 q.1 = .ok (q.2.1, q.2.2))) = true := by decide +kernel
def t_L_law_1 : List (Nat × Instr × Nat) := [(304, .iconst 2, 1), (305, .iadd, 1), (306, .iaload, 1), (307, .aload_n 0, 1), (308, .iload 4, 2), (310, .iconst 3, 1), (311, .iadd, 1), (312, .iaload, 1), (313, .aload_n 0, 1), (314, .iload 4, 2), (316, .iconst 4, 1), (317, .iadd, 1), (318, .iaload, 1), (319, .aload_n 0, 1), (320, .iload 4, 2), (322, .iconst 5, 1), (323, .iadd, 1), (324, .iaload, 1), (325, .invokevirtual 137, 3), (328, .if_icmp .eq 2471, 3), (331, .iconst 0, 1), (332, .ireturn, 1), (333, .aload_n 1, 1), (334, .aload_n 0, 1), (335, .iload 4, 2), (337, .iconst 1, 1), (338, .iadd, 1), (339, .iaload, 1), (340, .invokevirtual 138, 3), (343, .aload_n 2, 1), (344, .aload_n 0, 1), (345, .iload 4, 2), (347, .iconst 1, 1), (348, .iadd, 1), (349, .iaload, 1), (350, .invokevirtual 141, 3), (353, .if_icmp .eq 2446, 3), (356, .iconst 0, 1), (357, .ireturn, 1), (358, .aload_n 1, 1), (359, .aload_n 3, 1), (360, .invokestatic 142, 3), (363, .istore 5, 2), (365, .aload_n 2, 1), (366, .invokevirtual 147, 3), (369, .istore 6, 2), (371, .aload_n 2, 1), (372, .invokevirtual 148, 3), (375, .iload 5, 2), (377, .if_icmp .eq 5, 3), (380, .iconst 0, 1), (381, .ireturn, 1), (382, .iload 5, 2), (384, .ifCond .ne 15, 3), (387, .aload_n 3, 1), (388, .iconst 0, 1), (389, .laload, 1), (390, .iload 6, 2), (392, .i2l, 1), (393, .lcmp, 1)]
theorem b_L_law_1 : (t_L_law_1.all fun q => decide (decode q_L_law.2.1 q.1 = .ok (q.2.1, q.2.2))) = true := by decide +kernel
def t_L_law_2 : List (Nat × Instr × Nat) := [(394, .ifCond .eq 5, 3), (397, .iconst 0, 1), (398, .ireturn, 1), (399, .goto 2400, 3), (402, .aload_n 1, 1), (403, .aload_n 3, 1), (404, .invokestatic 151, 3), (407, .istore 5, 2), (409, .aload_n 2, 1), (410, .invokevirtual 153, 3), (413, .istore 6, 2), (415, .aload_n 2, 1), (416, .invokevirtual 148, 3), (419, .iload 5, 2), (421, .if_icmp .eq 5, 3), (424, .iconst 0, 1), (425, .ireturn, 1), (426, .iload 5, 2), (428, .ifCond .ne 15, 3), (431, .aload_n 3, 1), (432, .iconst 0, 1), (433, .laload, 1), (434, .iload 6, 2), (436, .i2l, 1), (437, .lcmp, 1), (438, .ifCond .eq 5, 3), (441, .iconst 0, 1), (442, .ireturn, 1), (443, .goto 2356, 3), (446, .aload_n 1, 1), (447, .invokevirtual 154, 3), (450, .aload_n 2, 1), (451, .invokevirtual 157, 3), (454, .if_icmp .eq 2345, 3), (457, .iconst 0, 1), (458, .ireturn, 1), (459, .aload_n 1, 1), (460, .aload_n 0, 1), (461, .iload 4, 2), (463, .iconst 1, 1), (464, .iadd, 1), (465, .iaload, 1), (466, .invokevirtual 158, 3), (469, .aload_n 2, 1), (470, .aload_n 0, 1), (471, .iload 4, 2), (473, .iconst 1, 1), (474, .iadd, 1), (475, .iaload, 1), (476, .invokevirtual 161, 3), (479, .if_icmp .eq 2320, 3), (482, .iconst 0, 1), (483, .ireturn, 1), (484, .aload_n 1, 1), (485, .aload_n 0, 1), (486, .iload 4, 2), (488, .iconst 1, 1), (489, .iadd, 1), (490, .iaload, 1), (491, .aload_n 3, 1)]
theorem b_L_law_2 : (t_L_law_2.all fun q => decide (decode q_L_law.2.1 q.1 = .ok (q.2.1, q.2.2))) = true := by decide +kernel
def t_L_law_3 : List (Nat × Instr × Nat) := [(492, .invokestatic 162, 3), (495, .istore 5, 2), (497, .aload_n 2, 1), (498, .aload_n 0, 1), (499, .iload 4, 2), (501, .iconst 1, 1), (502, .iadd, 1), (503, .iaload, 1), (504, .invokevirtual 165, 3), (507, .istore 6, 2), (509, .aload_n 2, 1), (510, .invokevirtual 148, 3), (513, .iload 5, 2), (515, .if_icmp .eq 5, 3), (518, .iconst 0, 1), (519, .ireturn, 1), (520, .iload 5, 2), (522, .ifCond .ne 15, 3), (525, .aload_n 3, 1), (526, .iconst 0, 1), (527, .laload, 1), (528, .iload 6, 2), (530, .i2l, 1), (531, .lcmp, 1), (532, .ifCond .eq 5, 3), (535, .iconst 0, 1), (536, .ireturn, 1), (537, .goto 2262, 3), (540, .aload_n 1, 1), (541, .aload_n 3, 1), (542, .invokestatic 166, 3), (545, .istore 5, 2), (547, .aload_n 2, 1), (548, .invokevirtual 168, 3), (551, .istore 6, 2), (553, .aload_n 2, 1), (554, .invokevirtual 148, 3), (557, .iload 5, 2), (559, .if_icmp .eq 5, 3), (562, .iconst 0, 1), (563, .ireturn, 1), (564, .iload 5, 2), (566, .ifCond .ne 15, 3), (569, .aload_n 3, 1), (570, .iconst 0, 1), (571, .laload, 1), (572, .iload 6, 2), (574, .i2l, 1), (575, .lcmp, 1), (576, .ifCond .eq 5, 3), (579, .iconst 0, 1), (580, .ireturn, 1), (581, .goto 2218, 3), (584, .aload_n 1, 1), (585, .invokevirtual 169, 3), (588, .aload_n 2, 1), (589, .invokevirtual 172, 3), (592, .if_icmp .eq 2207, 3), (595, .iconst 0, 1), (596, .ireturn, 1)]
theorem b_L_law_3 : (t_L_law_3.all fun q => decide (decode q_L_law.2.1 q.1 = .ok (q.2.1, q.2.2))) = true := by decide +kernel
def t_L_law_4 : List (Nat × Instr × Nat) := [(597, .aload_n 1, 1), (598, .invokevirtual 173, 3), (601, .aload_n 2, 1), (602, .invokevirtual 177, 3), (605, .if_icmp .eq 2194, 3), (608, .iconst 0, 1), (609, .ireturn, 1), (610, .aload_n 1, 1), (611, .invokevirtual 178, 3), (614, .aload_n 2, 1), (615, .invokevirtual 181, 3), (618, .if_icmp .eq 2181, 3), (621, .iconst 0, 1), (622, .ireturn, 1), (623, .aload_n 1, 1), (624, .aload_n 0, 1), (625, .iload 4, 2), (627, .iconst 1, 1), (628, .iadd, 1), (629, .iaload, 1), (630, .aload_n 3, 1), (631, .invokestatic 182, 3), (634, .istore 5, 2), (636, .aload_n 2, 1), (637, .aload_n 0, 1), (638, .iload 4, 2), (640, .iconst 1, 1), (641, .iadd, 1), (642, .iaload, 1), (643, .invokevirtual 184, 3), (646, .istore 6, 2), (648, .aload_n 2, 1), (649, .invokevirtual 148, 3), (652, .iload 5, 2), (654, .if_icmp .eq 5, 3), (657, .iconst 0, 1), (658, .ireturn, 1), (659, .iload 5, 2), (661, .ifCond .ne 15, 3), (664, .aload_n 3, 1), (665, .iconst 0, 1), (666, .laload, 1), (667, .iload 6, 2), (669, .i2l, 1), (670, .lcmp, 1), (671, .ifCond .eq 5, 3), (674, .iconst 0, 1), (675, .ireturn, 1), (676, .goto 2123, 3), (679, .aload_n 1, 1), (680, .invokevirtual 185, 3), (683, .aload_n 2, 1), (684, .invokevirtual 188, 3), (687, .if_icmp .eq 2112, 3), (690, .iconst 0, 1), (691, .ireturn, 1), (692, .aload_n 1, 1), (693, .aload_n 0, 1), (694, .iload 4, 2), (696, .iconst 1, 1)]
theorem b_L_law_4 : (t_L_law_4.all fun q => decide (decode q_L_law.2.1 q.1 = .ok (q.2.1, q.2.2))) = true := by decide +kernel
def t_L_law_5 : List (Nat × Instr × Nat) := [(697, .iadd, 1), (698, .iaload, 1), (699, .invokevirtual 189, 3), (702, .aload_n 2, 1), (703, .aload_n 0, 1), (704, .iload 4, 2), (706, .iconst 1, 1), (707, .iadd, 1), (708, .iaload, 1), (709, .invokevirtual 192, 3), (712, .if_icmp .eq 2087, 3), (715, .iconst 0, 1), (716, .ireturn, 1), (717, .aload_n 1, 1), (718, .aload_n 0, 1), (719, .iload 4, 2), (721, .iconst 1, 1), (722, .iadd, 1), (723, .iaload, 1), (724, .aload_n 0, 1), (725, .iload 4, 2), (727, .iconst 2, 1), (728, .iadd, 1), (729, .iaload, 1), (730, .aload_n 3, 1), (731, .invokestatic 193, 3), (734, .istore 5, 2), (736, .aload_n 2, 1), (737, .aload_n 0, 1), (738, .iload 4, 2), (740, .iconst 1, 1), (741, .iadd, 1), (742, .iaload, 1), (743, .aload_n 0, 1), (744, .iload 4, 2), (746, .iconst 2, 1), (747, .iadd, 1), (748, .iaload, 1), (749, .invokevirtual 196, 3), (752, .istore 6, 2), (754, .aload_n 2, 1), (755, .invokevirtual 148, 3), (758, .iload 5, 2), (760, .if_icmp .eq 5, 3), (763, .iconst 0, 1), (764, .ireturn, 1), (765, .iload 5, 2), (767, .ifCond .ne 15, 3), (770, .aload_n 3, 1), (771, .iconst 0, 1), (772, .laload, 1), (773, .iload 6, 2), (775, .i2l, 1), (776, .lcmp, 1), (777, .ifCond .eq 5, 3), (780, .iconst 0, 1), (781, .ireturn, 1), (782, .goto 2017, 3), (785, .aload_n 1, 1), (786, .aload_n 0, 1)]
theorem b_L_law_5 : (t_L_law_5.all fun q => decide (decode q_L_law.2.1 q.1 = .ok (q.2.1, q.2.2))) = true := by decide +kernel
def t_L_law_6 : List (Nat × Instr × Nat) := [(787, .iload 4, 2), (789, .iconst 1, 1), (790, .iadd, 1), (791, .iaload, 1), (792, .aload_n 3, 1), (793, .invokestatic 197, 3), (796, .istore 5, 2), (798, .aload_n 2, 1), (799, .aload_n 0, 1), (800, .iload 4, 2), (802, .iconst 1, 1), (803, .iadd, 1), (804, .iaload, 1), (805, .invokevirtual 199, 3), (808, .istore 6, 2), (810, .aload_n 2, 1), (811, .invokevirtual 148, 3), (814, .iload 5, 2), (816, .if_icmp .eq 5, 3), (819, .iconst 0, 1), (820, .ireturn, 1), (821, .iload 5, 2), (823, .ifCond .ne 15, 3), (826, .aload_n 3, 1), (827, .iconst 0, 1), (828, .laload, 1), (829, .iload 6, 2), (831, .i2l, 1), (832, .lcmp, 1), (833, .ifCond .eq 5, 3), (836, .iconst 0, 1), (837, .ireturn, 1), (838, .goto 1961, 3), (841, .aload_n 1, 1), (842, .invokevirtual 200, 3), (845, .aload_n 2, 1), (846, .invokevirtual 203, 3), (849, .if_icmp .eq 1950, 3), (852, .iconst 0, 1), (853, .ireturn, 1), (854, .aload_n 1, 1), (855, .aload_n 0, 1), (856, .iload 4, 2), (858, .iconst 1, 1), (859, .iadd, 1), (860, .iaload, 1), (861, .aload_n 0, 1), (862, .iload 4, 2), (864, .iconst 2, 1), (865, .iadd, 1), (866, .iaload, 1), (867, .aload_n 3, 1), (868, .invokestatic 204, 3), (871, .istore 5, 2), (873, .aload_n 2, 1), (874, .aload_n 0, 1), (875, .iload 4, 2), (877, .iconst 1, 1), (878, .iadd, 1), (879, .iaload, 1)]
theorem b_L_law_6 : (t_L_law_6.all fun q => decide (decode q_L_law.2.1 q.1 = .ok (q.2.1, q.2.2))) = true := by decide +kernel
def t_L_law_7 : List (Nat × Instr × Nat) := [(880, .aload_n 0, 1), (881, .iload 4, 2), (883, .iconst 2, 1), (884, .iadd, 1), (885, .iaload, 1), (886, .invokevirtual 206, 3), (889, .istore 6, 2), (891, .aload_n 2, 1), (892, .invokevirtual 148, 3), (895, .iload 5, 2), (897, .if_icmp .eq 5, 3), (900, .iconst 0, 1), (901, .ireturn, 1), (902, .iload 5, 2), (904, .ifCond .ne 15, 3), (907, .aload_n 3, 1), (908, .iconst 0, 1), (909, .laload, 1), (910, .iload 6, 2), (912, .i2l, 1), (913, .lcmp, 1), (914, .ifCond .eq 5, 3), (917, .iconst 0, 1), (918, .ireturn, 1), (919, .goto 1880, 3), (922, .aload_n 1, 1), (923, .invokevirtual 207, 3), (926, .aload_n 2, 1), (927, .invokevirtual 210, 3), (930, .if_icmp .eq 1869, 3), (933, .iconst 0, 1), (934, .ireturn, 1), (935, .aload_n 1, 1), (936, .invokevirtual 211, 3), (939, .aload_n 2, 1), (940, .invokevirtual 214, 3), (943, .if_icmp .eq 1856, 3), (946, .iconst 0, 1), (947, .ireturn, 1), (948, .aload_n 1, 1), (949, .aload_n 0, 1), (950, .iload 4, 2), (952, .iconst 1, 1), (953, .iadd, 1), (954, .iaload, 1), (955, .aload_n 3, 1), (956, .invokestatic 215, 3), (959, .istore 5, 2), (961, .aload_n 2, 1), (962, .aload_n 0, 1), (963, .iload 4, 2), (965, .iconst 1, 1), (966, .iadd, 1), (967, .iaload, 1), (968, .invokevirtual 217, 3), (971, .istore 6, 2), (973, .aload_n 2, 1), (974, .invokevirtual 148, 3), (977, .iload 5, 2), (979, .if_icmp .eq 5, 3)]
theorem b_L_law_7 : (t_L_law_7.all fun q => decide (decode q_L_law.2.1 q.1 = .ok (q.2.1, q.2.2))) = true := by decide +kernel
def t_L_law_8 : List (Nat × Instr × Nat) := [(982, .iconst 0, 1), (983, .ireturn, 1), (984, .iload 5, 2), (986, .ifCond .ne 15, 3), (989, .aload_n 3, 1), (990, .iconst 0, 1), (991, .laload, 1), (992, .iload 6, 2), (994, .i2l, 1), (995, .lcmp, 1), (996, .ifCond .eq 5, 3), (999, .iconst 0, 1), (1000, .ireturn, 1), (1001, .goto 1798, 3), (1004, .aload_n 1, 1), (1005, .aload_n 3, 1), (1006, .invokestatic 218, 3), (1009, .istore 5, 2), (1011, .aload_n 2, 1), (1012, .invokevirtual 220, 3), (1015, .istore 6, 2), (1017, .aload_n 2, 1), (1018, .invokevirtual 148, 3), (1021, .iload 5, 2), (1023, .if_icmp .eq 5, 3), (1026, .iconst 0, 1), (1027, .ireturn, 1), (1028, .iload 5, 2), (1030, .ifCond .ne 15, 3), (1033, .aload_n 3, 1), (1034, .iconst 0, 1), (1035, .laload, 1), (1036, .iload 6, 2), (1038, .i2l, 1), (1039, .lcmp, 1), (1040, .ifCond .eq 5, 3), (1043, .iconst 0, 1), (1044, .ireturn, 1), (1045, .goto 1754, 3), (1048, .aload_n 1, 1), (1049, .aload_n 0, 1), (1050, .iload 4, 2), (1052, .iconst 1, 1), (1053, .iadd, 1), (1054, .iaload, 1), (1055, .aload_n 3, 1), (1056, .invokestatic 221, 3), (1059, .istore 5, 2), (1061, .aload_n 2, 1), (1062, .aload_n 0, 1), (1063, .iload 4, 2), (1065, .iconst 1, 1), (1066, .iadd, 1), (1067, .iaload, 1), (1068, .invokevirtual 223, 3), (1071, .istore 6, 2), (1073, .aload_n 2, 1), (1074, .invokevirtual 148, 3), (1077, .iload 5, 2), (1079, .if_icmp .eq 5, 3)]
theorem b_L_law_8 : (t_L_law_8.all fun q => decide (decode q_L_law.2.1 q.1 = .ok (q.2.1, q.2.2))) = true := by decide +kernel
def t_L_law_9 : List (Nat × Instr × Nat) := [(1082, .iconst 0, 1), (1083, .ireturn, 1), (1084, .iload 5, 2), (1086, .ifCond .ne 15, 3), (1089, .aload_n 3, 1), (1090, .iconst 0, 1), (1091, .laload, 1), (1092, .iload 6, 2), (1094, .i2l, 1), (1095, .lcmp, 1), (1096, .ifCond .eq 5, 3), (1099, .iconst 0, 1), (1100, .ireturn, 1), (1101, .goto 1698, 3), (1104, .aload_n 1, 1), (1105, .invokevirtual 224, 3), (1108, .aload_n 2, 1), (1109, .invokevirtual 227, 3), (1112, .if_icmp .eq 1687, 3), (1115, .iconst 0, 1), (1116, .ireturn, 1), (1117, .aload_n 1, 1), (1118, .aload_n 0, 1), (1119, .iload 4, 2), (1121, .iconst 1, 1), (1122, .iadd, 1), (1123, .iaload, 1), (1124, .aload_n 3, 1), (1125, .invokestatic 228, 3), (1128, .istore 5, 2), (1130, .aload_n 2, 1), (1131, .aload_n 0, 1), (1132, .iload 4, 2), (1134, .iconst 1, 1), (1135, .iadd, 1), (1136, .iaload, 1), (1137, .invokevirtual 230, 3), (1140, .istore 6, 2), (1142, .aload_n 2, 1), (1143, .invokevirtual 148, 3), (1146, .iload 5, 2), (1148, .if_icmp .eq 5, 3), (1151, .iconst 0, 1), (1152, .ireturn, 1), (1153, .iload 5, 2), (1155, .ifCond .ne 15, 3), (1158, .aload_n 3, 1), (1159, .iconst 0, 1), (1160, .laload, 1), (1161, .iload 6, 2), (1163, .i2l, 1), (1164, .lcmp, 1), (1165, .ifCond .eq 5, 3), (1168, .iconst 0, 1), (1169, .ireturn, 1), (1170, .goto 1629, 3), (1173, .aload_n 1, 1), (1174, .aload_n 0, 1), (1175, .iload 4, 2), (1177, .iconst 1, 1)]
theorem b_L_law_9 : (t_L_law_9.all fun q => decide (decode q_L_law.2.1 q.1 = .ok (q.2.1, q.2.2))) = true := by decide +kernel
def t_L_law_10 : List (Nat × Instr × Nat) := [(1178, .iadd, 1), (1179, .iaload, 1), (1180, .aload_n 3, 1), (1181, .invokestatic 231, 3), (1184, .istore 5, 2), (1186, .aload_n 2, 1), (1187, .aload_n 0, 1), (1188, .iload 4, 2), (1190, .iconst 1, 1), (1191, .iadd, 1), (1192, .iaload, 1), (1193, .invokevirtual 233, 3), (1196, .istore 6, 2), (1198, .aload_n 2, 1), (1199, .invokevirtual 148, 3), (1202, .iload 5, 2), (1204, .if_icmp .eq 5, 3), (1207, .iconst 0, 1), (1208, .ireturn, 1), (1209, .iload 5, 2), (1211, .ifCond .ne 15, 3), (1214, .aload_n 3, 1), (1215, .iconst 0, 1), (1216, .laload, 1), (1217, .iload 6, 2), (1219, .i2l, 1), (1220, .lcmp, 1), (1221, .ifCond .eq 5, 3), (1224, .iconst 0, 1), (1225, .ireturn, 1), (1226, .goto 1573, 3), (1229, .aload_n 1, 1), (1230, .aload_n 0, 1), (1231, .iload 4, 2), (1233, .iconst 1, 1), (1234, .iadd, 1), (1235, .iaload, 1), (1236, .aload_n 0, 1), (1237, .iload 4, 2), (1239, .iconst 2, 1), (1240, .iadd, 1), (1241, .iaload, 1), (1242, .aload_n 0, 1), (1243, .iload 4, 2), (1245, .iconst 3, 1), (1246, .iadd, 1), (1247, .iaload, 1), (1248, .aload_n 3, 1), (1249, .invokestatic 234, 3), (1252, .istore 5, 2), (1254, .aload_n 2, 1), (1255, .aload_n 0, 1), (1256, .iload 4, 2), (1258, .iconst 1, 1), (1259, .iadd, 1), (1260, .iaload, 1), (1261, .aload_n 0, 1), (1262, .iload 4, 2), (1264, .iconst 2, 1), (1265, .iadd, 1)]
theorem b_L_law_10 : (t_L_law_10.all fun q => decide (decode q_L_law.2.1 q.1 = .ok (q.2.1, q.2.2))) = true := by decide +kernel
def t_L_law_11 : List (Nat × Instr × Nat) := [(1266, .iaload, 1), (1267, .aload_n 0, 1), (1268, .iload 4, 2), (1270, .iconst 3, 1), (1271, .iadd, 1), (1272, .iaload, 1), (1273, .invokevirtual 237, 3), (1276, .istore 6, 2), (1278, .aload_n 2, 1), (1279, .invokevirtual 148, 3), (1282, .iload 5, 2), (1284, .if_icmp .eq 5, 3), (1287, .iconst 0, 1), (1288, .ireturn, 1), (1289, .iload 5, 2), (1291, .ifCond .ne 15, 3), (1294, .aload_n 3, 1), (1295, .iconst 0, 1), (1296, .laload, 1), (1297, .iload 6, 2), (1299, .i2l, 1), (1300, .lcmp, 1), (1301, .ifCond .eq 5, 3), (1304, .iconst 0, 1), (1305, .ireturn, 1), (1306, .goto 1493, 3), (1309, .aload_n 1, 1), (1310, .aload_n 0, 1), (1311, .iload 4, 2), (1313, .iconst 1, 1), (1314, .iadd, 1), (1315, .iaload, 1), (1316, .aload_n 0, 1), (1317, .iload 4, 2), (1319, .iconst 2, 1), (1320, .iadd, 1), (1321, .iaload, 1), (1322, .aload_n 0, 1), (1323, .iload 4, 2), (1325, .iconst 3, 1), (1326, .iadd, 1), (1327, .iaload, 1), (1328, .aload_n 3, 1), (1329, .invokestatic 238, 3), (1332, .istore 5, 2), (1334, .aload_n 2, 1), (1335, .aload_n 0, 1), (1336, .iload 4, 2), (1338, .iconst 1, 1), (1339, .iadd, 1), (1340, .iaload, 1), (1341, .aload_n 0, 1), (1342, .iload 4, 2), (1344, .iconst 2, 1), (1345, .iadd, 1), (1346, .iaload, 1), (1347, .aload_n 0, 1), (1348, .iload 4, 2), (1350, .iconst 3, 1), (1351, .iadd, 1)]
theorem b_L_law_11 : (t_L_law_11.all fun q => decide (decode q_L_law.2.1 q.1 = .ok (q.2.1, q.2.2))) = true := by decide +kernel
def t_L_law_12 : List (Nat × Instr × Nat) := [(1352, .iaload, 1), (1353, .invokevirtual 240, 3), (1356, .lstore 6, 2), (1358, .aload_n 2, 1), (1359, .invokevirtual 148, 3), (1362, .iload 5, 2), (1364, .if_icmp .eq 5, 3), (1367, .iconst 0, 1), (1368, .ireturn, 1), (1369, .iload 5, 2), (1371, .ifCond .ne 14, 3), (1374, .aload_n 3, 1), (1375, .iconst 0, 1), (1376, .laload, 1), (1377, .lload 6, 2), (1379, .lcmp, 1), (1380, .ifCond .eq 5, 3), (1383, .iconst 0, 1), (1384, .ireturn, 1), (1385, .goto 1414, 3), (1388, .aload_n 1, 1), (1389, .aload_n 0, 1), (1390, .iload 4, 2), (1392, .iconst 1, 1), (1393, .iadd, 1), (1394, .iaload, 1), (1395, .aload_n 0, 1), (1396, .iload 4, 2), (1398, .iconst 2, 1), (1399, .iadd, 1), (1400, .iaload, 1), (1401, .aload_n 0, 1), (1402, .iload 4, 2), (1404, .iconst 3, 1), (1405, .iadd, 1), (1406, .iaload, 1), (1407, .aload_n 0, 1), (1408, .iload 4, 2), (1410, .iconst 4, 1), (1411, .iadd, 1), (1412, .iaload, 1), (1413, .i2l, 1), (1414, .bipush 32, 2), (1416, .lshl, 1), (1417, .aload_n 0, 1), (1418, .iload 4, 2), (1420, .iconst 5, 1), (1421, .iadd, 1), (1422, .iaload, 1), (1423, .i2l, 1), (1424, .ldc2_w 241, 3), (1427, .land, 1), (1428, .lor, 1), (1429, .aload_n 3, 1), (1430, .invokestatic 243, 3), (1433, .istore 5, 2), (1435, .aload_n 2, 1), (1436, .aload_n 0, 1), (1437, .iload 4, 2), (1439, .iconst 1, 1)]
theorem b_L_law_12 : (t_L_law_12.all fun q => decide (decode q_L_law.2.1 q.1 = .ok (q.2.1, q.2.2))) = true := by decide +kernel
def t_L_law_13 : List (Nat × Instr × Nat) := [(1440, .iadd, 1), (1441, .iaload, 1), (1442, .aload_n 0, 1), (1443, .iload 4, 2), (1445, .iconst 2, 1), (1446, .iadd, 1), (1447, .iaload, 1), (1448, .aload_n 0, 1), (1449, .iload 4, 2), (1451, .iconst 3, 1), (1452, .iadd, 1), (1453, .iaload, 1), (1454, .aload_n 0, 1), (1455, .iload 4, 2), (1457, .iconst 4, 1), (1458, .iadd, 1), (1459, .iaload, 1), (1460, .i2l, 1), (1461, .bipush 32, 2), (1463, .lshl, 1), (1464, .aload_n 0, 1), (1465, .iload 4, 2), (1467, .iconst 5, 1), (1468, .iadd, 1), (1469, .iaload, 1), (1470, .i2l, 1), (1471, .ldc2_w 241, 3), (1474, .land, 1), (1475, .lor, 1), (1476, .invokevirtual 246, 3), (1479, .istore 6, 2), (1481, .aload_n 2, 1), (1482, .invokevirtual 148, 3), (1485, .iload 5, 2), (1487, .if_icmp .eq 5, 3), (1490, .iconst 0, 1), (1491, .ireturn, 1), (1492, .iload 5, 2), (1494, .ifCond .ne 15, 3), (1497, .aload_n 3, 1), (1498, .iconst 0, 1), (1499, .laload, 1), (1500, .iload 6, 2), (1502, .i2l, 1), (1503, .lcmp, 1), (1504, .ifCond .eq 5, 3), (1507, .iconst 0, 1), (1508, .ireturn, 1), (1509, .goto 1290, 3), (1512, .aload_n 1, 1), (1513, .aload_n 0, 1), (1514, .iload 4, 2), (1516, .iconst 1, 1), (1517, .iadd, 1), (1518, .iaload, 1), (1519, .aload_n 0, 1), (1520, .iload 4, 2), (1522, .iconst 2, 1), (1523, .iadd, 1), (1524, .iaload, 1)]
theorem b_L_law_13 : (t_L_law_13.all fun q => decide (decode q_L_law.2.1 q.1 = .ok (q.2.1, q.2.2))) = true := by decide +kernel
def t_L_law_14 : List (Nat × Instr × Nat) := [(1525, .aload_n 0, 1), (1526, .iload 4, 2), (1528, .iconst 3, 1), (1529, .iadd, 1), (1530, .iaload, 1), (1531, .aload_n 0, 1), (1532, .iload 4, 2), (1534, .iconst 4, 1), (1535, .iadd, 1), (1536, .iaload, 1), (1537, .aload_n 3, 1), (1538, .invokestatic 247, 3), (1541, .istore 5, 2), (1543, .aload_n 2, 1), (1544, .aload_n 0, 1), (1545, .iload 4, 2), (1547, .iconst 1, 1), (1548, .iadd, 1), (1549, .iaload, 1), (1550, .aload_n 0, 1), (1551, .iload 4, 2), (1553, .iconst 2, 1), (1554, .iadd, 1), (1555, .iaload, 1), (1556, .aload_n 0, 1), (1557, .iload 4, 2), (1559, .iconst 3, 1), (1560, .iadd, 1), (1561, .iaload, 1), (1562, .aload_n 0, 1), (1563, .iload 4, 2), (1565, .iconst 4, 1), (1566, .iadd, 1), (1567, .iaload, 1), (1568, .invokevirtual 250, 3), (1571, .lstore 6, 2), (1573, .aload_n 2, 1), (1574, .invokevirtual 148, 3), (1577, .iload 5, 2), (1579, .if_icmp .eq 5, 3), (1582, .iconst 0, 1), (1583, .ireturn, 1), (1584, .iload 5, 2), (1586, .ifCond .ne 14, 3), (1589, .aload_n 3, 1), (1590, .iconst 0, 1), (1591, .laload, 1), (1592, .lload 6, 2), (1594, .lcmp, 1), (1595, .ifCond .eq 5, 3), (1598, .iconst 0, 1), (1599, .ireturn, 1), (1600, .goto 1199, 3), (1603, .aload_n 1, 1), (1604, .aload_n 0, 1), (1605, .iload 4, 2), (1607, .iconst 1, 1), (1608, .iadd, 1), (1609, .iaload, 1), (1610, .aload_n 0, 1)]
theorem b_L_law_14 : (t_L_law_14.all fun q => decide (decode q_L_law.2.1 q.1 = .ok (q.2.1, q.2.2))) = true := by decide +kernel
def t_L_law_15 : List (Nat × Instr × Nat) := [(1611, .iload 4, 2), (1613, .iconst 2, 1), (1614, .iadd, 1), (1615, .iaload, 1), (1616, .aload_n 3, 1), (1617, .invokestatic 251, 3), (1620, .istore 5, 2), (1622, .aload_n 2, 1), (1623, .aload_n 0, 1), (1624, .iload 4, 2), (1626, .iconst 1, 1), (1627, .iadd, 1), (1628, .iaload, 1), (1629, .aload_n 0, 1), (1630, .iload 4, 2), (1632, .iconst 2, 1), (1633, .iadd, 1), (1634, .iaload, 1), (1635, .invokevirtual 253, 3), (1638, .istore 6, 2), (1640, .aload_n 2, 1), (1641, .invokevirtual 148, 3), (1644, .iload 5, 2), (1646, .if_icmp .eq 5, 3), (1649, .iconst 0, 1), (1650, .ireturn, 1), (1651, .iload 5, 2), (1653, .ifCond .ne 15, 3), (1656, .aload_n 3, 1), (1657, .iconst 0, 1), (1658, .laload, 1), (1659, .iload 6, 2), (1661, .i2l, 1), (1662, .lcmp, 1), (1663, .ifCond .eq 5, 3), (1666, .iconst 0, 1), (1667, .ireturn, 1), (1668, .goto 1131, 3), (1671, .aload_n 1, 1), (1672, .aload_n 0, 1), (1673, .iload 4, 2), (1675, .iconst 1, 1), (1676, .iadd, 1), (1677, .iaload, 1), (1678, .aload_n 0, 1), (1679, .iload 4, 2), (1681, .iconst 2, 1), (1682, .iadd, 1), (1683, .iaload, 1), (1684, .aload_n 3, 1), (1685, .invokestatic 254, 3), (1688, .istore 5, 2), (1690, .aload_n 2, 1), (1691, .aload_n 0, 1), (1692, .iload 4, 2), (1694, .iconst 1, 1), (1695, .iadd, 1), (1696, .iaload, 1), (1697, .aload_n 0, 1), (1698, .iload 4, 2)]
theorem b_L_law_15 : (t_L_law_15.all fun q => decide (decode q_L_law.2.1 q.1 = .ok (q.2.1, q.2.2))) = true := by decide +kernel
def t_L_law_16 : List (Nat × Instr × Nat) := [(1700, .iconst 2, 1), (1701, .iadd, 1), (1702, .iaload, 1), (1703, .invokevirtual 256, 3), (1706, .istore 6, 2), (1708, .aload_n 2, 1), (1709, .invokevirtual 148, 3), (1712, .iload 5, 2), (1714, .if_icmp .eq 5, 3), (1717, .iconst 0, 1), (1718, .ireturn, 1), (1719, .iload 5, 2), (1721, .ifCond .ne 15, 3), (1724, .aload_n 3, 1), (1725, .iconst 0, 1), (1726, .laload, 1), (1727, .iload 6, 2), (1729, .i2l, 1), (1730, .lcmp, 1), (1731, .ifCond .eq 5, 3), (1734, .iconst 0, 1), (1735, .ireturn, 1), (1736, .goto 1063, 3), (1739, .aload_n 1, 1), (1740, .aload_n 0, 1), (1741, .iload 4, 2), (1743, .iconst 1, 1), (1744, .iadd, 1), (1745, .iaload, 1), (1746, .aload_n 3, 1), (1747, .invokestatic 257, 3), (1750, .istore 5, 2), (1752, .aload_n 2, 1), (1753, .aload_n 0, 1), (1754, .iload 4, 2), (1756, .iconst 1, 1), (1757, .iadd, 1), (1758, .iaload, 1), (1759, .invokevirtual 259, 3), (1762, .istore 6, 2), (1764, .aload_n 2, 1), (1765, .invokevirtual 148, 3), (1768, .iload 5, 2), (1770, .if_icmp .eq 5, 3), (1773, .iconst 0, 1), (1774, .ireturn, 1), (1775, .iload 5, 2), (1777, .ifCond .ne 15, 3), (1780, .aload_n 3, 1), (1781, .iconst 0, 1), (1782, .laload, 1), (1783, .iload 6, 2), (1785, .i2l, 1), (1786, .lcmp, 1), (1787, .ifCond .eq 5, 3), (1790, .iconst 0, 1), (1791, .ireturn, 1), (1792, .goto 1007, 3), (1795, .aload_n 1, 1), (1796, .aload_n 0, 1)]
theorem b_L_law_16 : (t_L_law_16.all fun q => decide (decode q_L_law.2.1 q.1 = .ok (q.2.1, q.2.2))) = true := by decide +kernel
def t_L_law_17 : List (Nat × Instr × Nat) := [(1797, .iload 4, 2), (1799, .iconst 1, 1), (1800, .iadd, 1), (1801, .iaload, 1), (1802, .aload_n 3, 1), (1803, .invokestatic 260, 3), (1806, .istore 5, 2), (1808, .aload_n 2, 1), (1809, .aload_n 0, 1), (1810, .iload 4, 2), (1812, .iconst 1, 1), (1813, .iadd, 1), (1814, .iaload, 1), (1815, .invokevirtual 262, 3), (1818, .istore 6, 2), (1820, .aload_n 2, 1), (1821, .invokevirtual 148, 3), (1824, .iload 5, 2), (1826, .if_icmp .eq 5, 3), (1829, .iconst 0, 1), (1830, .ireturn, 1), (1831, .iload 5, 2), (1833, .ifCond .ne 15, 3), (1836, .aload_n 3, 1), (1837, .iconst 0, 1), (1838, .laload, 1), (1839, .iload 6, 2), (1841, .i2l, 1), (1842, .lcmp, 1), (1843, .ifCond .eq 5, 3), (1846, .iconst 0, 1), (1847, .ireturn, 1), (1848, .goto 951, 3), (1851, .aload_n 1, 1), (1852, .aload_n 0, 1), (1853, .iload 4, 2), (1855, .iconst 1, 1), (1856, .iadd, 1), (1857, .iaload, 1), (1858, .aload_n 3, 1), (1859, .invokestatic 263, 3), (1862, .istore 5, 2), (1864, .aload_n 2, 1), (1865, .aload_n 0, 1), (1866, .iload 4, 2), (1868, .iconst 1, 1), (1869, .iadd, 1), (1870, .iaload, 1), (1871, .invokevirtual 265, 3), (1874, .istore 6, 2), (1876, .aload_n 2, 1), (1877, .invokevirtual 148, 3), (1880, .iload 5, 2), (1882, .if_icmp .eq 5, 3), (1885, .iconst 0, 1), (1886, .ireturn, 1), (1887, .iload 5, 2), (1889, .ifCond .ne 22, 3), (1892, .aload_n 3, 1), (1893, .iconst 0, 1)]
theorem b_L_law_17 : (t_L_law_17.all fun q => decide (decode q_L_law.2.1 q.1 = .ok (q.2.1, q.2.2))) = true := by decide +kernel
def t_L_law_18 : List (Nat × Instr × Nat) := [(1894, .laload, 1), (1895, .iload 6, 2), (1897, .ifCond .eq 7, 3), (1900, .lconst 1, 1), (1901, .goto 4, 3), (1904, .lconst 0, 1), (1905, .lcmp, 1), (1906, .ifCond .eq 5, 3), (1909, .iconst 0, 1), (1910, .ireturn, 1), (1911, .goto 888, 3), (1914, .aload_n 1, 1), (1915, .aload_n 0, 1), (1916, .iload 4, 2), (1918, .iconst 1, 1), (1919, .iadd, 1), (1920, .iaload, 1), (1921, .aload_n 0, 1), (1922, .iload 4, 2), (1924, .iconst 2, 1), (1925, .iadd, 1), (1926, .iaload, 1), (1927, .aload_n 3, 1), (1928, .invokestatic 266, 3), (1931, .istore 5, 2), (1933, .aload_n 2, 1), (1934, .aload_n 0, 1), (1935, .iload 4, 2), (1937, .iconst 1, 1), (1938, .iadd, 1), (1939, .iaload, 1), (1940, .aload_n 0, 1), (1941, .iload 4, 2), (1943, .iconst 2, 1), (1944, .iadd, 1), (1945, .iaload, 1), (1946, .invokevirtual 268, 3), (1949, .istore 6, 2), (1951, .aload_n 2, 1), (1952, .invokevirtual 148, 3), (1955, .iload 5, 2), (1957, .if_icmp .eq 5, 3), (1960, .iconst 0, 1), (1961, .ireturn, 1), (1962, .iload 5, 2), (1964, .ifCond .ne 15, 3), (1967, .aload_n 3, 1), (1968, .iconst 0, 1), (1969, .laload, 1), (1970, .iload 6, 2), (1972, .i2l, 1), (1973, .lcmp, 1), (1974, .ifCond .eq 5, 3), (1977, .iconst 0, 1), (1978, .ireturn, 1), (1979, .goto 820, 3), (1982, .aload_n 1, 1), (1983, .aload_n 0, 1), (1984, .iload 4, 2), (1986, .iconst 1, 1)]
theorem b_L_law_18 : (t_L_law_18.all fun q => decide (decode q_L_law.2.1 q.1 = .ok (q.2.1, q.2.2))) = true := by decide +kernel
def t_L_law_19 : List (Nat × Instr × Nat) := [(1987, .iadd, 1), (1988, .iaload, 1), (1989, .aload_n 0, 1), (1990, .iload 4, 2), (1992, .iconst 2, 1), (1993, .iadd, 1), (1994, .iaload, 1), (1995, .aload_n 3, 1), (1996, .invokestatic 269, 3), (1999, .istore 5, 2), (2001, .aload_n 2, 1), (2002, .aload_n 0, 1), (2003, .iload 4, 2), (2005, .iconst 1, 1), (2006, .iadd, 1), (2007, .iaload, 1), (2008, .aload_n 0, 1), (2009, .iload 4, 2), (2011, .iconst 2, 1), (2012, .iadd, 1), (2013, .iaload, 1), (2014, .invokevirtual 271, 3), (2017, .istore 6, 2), (2019, .aload_n 2, 1), (2020, .invokevirtual 148, 3), (2023, .iload 5, 2), (2025, .if_icmp .eq 5, 3), (2028, .iconst 0, 1), (2029, .ireturn, 1), (2030, .iload 5, 2), (2032, .ifCond .ne 15, 3), (2035, .aload_n 3, 1), (2036, .iconst 0, 1), (2037, .laload, 1), (2038, .iload 6, 2), (2040, .i2l, 1), (2041, .lcmp, 1), (2042, .ifCond .eq 5, 3), (2045, .iconst 0, 1), (2046, .ireturn, 1), (2047, .goto 752, 3), (2050, .aload_n 1, 1), (2051, .aload_n 0, 1), (2052, .iload 4, 2), (2054, .iconst 1, 1), (2055, .iadd, 1), (2056, .iaload, 1), (2057, .aload_n 3, 1), (2058, .invokestatic 272, 3), (2061, .istore 5, 2), (2063, .aload_n 2, 1), (2064, .aload_n 0, 1), (2065, .iload 4, 2), (2067, .iconst 1, 1), (2068, .iadd, 1), (2069, .iaload, 1), (2070, .invokevirtual 274, 3), (2073, .istore 6, 2), (2075, .aload_n 2, 1), (2076, .invokevirtual 148, 3)]
theorem b_L_law_19 : (t_L_law_19.all fun q => decide (decode q_L_law.2.1 q.1 = .ok (q.2.1, q.2.2))) = true := by decide +kernel
def t_L_law_20 : List (Nat × Instr × Nat) := [(2079, .iload 5, 2), (2081, .if_icmp .eq 5, 3), (2084, .iconst 0, 1), (2085, .ireturn, 1), (2086, .iload 5, 2), (2088, .ifCond .ne 15, 3), (2091, .aload_n 3, 1), (2092, .iconst 0, 1), (2093, .laload, 1), (2094, .iload 6, 2), (2096, .i2l, 1), (2097, .lcmp, 1), (2098, .ifCond .eq 5, 3), (2101, .iconst 0, 1), (2102, .ireturn, 1), (2103, .goto 696, 3), (2106, .aload_n 1, 1), (2107, .aload_n 3, 1), (2108, .invokestatic 275, 3), (2111, .istore 5, 2), (2113, .aload_n 2, 1), (2114, .invokevirtual 277, 3), (2117, .istore 6, 2), (2119, .aload_n 2, 1), (2120, .invokevirtual 148, 3), (2123, .iload 5, 2), (2125, .if_icmp .eq 5, 3), (2128, .iconst 0, 1), (2129, .ireturn, 1), (2130, .iload 5, 2), (2132, .ifCond .ne 15, 3), (2135, .aload_n 3, 1), (2136, .iconst 0, 1), (2137, .laload, 1), (2138, .iload 6, 2), (2140, .i2l, 1), (2141, .lcmp, 1), (2142, .ifCond .eq 5, 3), (2145, .iconst 0, 1), (2146, .ireturn, 1), (2147, .goto 652, 3), (2150, .aload_n 1, 1), (2151, .aload_n 0, 1), (2152, .iload 4, 2), (2154, .iconst 1, 1), (2155, .iadd, 1), (2156, .iaload, 1), (2157, .aload_n 0, 1), (2158, .iload 4, 2), (2160, .iconst 2, 1), (2161, .iadd, 1), (2162, .iaload, 1), (2163, .aload_n 3, 1), (2164, .invokestatic 278, 3), (2167, .istore 5, 2), (2169, .aload_n 2, 1), (2170, .aload_n 0, 1), (2171, .iload 4, 2), (2173, .iconst 1, 1), (2174, .iadd, 1)]
theorem b_L_law_20 : (t_L_law_20.all fun q => decide (decode q_L_law.2.1 q.1 = .ok (q.2.1, q.2.2))) = true := by decide +kernel
def t_L_law_21 : List (Nat × Instr × Nat) := [(2175, .iaload, 1), (2176, .aload_n 0, 1), (2177, .iload 4, 2), (2179, .iconst 2, 1), (2180, .iadd, 1), (2181, .iaload, 1), (2182, .invokevirtual 280, 3), (2185, .istore 6, 2), (2187, .aload_n 2, 1), (2188, .invokevirtual 148, 3), (2191, .iload 5, 2), (2193, .if_icmp .eq 5, 3), (2196, .iconst 0, 1), (2197, .ireturn, 1), (2198, .iload 5, 2), (2200, .ifCond .ne 15, 3), (2203, .aload_n 3, 1), (2204, .iconst 0, 1), (2205, .laload, 1), (2206, .iload 6, 2), (2208, .i2l, 1), (2209, .lcmp, 1), (2210, .ifCond .eq 5, 3), (2213, .iconst 0, 1), (2214, .ireturn, 1), (2215, .goto 584, 3), (2218, .aload_n 1, 1), (2219, .invokevirtual 281, 3), (2222, .aload_n 2, 1), (2223, .invokevirtual 284, 3), (2226, .if_icmp .eq 573, 3), (2229, .iconst 0, 1), (2230, .ireturn, 1), (2231, .aload_n 1, 1), (2232, .aload_n 0, 1), (2233, .iload 4, 2), (2235, .iconst 1, 1), (2236, .iadd, 1), (2237, .iaload, 1), (2238, .aload_n 0, 1), (2239, .iload 4, 2), (2241, .iconst 2, 1), (2242, .iadd, 1), (2243, .iaload, 1), (2244, .aload_n 0, 1), (2245, .iload 4, 2), (2247, .iconst 3, 1), (2248, .iadd, 1), (2249, .iaload, 1), (2250, .aload_n 3, 1), (2251, .invokestatic 285, 3), (2254, .istore 5, 2), (2256, .aload_n 2, 1), (2257, .aload_n 0, 1), (2258, .iload 4, 2), (2260, .iconst 1, 1), (2261, .iadd, 1), (2262, .iaload, 1), (2263, .aload_n 0, 1), (2264, .iload 4, 2)]
theorem b_L_law_21 : (t_L_law_21.all fun q => decide (decode q_L_law.2.1 q.1 = .ok (q.2.1, q.2.2))) = true := by decide +kernel
def t_L_law_22 : List (Nat × Instr × Nat) := [(2266, .iconst 2, 1), (2267, .iadd, 1), (2268, .iaload, 1), (2269, .aload_n 0, 1), (2270, .iload 4, 2), (2272, .iconst 3, 1), (2273, .iadd, 1), (2274, .iaload, 1), (2275, .invokevirtual 287, 3), (2278, .istore 6, 2), (2280, .aload_n 2, 1), (2281, .invokevirtual 148, 3), (2284, .iload 5, 2), (2286, .if_icmp .eq 5, 3), (2289, .iconst 0, 1), (2290, .ireturn, 1), (2291, .iload 5, 2), (2293, .ifCond .ne 15, 3), (2296, .aload_n 3, 1), (2297, .iconst 0, 1), (2298, .laload, 1), (2299, .iload 6, 2), (2301, .i2l, 1), (2302, .lcmp, 1), (2303, .ifCond .eq 5, 3), (2306, .iconst 0, 1), (2307, .ireturn, 1), (2308, .goto 491, 3), (2311, .aload_n 1, 1), (2312, .aload_n 0, 1), (2313, .iload 4, 2), (2315, .iconst 1, 1), (2316, .iadd, 1), (2317, .iaload, 1), (2318, .aload_n 0, 1), (2319, .iload 4, 2), (2321, .iconst 2, 1), (2322, .iadd, 1), (2323, .iaload, 1), (2324, .ifCond .eq 7, 3), (2327, .iconst 1, 1), (2328, .goto 4, 3), (2331, .iconst 0, 1), (2332, .aload_n 3, 1), (2333, .invokestatic 288, 3), (2336, .istore 5, 2), (2338, .aload_n 2, 1), (2339, .aload_n 0, 1), (2340, .iload 4, 2), (2342, .iconst 1, 1), (2343, .iadd, 1), (2344, .iaload, 1), (2345, .aload_n 0, 1), (2346, .iload 4, 2), (2348, .iconst 2, 1), (2349, .iadd, 1), (2350, .iaload, 1), (2351, .ifCond .eq 7, 3), (2354, .iconst 1, 1), (2355, .goto 4, 3)]
theorem b_L_law_22 : (t_L_law_22.all fun q => decide (decode q_L_law.2.1 q.1 = .ok (q.2.1, q.2.2))) = true := by decide +kernel
def t_L_law_23 : List (Nat × Instr × Nat) := [(2358, .iconst 0, 1), (2359, .invokevirtual 291, 3), (2362, .istore 6, 2), (2364, .aload_n 2, 1), (2365, .invokevirtual 148, 3), (2368, .iload 5, 2), (2370, .if_icmp .eq 5, 3), (2373, .iconst 0, 1), (2374, .ireturn, 1), (2375, .iload 5, 2), (2377, .ifCond .ne 22, 3), (2380, .aload_n 3, 1), (2381, .iconst 0, 1), (2382, .laload, 1), (2383, .iload 6, 2), (2385, .ifCond .eq 7, 3), (2388, .lconst 1, 1), (2389, .goto 4, 3), (2392, .lconst 0, 1), (2393, .lcmp, 1), (2394, .ifCond .eq 5, 3), (2397, .iconst 0, 1), (2398, .ireturn, 1), (2399, .goto 400, 3), (2402, .aload_n 1, 1), (2403, .aload_n 0, 1), (2404, .iload 4, 2), (2406, .iconst 1, 1), (2407, .iadd, 1), (2408, .iaload, 1), (2409, .invokevirtual 292, 3), (2412, .aload_n 2, 1), (2413, .aload_n 0, 1), (2414, .iload 4, 2), (2416, .iconst 1, 1), (2417, .iadd, 1), (2418, .iaload, 1), (2419, .invokevirtual 295, 3), (2422, .if_icmp .eq 377, 3), (2425, .iconst 0, 1), (2426, .ireturn, 1), (2427, .aload_n 1, 1), (2428, .invokevirtual 296, 3), (2431, .aload_n 2, 1), (2432, .invokevirtual 299, 3), (2435, .if_icmp .eq 364, 3), (2438, .iconst 0, 1), (2439, .ireturn, 1), (2440, .aload_n 1, 1), (2441, .aload_n 0, 1), (2442, .iload 4, 2), (2444, .iconst 1, 1), (2445, .iadd, 1), (2446, .iaload, 1), (2447, .aload_n 3, 1), (2448, .invokestatic 300, 3), (2451, .istore 5, 2), (2453, .aload_n 2, 1), (2454, .aload_n 0, 1), (2455, .iload 4, 2)]
theorem b_L_law_23 : (t_L_law_23.all fun q => decide (decode q_L_law.2.1 q.1 = .ok (q.2.1, q.2.2))) = true := by decide +kernel
def t_L_law_24 : List (Nat × Instr × Nat) := [(2457, .iconst 1, 1), (2458, .iadd, 1), (2459, .iaload, 1), (2460, .invokevirtual 302, 3), (2463, .istore 6, 2), (2465, .aload_n 2, 1), (2466, .invokevirtual 148, 3), (2469, .iload 5, 2), (2471, .if_icmp .eq 5, 3), (2474, .iconst 0, 1), (2475, .ireturn, 1), (2476, .iload 5, 2), (2478, .ifCond .ne 15, 3), (2481, .aload_n 3, 1), (2482, .iconst 0, 1), (2483, .laload, 1), (2484, .iload 6, 2), (2486, .i2l, 1), (2487, .lcmp, 1), (2488, .ifCond .eq 5, 3), (2491, .iconst 0, 1), (2492, .ireturn, 1), (2493, .goto 306, 3), (2496, .aload_n 1, 1), (2497, .aload_n 0, 1), (2498, .iload 4, 2), (2500, .iconst 1, 1), (2501, .iadd, 1), (2502, .iaload, 1), (2503, .aload_n 0, 1), (2504, .iload 4, 2), (2506, .iconst 2, 1), (2507, .iadd, 1), (2508, .iaload, 1), (2509, .aload_n 0, 1), (2510, .iload 4, 2), (2512, .iconst 3, 1), (2513, .iadd, 1), (2514, .iaload, 1), (2515, .aload_n 3, 1), (2516, .invokestatic 303, 3), (2519, .istore 5, 2), (2521, .aload_n 2, 1), (2522, .aload_n 0, 1), (2523, .iload 4, 2), (2525, .iconst 1, 1), (2526, .iadd, 1), (2527, .iaload, 1), (2528, .aload_n 0, 1), (2529, .iload 4, 2), (2531, .iconst 2, 1), (2532, .iadd, 1), (2533, .iaload, 1), (2534, .aload_n 0, 1), (2535, .iload 4, 2), (2537, .iconst 3, 1), (2538, .iadd, 1), (2539, .iaload, 1), (2540, .invokevirtual 305, 3), (2543, .istore 6, 2)]
theorem b_L_law_24 : (t_L_law_24.all fun q => decide (decode q_L_law.2.1 q.1 = .ok (q.2.1, q.2.2))) = true := by decide +kernel
def t_L_law_25 : List (Nat × Instr × Nat) := [(2545, .aload_n 2, 1), (2546, .invokevirtual 148, 3), (2549, .iload 5, 2), (2551, .if_icmp .eq 5, 3), (2554, .iconst 0, 1), (2555, .ireturn, 1), (2556, .iload 5, 2), (2558, .ifCond .ne 15, 3), (2561, .aload_n 3, 1), (2562, .iconst 0, 1), (2563, .laload, 1), (2564, .iload 6, 2), (2566, .i2l, 1), (2567, .lcmp, 1), (2568, .ifCond .eq 5, 3), (2571, .iconst 0, 1), (2572, .ireturn, 1), (2573, .goto 226, 3), (2576, .aload_n 1, 1), (2577, .aload_n 0, 1), (2578, .iload 4, 2), (2580, .iconst 1, 1), (2581, .iadd, 1), (2582, .iaload, 1), (2583, .aload_n 3, 1), (2584, .invokestatic 306, 3), (2587, .istore 5, 2), (2589, .aload_n 2, 1), (2590, .aload_n 0, 1), (2591, .iload 4, 2), (2593, .iconst 1, 1), (2594, .iadd, 1), (2595, .iaload, 1), (2596, .invokevirtual 308, 3), (2599, .lstore 6, 2), (2601, .aload_n 2, 1), (2602, .invokevirtual 148, 3), (2605, .iload 5, 2), (2607, .if_icmp .eq 5, 3), (2610, .iconst 0, 1), (2611, .ireturn, 1), (2612, .iload 5, 2), (2614, .ifCond .ne 14, 3), (2617, .aload_n 3, 1), (2618, .iconst 0, 1), (2619, .laload, 1), (2620, .lload 6, 2), (2622, .lcmp, 1), (2623, .ifCond .eq 5, 3), (2626, .iconst 0, 1), (2627, .ireturn, 1), (2628, .goto 171, 3), (2631, .aload_n 1, 1), (2632, .aload_n 0, 1), (2633, .iload 4, 2), (2635, .iconst 1, 1), (2636, .iadd, 1), (2637, .iaload, 1), (2638, .aload_n 3, 1), (2639, .invokestatic 309, 3)]
theorem b_L_law_25 : (t_L_law_25.all fun q => decide (decode q_L_law.2.1 q.1 = .ok (q.2.1, q.2.2))) = true := by decide +kernel
def t_L_law_26 : List (Nat × Instr × Nat) := [(2642, .istore 5, 2), (2644, .aload_n 2, 1), (2645, .aload_n 0, 1), (2646, .iload 4, 2), (2648, .iconst 1, 1), (2649, .iadd, 1), (2650, .iaload, 1), (2651, .invokevirtual 311, 3), (2654, .istore 6, 2), (2656, .aload_n 2, 1), (2657, .invokevirtual 148, 3), (2660, .iload 5, 2), (2662, .if_icmp .eq 5, 3), (2665, .iconst 0, 1), (2666, .ireturn, 1), (2667, .iload 5, 2), (2669, .ifCond .ne 22, 3), (2672, .aload_n 3, 1), (2673, .iconst 0, 1), (2674, .laload, 1), (2675, .iload 6, 2), (2677, .ifCond .eq 7, 3), (2680, .lconst 1, 1), (2681, .goto 4, 3), (2684, .lconst 0, 1), (2685, .lcmp, 1), (2686, .ifCond .eq 5, 3), (2689, .iconst 0, 1), (2690, .ireturn, 1), (2691, .goto 108, 3), (2694, .aload_n 1, 1), (2695, .aload_n 0, 1), (2696, .iload 4, 2), (2698, .iconst 1, 1), (2699, .iadd, 1), (2700, .iaload, 1), (2701, .aload_n 0, 1), (2702, .iload 4, 2), (2704, .iconst 2, 1), (2705, .iadd, 1), (2706, .iaload, 1), (2707, .aload_n 0, 1), (2708, .iload 4, 2), (2710, .iconst 3, 1), (2711, .iadd, 1), (2712, .iaload, 1), (2713, .aload_n 3, 1), (2714, .invokestatic 312, 3), (2717, .istore 5, 2), (2719, .aload_n 2, 1), (2720, .aload_n 0, 1), (2721, .iload 4, 2), (2723, .iconst 1, 1), (2724, .iadd, 1), (2725, .iaload, 1), (2726, .aload_n 0, 1), (2727, .iload 4, 2), (2729, .iconst 2, 1), (2730, .iadd, 1), (2731, .iaload, 1)]
theorem b_L_law_26 : (t_L_law_26.all fun q => decide (decode q_L_law.2.1 q.1 = .ok (q.2.1, q.2.2))) = true := by decide +kernel
def t_L_law_27 : List (Nat × Instr × Nat) := [(2732, .aload_n 0, 1), (2733, .iload 4, 2), (2735, .iconst 3, 1), (2736, .iadd, 1), (2737, .iaload, 1), (2738, .invokevirtual 314, 3), (2741, .istore 6, 2), (2743, .aload_n 2, 1), (2744, .invokevirtual 148, 3), (2747, .iload 5, 2), (2749, .if_icmp .eq 5, 3), (2752, .iconst 0, 1), (2753, .ireturn, 1), (2754, .iload 5, 2), (2756, .ifCond .ne 15, 3), (2759, .aload_n 3, 1), (2760, .iconst 0, 1), (2761, .laload, 1), (2762, .iload 6, 2), (2764, .i2l, 1), (2765, .lcmp, 1), (2766, .ifCond .eq 5, 3), (2769, .iconst 0, 1), (2770, .ireturn, 1), (2771, .goto 28, 3), (2774, .aload_n 1, 1), (2775, .aload_n 0, 1), (2776, .iload 4, 2), (2778, .iconst 1, 1), (2779, .iadd, 1), (2780, .iaload, 1), (2781, .invokevirtual 315, 3), (2784, .aload_n 2, 1), (2785, .aload_n 0, 1), (2786, .iload 4, 2), (2788, .iconst 1, 1), (2789, .iadd, 1), (2790, .iaload, 1), (2791, .invokevirtual 318, 3), (2794, .if_icmp .eq 5, 3), (2797, .iconst 0, 1), (2798, .ireturn, 1), (2799, .iinc 4 6, 3), (2802, .goto (-2779), 3), (2805, .iconst 1, 1), (2806, .ireturn, 1)]
theorem b_L_law_27 : (t_L_law_27.all fun q => decide (decode q_L_law.2.1 q.1 = .ok (q.2.1, q.2.2))) = true := by decide +kernel
theorem d_L_law_0 : vm_D q_L_law.2.1 0 3 3 (.new 8) := vm_dD b_L_law_0 0 rfl rfl
theorem d_L_law_3 : vm_D q_L_law.2.1 3 1 4 (.dup) := vm_dD b_L_law_0 1 rfl rfl
theorem d_L_law_4 : vm_D q_L_law.2.1 4 3 7 (.invokespecial 129) := vm_dD b_L_law_0 2 rfl rfl
theorem d_L_law_7 : vm_D q_L_law.2.1 7 1 8 (.astore_n 1) := vm_dD b_L_law_0 3 rfl rfl
theorem d_L_law_8 : vm_D q_L_law.2.1 8 3 11 (.new 130) := vm_dD b_L_law_0 4 rfl rfl
theorem d_L_law_11 : vm_D q_L_law.2.1 11 1 12 (.dup) := vm_dD b_L_law_0 5 rfl rfl
theorem d_L_law_12 : vm_D q_L_law.2.1 12 3 15 (.invokespecial 132) := vm_dD b_L_law_0 6 rfl rfl
theorem d_L_law_15 : vm_D q_L_law.2.1 15 1 16 (.astore_n 2) := vm_dD b_L_law_0 7 rfl rfl
theorem d_L_law_16 : vm_D q_L_law.2.1 16 1 17 (.iconst 1) := vm_dD b_L_law_0 8 rfl rfl
theorem d_L_law_17 : vm_D q_L_law.2.1 17 2 19 (.newarray .long) := vm_dD b_L_law_0 9 rfl rfl
theorem d_L_law_19 : vm_D q_L_law.2.1 19 1 20 (.astore_n 3) := vm_dD b_L_law_0 10 rfl rfl
theorem d_L_law_20 : vm_D q_L_law.2.1 20 1 21 (.iconst 0) := vm_dD b_L_law_0 11 rfl rfl
theorem d_L_law_21 : vm_D q_L_law.2.1 21 2 23 (.istore 4) := vm_dD b_L_law_0 12 rfl rfl
theorem d_L_law_23 : vm_D q_L_law.2.1 23 2 25 (.iload 4) := vm_dD b_L_law_0 13 rfl rfl
theorem d_L_law_25 : vm_D q_L_law.2.1 25 1 26 (.aload_n 0) := vm_dD b_L_law_0 14 rfl rfl
theorem d_L_law_26 : vm_D q_L_law.2.1 26 1 27 (.arraylength) := vm_dD b_L_law_0 15 rfl rfl
theorem d_L_law_27 : vm_D q_L_law.2.1 27 2 29 (.bipush 6) := vm_dD b_L_law_0 16 rfl rfl
theorem d_L_law_29 : vm_D q_L_law.2.1 29 1 30 (.isub) := vm_dD b_L_law_0 17 rfl rfl
theorem d_L_law_30 : vm_B q_L_law.2.1 30 33 2805 (fun o => .if_icmp .gt o) := ⟨2775, vm_db b_L_law_0 (i := 18) rfl, rfl, by decide⟩
theorem d_L_law_33 : vm_D q_L_law.2.1 33 1 34 (.aload_n 0) := vm_dD b_L_law_0 19 rfl rfl
theorem d_L_law_34 : vm_D q_L_law.2.1 34 2 36 (.iload 4) := vm_dD b_L_law_0 20 rfl rfl
theorem d_L_law_36 : vm_D q_L_law.2.1 36 1 37 (.iaload) := vm_dD b_L_law_0 21 rfl rfl
theorem d_L_law_37 : vm_D q_L_law.2.1 37 2 39 (.bipush 63) := vm_dD b_L_law_0 22 rfl rfl
theorem d_L_law_39 : vm_D q_L_law.2.1 39 1 40 (.iand) := vm_dD b_L_law_0 23 rfl rfl
theorem d_L_law_40 : decode q_L_law.2.1 40 = .ok (.tableswitch 2759 0 50 #[220, 293, 318, 362, 406, 419, 444, 500, 544, 557, 570, 583, 639, 652, 677, 745, 801, 814, 882, 895, 908, 964, 1008, 1064, 1077, 1133, 1189, 1269, 1348, 1472, 1563, 1631, 1699, 1755, 1811, 1874, 1942, 2010, 2066, 2110, 2178, 2191, 2271, 2362, 2387, 2400, 2456, 2536, 2591, 2654, 2734], 220) := vm_db b_L_law_0 (i := 24) rfl
theorem d_L_law_40_o : ∀ i, i < 51 → ∃ off : Int, (#[220, 293, 318, 362, 406, 419, 444, 500, 544, 557, 570, 583, 639, 652, 677, 745, 801, 814, 882, 895, 908, 964, 1008, 1064, 1077, 1133, 1189, 1269, 1348, 1472, 1563, 1631, 1699, 1755, 1811, 1874, 1942, 2010, 2066, 2110, 2178, 2191, 2271, 2362, 2387, 2400, 2456, 2536, 2591, 2654, 2734] : Array Int)[i]? = some off ∧ ((40 : Nat) : Int) + off = ((([260, 333, 358, 402, 446, 459, 484, 540, 584, 597, 610, 623, 679, 692, 717, 785, 841, 854, 922, 935, 948, 1004, 1048, 1104, 1117, 1173, 1229, 1309, 1388, 1512, 1603, 1671, 1739, 1795, 1851, 1914, 1982, 2050, 2106, 2150, 2218, 2231, 2311, 2402, 2427, 2440, 2496, 2576, 2631, 2694, 2774] : List Nat).getD i 0 : Nat) : Int) := by
  intro i hi
  match i, hi with
  | 0, _ => exact ⟨_, rfl, rfl⟩
  | 1, _ => exact ⟨_, rfl, rfl⟩
  | 2, _ => exact ⟨_, rfl, rfl⟩
  | 3, _ => exact ⟨_, rfl, rfl⟩
  | 4, _ => exact ⟨_, rfl, rfl⟩
  | 5, _ => exact ⟨_, rfl, rfl⟩
  | 6, _ => exact ⟨_, rfl, rfl⟩
  | 7, _ => exact ⟨_, rfl, rfl⟩
  | 8, _ => exact ⟨_, rfl, rfl⟩
  | 9, _ => exact ⟨_, rfl, rfl⟩
  | 10, _ => exact ⟨_, rfl, rfl⟩
  | 11, _ => exact ⟨_, rfl, rfl⟩
  | 12, _ => exact ⟨_, rfl, rfl⟩
  | 13, _ => exact ⟨_, rfl, rfl⟩
  | 14, _ => exact ⟨_, rfl, rfl⟩
  | 15, _ => exact ⟨_, rfl, rfl⟩
  | 16, _ => exact ⟨_, rfl, rfl⟩
  | 17, _ => exact ⟨_, rfl, rfl⟩
  | 18, _ => exact ⟨_, rfl, rfl⟩
  | 19, _ => exact ⟨_, rfl, rfl⟩
  | 20, _ => exact ⟨_, rfl, rfl⟩
  | 21, _ => exact ⟨_, rfl, rfl⟩
  | 22, _ => exact ⟨_, rfl, rfl⟩
  | 23, _ => exact ⟨_, rfl, rfl⟩
  | 24, _ => exact ⟨_, rfl, rfl⟩
  | 25, _ => exact ⟨_, rfl, rfl⟩
  | 26, _ => exact ⟨_, rfl, rfl⟩
  | 27, _ => exact ⟨_, rfl, rfl⟩
  | 28, _ => exact ⟨_, rfl, rfl⟩
  | 29, _ => exact ⟨_, rfl, rfl⟩
  | 30, _ => exact ⟨_, rfl, rfl⟩
  | 31, _ => exact ⟨_, rfl, rfl⟩
  | 32, _ => exact ⟨_, rfl, rfl⟩
  | 33, _ => exact ⟨_, rfl, rfl⟩
  | 34, _ => exact ⟨_, rfl, rfl⟩
  | 35, _ => exact ⟨_, rfl, rfl⟩
  | 36, _ => exact ⟨_, rfl, rfl⟩
  | 37, _ => exact ⟨_, rfl, rfl⟩
  | 38, _ => exact ⟨_, rfl, rfl⟩
  | 39, _ => exact ⟨_, rfl, rfl⟩
  | 40, _ => exact ⟨_, rfl, rfl⟩
  | 41, _ => exact ⟨_, rfl, rfl⟩
  | 42, _ => exact ⟨_, rfl, rfl⟩
  | 43, _ => exact ⟨_, rfl, rfl⟩
  | 44, _ => exact ⟨_, rfl, rfl⟩
  | 45, _ => exact ⟨_, rfl, rfl⟩
  | 46, _ => exact ⟨_, rfl, rfl⟩
  | 47, _ => exact ⟨_, rfl, rfl⟩
  | 48, _ => exact ⟨_, rfl, rfl⟩
  | 49, _ => exact ⟨_, rfl, rfl⟩
  | 50, _ => exact ⟨_, rfl, rfl⟩
  | k + 51, hi => exact absurd hi (by omega)
theorem d_L_law_2799 : vm_D q_L_law.2.1 2799 3 2802 (.iinc 4 6) := vm_dD b_L_law_27 42 rfl rfl
theorem d_L_law_2802 : ∃ off : Int, decode q_L_law.2.1 2802 = .ok (.goto off, 3) ∧ ((2802 : Nat) : Int) + off = ((23 : Nat) : Int) := ⟨-2779, vm_db b_L_law_27 (i := 43) rfl, by decide⟩
theorem d_L_law_260 : vm_D q_L_law.2.1 260 1 261 (.aload_n 1) := vm_dD b_L_law_0 25 rfl rfl
theorem d_L_law_261 : vm_D q_L_law.2.1 261 1 262 (.aload_n 0) := vm_dD b_L_law_0 26 rfl rfl
theorem d_L_law_262 : vm_D q_L_law.2.1 262 2 264 (.iload 4) := vm_dD b_L_law_0 27 rfl rfl
theorem d_L_law_264 : vm_D q_L_law.2.1 264 1 265 (.iconst 1) := vm_dD b_L_law_0 28 rfl rfl
theorem d_L_law_265 : vm_D q_L_law.2.1 265 1 266 (.iadd) := vm_dD b_L_law_0 29 rfl rfl
theorem d_L_law_266 : vm_D q_L_law.2.1 266 1 267 (.iaload) := vm_dD b_L_law_0 30 rfl rfl
theorem d_L_law_267 : vm_D q_L_law.2.1 267 1 268 (.aload_n 0) := vm_dD b_L_law_0 31 rfl rfl
theorem d_L_law_268 : vm_D q_L_law.2.1 268 2 270 (.iload 4) := vm_dD b_L_law_0 32 rfl rfl
theorem d_L_law_270 : vm_D q_L_law.2.1 270 1 271 (.iconst 2) := vm_dD b_L_law_0 33 rfl rfl
theorem d_L_law_271 : vm_D q_L_law.2.1 271 1 272 (.iadd) := vm_dD b_L_law_0 34 rfl rfl
theorem d_L_law_272 : vm_D q_L_law.2.1 272 1 273 (.iaload) := vm_dD b_L_law_0 35 rfl rfl
theorem d_L_law_273 : vm_D q_L_law.2.1 273 1 274 (.aload_n 0) := vm_dD b_L_law_0 36 rfl rfl
theorem d_L_law_274 : vm_D q_L_law.2.1 274 2 276 (.iload 4) := vm_dD b_L_law_0 37 rfl rfl
theorem d_L_law_276 : vm_D q_L_law.2.1 276 1 277 (.iconst 3) := vm_dD b_L_law_0 38 rfl rfl
theorem d_L_law_277 : vm_D q_L_law.2.1 277 1 278 (.iadd) := vm_dD b_L_law_0 39 rfl rfl
theorem d_L_law_278 : vm_D q_L_law.2.1 278 1 279 (.iaload) := vm_dD b_L_law_0 40 rfl rfl
theorem d_L_law_279 : vm_D q_L_law.2.1 279 1 280 (.aload_n 0) := vm_dD b_L_law_0 41 rfl rfl
theorem d_L_law_280 : vm_D q_L_law.2.1 280 2 282 (.iload 4) := vm_dD b_L_law_0 42 rfl rfl
theorem d_L_law_282 : vm_D q_L_law.2.1 282 1 283 (.iconst 4) := vm_dD b_L_law_0 43 rfl rfl
theorem d_L_law_283 : vm_D q_L_law.2.1 283 1 284 (.iadd) := vm_dD b_L_law_0 44 rfl rfl
theorem d_L_law_284 : vm_D q_L_law.2.1 284 1 285 (.iaload) := vm_dD b_L_law_0 45 rfl rfl
theorem d_L_law_285 : vm_D q_L_law.2.1 285 1 286 (.aload_n 0) := vm_dD b_L_law_0 46 rfl rfl
theorem d_L_law_286 : vm_D q_L_law.2.1 286 2 288 (.iload 4) := vm_dD b_L_law_0 47 rfl rfl
theorem d_L_law_288 : vm_D q_L_law.2.1 288 1 289 (.iconst 5) := vm_dD b_L_law_0 48 rfl rfl
theorem d_L_law_289 : vm_D q_L_law.2.1 289 1 290 (.iadd) := vm_dD b_L_law_0 49 rfl rfl
theorem d_L_law_290 : vm_D q_L_law.2.1 290 1 291 (.iaload) := vm_dD b_L_law_0 50 rfl rfl
theorem d_L_law_291 : vm_D q_L_law.2.1 291 3 294 (.invokevirtual 133) := vm_dD b_L_law_0 51 rfl rfl
theorem d_L_law_294 : vm_D q_L_law.2.1 294 1 295 (.aload_n 2) := vm_dD b_L_law_0 52 rfl rfl
theorem d_L_law_295 : vm_D q_L_law.2.1 295 1 296 (.aload_n 0) := vm_dD b_L_law_0 53 rfl rfl
theorem d_L_law_296 : vm_D q_L_law.2.1 296 2 298 (.iload 4) := vm_dD b_L_law_0 54 rfl rfl
theorem d_L_law_298 : vm_D q_L_law.2.1 298 1 299 (.iconst 1) := vm_dD b_L_law_0 55 rfl rfl
theorem d_L_law_299 : vm_D q_L_law.2.1 299 1 300 (.iadd) := vm_dD b_L_law_0 56 rfl rfl
theorem d_L_law_300 : vm_D q_L_law.2.1 300 1 301 (.iaload) := vm_dD b_L_law_0 57 rfl rfl
theorem d_L_law_301 : vm_D q_L_law.2.1 301 1 302 (.aload_n 0) := vm_dD b_L_law_0 58 rfl rfl
theorem d_L_law_302 : vm_D q_L_law.2.1 302 2 304 (.iload 4) := vm_dD b_L_law_0 59 rfl rfl
theorem d_L_law_304 : vm_D q_L_law.2.1 304 1 305 (.iconst 2) := vm_dD b_L_law_1 0 rfl rfl
theorem d_L_law_305 : vm_D q_L_law.2.1 305 1 306 (.iadd) := vm_dD b_L_law_1 1 rfl rfl
theorem d_L_law_306 : vm_D q_L_law.2.1 306 1 307 (.iaload) := vm_dD b_L_law_1 2 rfl rfl
theorem d_L_law_307 : vm_D q_L_law.2.1 307 1 308 (.aload_n 0) := vm_dD b_L_law_1 3 rfl rfl
theorem d_L_law_308 : vm_D q_L_law.2.1 308 2 310 (.iload 4) := vm_dD b_L_law_1 4 rfl rfl
theorem d_L_law_310 : vm_D q_L_law.2.1 310 1 311 (.iconst 3) := vm_dD b_L_law_1 5 rfl rfl
theorem d_L_law_311 : vm_D q_L_law.2.1 311 1 312 (.iadd) := vm_dD b_L_law_1 6 rfl rfl
theorem d_L_law_312 : vm_D q_L_law.2.1 312 1 313 (.iaload) := vm_dD b_L_law_1 7 rfl rfl
theorem d_L_law_313 : vm_D q_L_law.2.1 313 1 314 (.aload_n 0) := vm_dD b_L_law_1 8 rfl rfl
theorem d_L_law_314 : vm_D q_L_law.2.1 314 2 316 (.iload 4) := vm_dD b_L_law_1 9 rfl rfl
theorem d_L_law_316 : vm_D q_L_law.2.1 316 1 317 (.iconst 4) := vm_dD b_L_law_1 10 rfl rfl
theorem d_L_law_317 : vm_D q_L_law.2.1 317 1 318 (.iadd) := vm_dD b_L_law_1 11 rfl rfl
theorem d_L_law_318 : vm_D q_L_law.2.1 318 1 319 (.iaload) := vm_dD b_L_law_1 12 rfl rfl
theorem d_L_law_319 : vm_D q_L_law.2.1 319 1 320 (.aload_n 0) := vm_dD b_L_law_1 13 rfl rfl
theorem d_L_law_320 : vm_D q_L_law.2.1 320 2 322 (.iload 4) := vm_dD b_L_law_1 14 rfl rfl
theorem d_L_law_322 : vm_D q_L_law.2.1 322 1 323 (.iconst 5) := vm_dD b_L_law_1 15 rfl rfl
theorem d_L_law_323 : vm_D q_L_law.2.1 323 1 324 (.iadd) := vm_dD b_L_law_1 16 rfl rfl
theorem d_L_law_324 : vm_D q_L_law.2.1 324 1 325 (.iaload) := vm_dD b_L_law_1 17 rfl rfl
theorem d_L_law_325 : vm_D q_L_law.2.1 325 3 328 (.invokevirtual 137) := vm_dD b_L_law_1 18 rfl rfl
theorem d_L_law_328 : vm_B q_L_law.2.1 328 331 2799 (fun o => .if_icmp .eq o) := ⟨2471, vm_db b_L_law_1 (i := 19) rfl, rfl, by decide⟩
theorem d_L_law_331 : vm_D q_L_law.2.1 331 1 332 (.iconst 0) := vm_dD b_L_law_1 20 rfl rfl
theorem d_L_law_332 : vm_D q_L_law.2.1 332 1 333 (.ireturn) := vm_dD b_L_law_1 21 rfl rfl
theorem d_L_law_333 : vm_D q_L_law.2.1 333 1 334 (.aload_n 1) := vm_dD b_L_law_1 22 rfl rfl
theorem d_L_law_334 : vm_D q_L_law.2.1 334 1 335 (.aload_n 0) := vm_dD b_L_law_1 23 rfl rfl
theorem d_L_law_335 : vm_D q_L_law.2.1 335 2 337 (.iload 4) := vm_dD b_L_law_1 24 rfl rfl
theorem d_L_law_337 : vm_D q_L_law.2.1 337 1 338 (.iconst 1) := vm_dD b_L_law_1 25 rfl rfl
theorem d_L_law_338 : vm_D q_L_law.2.1 338 1 339 (.iadd) := vm_dD b_L_law_1 26 rfl rfl
theorem d_L_law_339 : vm_D q_L_law.2.1 339 1 340 (.iaload) := vm_dD b_L_law_1 27 rfl rfl
theorem d_L_law_340 : vm_D q_L_law.2.1 340 3 343 (.invokevirtual 138) := vm_dD b_L_law_1 28 rfl rfl
theorem d_L_law_343 : vm_D q_L_law.2.1 343 1 344 (.aload_n 2) := vm_dD b_L_law_1 29 rfl rfl
theorem d_L_law_344 : vm_D q_L_law.2.1 344 1 345 (.aload_n 0) := vm_dD b_L_law_1 30 rfl rfl
theorem d_L_law_345 : vm_D q_L_law.2.1 345 2 347 (.iload 4) := vm_dD b_L_law_1 31 rfl rfl
theorem d_L_law_347 : vm_D q_L_law.2.1 347 1 348 (.iconst 1) := vm_dD b_L_law_1 32 rfl rfl
theorem d_L_law_348 : vm_D q_L_law.2.1 348 1 349 (.iadd) := vm_dD b_L_law_1 33 rfl rfl
theorem d_L_law_349 : vm_D q_L_law.2.1 349 1 350 (.iaload) := vm_dD b_L_law_1 34 rfl rfl
theorem d_L_law_350 : vm_D q_L_law.2.1 350 3 353 (.invokevirtual 141) := vm_dD b_L_law_1 35 rfl rfl
theorem d_L_law_353 : vm_B q_L_law.2.1 353 356 2799 (fun o => .if_icmp .eq o) := ⟨2446, vm_db b_L_law_1 (i := 36) rfl, rfl, by decide⟩
theorem d_L_law_356 : vm_D q_L_law.2.1 356 1 357 (.iconst 0) := vm_dD b_L_law_1 37 rfl rfl
theorem d_L_law_357 : vm_D q_L_law.2.1 357 1 358 (.ireturn) := vm_dD b_L_law_1 38 rfl rfl
theorem d_L_law_358 : vm_D q_L_law.2.1 358 1 359 (.aload_n 1) := vm_dD b_L_law_1 39 rfl rfl
theorem d_L_law_359 : vm_D q_L_law.2.1 359 1 360 (.aload_n 3) := vm_dD b_L_law_1 40 rfl rfl
theorem d_L_law_360 : vm_D q_L_law.2.1 360 3 363 (.invokestatic 142) := vm_dD b_L_law_1 41 rfl rfl
theorem d_L_law_363 : vm_D q_L_law.2.1 363 2 365 (.istore 5) := vm_dD b_L_law_1 42 rfl rfl
theorem d_L_law_365 : vm_D q_L_law.2.1 365 1 366 (.aload_n 2) := vm_dD b_L_law_1 43 rfl rfl
theorem d_L_law_366 : vm_D q_L_law.2.1 366 3 369 (.invokevirtual 147) := vm_dD b_L_law_1 44 rfl rfl
theorem d_L_law_369 : vm_D q_L_law.2.1 369 2 371 (.istore 6) := vm_dD b_L_law_1 45 rfl rfl
theorem d_L_law_371 : vm_D q_L_law.2.1 371 1 372 (.aload_n 2) := vm_dD b_L_law_1 46 rfl rfl
theorem d_L_law_372 : vm_D q_L_law.2.1 372 3 375 (.invokevirtual 148) := vm_dD b_L_law_1 47 rfl rfl
theorem d_L_law_375 : vm_D q_L_law.2.1 375 2 377 (.iload 5) := vm_dD b_L_law_1 48 rfl rfl
theorem d_L_law_377 : vm_B q_L_law.2.1 377 380 382 (fun o => .if_icmp .eq o) := ⟨5, vm_db b_L_law_1 (i := 49) rfl, rfl, by decide⟩
theorem d_L_law_382 : vm_D q_L_law.2.1 382 2 384 (.iload 5) := vm_dD b_L_law_1 52 rfl rfl
theorem d_L_law_384 : vm_B q_L_law.2.1 384 387 399 (fun o => .ifCond .ne o) := ⟨15, vm_db b_L_law_1 (i := 53) rfl, rfl, by decide⟩
theorem d_L_law_399 : ∃ off : Int, decode q_L_law.2.1 399 = .ok (.goto off, 3) ∧ ((399 : Nat) : Int) + off = ((2799 : Nat) : Int) := ⟨2400, vm_db b_L_law_2 (i := 3) rfl, by decide⟩
theorem d_L_law_387 : vm_D q_L_law.2.1 387 1 388 (.aload_n 3) := vm_dD b_L_law_1 54 rfl rfl
theorem d_L_law_388 : vm_D q_L_law.2.1 388 1 389 (.iconst 0) := vm_dD b_L_law_1 55 rfl rfl
theorem d_L_law_389 : vm_D q_L_law.2.1 389 1 390 (.laload) := vm_dD b_L_law_1 56 rfl rfl
theorem d_L_law_390 : vm_D q_L_law.2.1 390 2 392 (.iload 6) := vm_dD b_L_law_1 57 rfl rfl
theorem d_L_law_392 : vm_D q_L_law.2.1 392 1 393 (.i2l) := vm_dD b_L_law_1 58 rfl rfl
theorem d_L_law_393 : vm_D q_L_law.2.1 393 1 394 (.lcmp) := vm_dD b_L_law_1 59 rfl rfl
theorem d_L_law_394 : vm_B q_L_law.2.1 394 397 399 (fun o => .ifCond .eq o) := ⟨5, vm_db b_L_law_2 (i := 0) rfl, rfl, by decide⟩
theorem d_L_law_397 : vm_D q_L_law.2.1 397 1 398 (.iconst 0) := vm_dD b_L_law_2 1 rfl rfl
theorem d_L_law_398 : vm_D q_L_law.2.1 398 1 399 (.ireturn) := vm_dD b_L_law_2 2 rfl rfl
theorem d_L_law_380 : vm_D q_L_law.2.1 380 1 381 (.iconst 0) := vm_dD b_L_law_1 50 rfl rfl
theorem d_L_law_381 : vm_D q_L_law.2.1 381 1 382 (.ireturn) := vm_dD b_L_law_1 51 rfl rfl
theorem d_L_law_402 : vm_D q_L_law.2.1 402 1 403 (.aload_n 1) := vm_dD b_L_law_2 4 rfl rfl
theorem d_L_law_403 : vm_D q_L_law.2.1 403 1 404 (.aload_n 3) := vm_dD b_L_law_2 5 rfl rfl
theorem d_L_law_404 : vm_D q_L_law.2.1 404 3 407 (.invokestatic 151) := vm_dD b_L_law_2 6 rfl rfl
theorem d_L_law_407 : vm_D q_L_law.2.1 407 2 409 (.istore 5) := vm_dD b_L_law_2 7 rfl rfl
theorem d_L_law_409 : vm_D q_L_law.2.1 409 1 410 (.aload_n 2) := vm_dD b_L_law_2 8 rfl rfl
theorem d_L_law_410 : vm_D q_L_law.2.1 410 3 413 (.invokevirtual 153) := vm_dD b_L_law_2 9 rfl rfl
theorem d_L_law_413 : vm_D q_L_law.2.1 413 2 415 (.istore 6) := vm_dD b_L_law_2 10 rfl rfl
theorem d_L_law_415 : vm_D q_L_law.2.1 415 1 416 (.aload_n 2) := vm_dD b_L_law_2 11 rfl rfl
theorem d_L_law_416 : vm_D q_L_law.2.1 416 3 419 (.invokevirtual 148) := vm_dD b_L_law_2 12 rfl rfl
theorem d_L_law_419 : vm_D q_L_law.2.1 419 2 421 (.iload 5) := vm_dD b_L_law_2 13 rfl rfl
theorem d_L_law_421 : vm_B q_L_law.2.1 421 424 426 (fun o => .if_icmp .eq o) := ⟨5, vm_db b_L_law_2 (i := 14) rfl, rfl, by decide⟩
theorem d_L_law_426 : vm_D q_L_law.2.1 426 2 428 (.iload 5) := vm_dD b_L_law_2 17 rfl rfl
theorem d_L_law_428 : vm_B q_L_law.2.1 428 431 443 (fun o => .ifCond .ne o) := ⟨15, vm_db b_L_law_2 (i := 18) rfl, rfl, by decide⟩
theorem d_L_law_443 : ∃ off : Int, decode q_L_law.2.1 443 = .ok (.goto off, 3) ∧ ((443 : Nat) : Int) + off = ((2799 : Nat) : Int) := ⟨2356, vm_db b_L_law_2 (i := 28) rfl, by decide⟩
theorem d_L_law_431 : vm_D q_L_law.2.1 431 1 432 (.aload_n 3) := vm_dD b_L_law_2 19 rfl rfl
theorem d_L_law_432 : vm_D q_L_law.2.1 432 1 433 (.iconst 0) := vm_dD b_L_law_2 20 rfl rfl
theorem d_L_law_433 : vm_D q_L_law.2.1 433 1 434 (.laload) := vm_dD b_L_law_2 21 rfl rfl
theorem d_L_law_434 : vm_D q_L_law.2.1 434 2 436 (.iload 6) := vm_dD b_L_law_2 22 rfl rfl
theorem d_L_law_436 : vm_D q_L_law.2.1 436 1 437 (.i2l) := vm_dD b_L_law_2 23 rfl rfl
theorem d_L_law_437 : vm_D q_L_law.2.1 437 1 438 (.lcmp) := vm_dD b_L_law_2 24 rfl rfl
theorem d_L_law_438 : vm_B q_L_law.2.1 438 441 443 (fun o => .ifCond .eq o) := ⟨5, vm_db b_L_law_2 (i := 25) rfl, rfl, by decide⟩
theorem d_L_law_441 : vm_D q_L_law.2.1 441 1 442 (.iconst 0) := vm_dD b_L_law_2 26 rfl rfl
theorem d_L_law_442 : vm_D q_L_law.2.1 442 1 443 (.ireturn) := vm_dD b_L_law_2 27 rfl rfl
theorem d_L_law_424 : vm_D q_L_law.2.1 424 1 425 (.iconst 0) := vm_dD b_L_law_2 15 rfl rfl
theorem d_L_law_425 : vm_D q_L_law.2.1 425 1 426 (.ireturn) := vm_dD b_L_law_2 16 rfl rfl
theorem d_L_law_446 : vm_D q_L_law.2.1 446 1 447 (.aload_n 1) := vm_dD b_L_law_2 29 rfl rfl
theorem d_L_law_447 : vm_D q_L_law.2.1 447 3 450 (.invokevirtual 154) := vm_dD b_L_law_2 30 rfl rfl
theorem d_L_law_450 : vm_D q_L_law.2.1 450 1 451 (.aload_n 2) := vm_dD b_L_law_2 31 rfl rfl
theorem d_L_law_451 : vm_D q_L_law.2.1 451 3 454 (.invokevirtual 157) := vm_dD b_L_law_2 32 rfl rfl
theorem d_L_law_454 : vm_B q_L_law.2.1 454 457 2799 (fun o => .if_icmp .eq o) := ⟨2345, vm_db b_L_law_2 (i := 33) rfl, rfl, by decide⟩
theorem d_L_law_457 : vm_D q_L_law.2.1 457 1 458 (.iconst 0) := vm_dD b_L_law_2 34 rfl rfl
theorem d_L_law_458 : vm_D q_L_law.2.1 458 1 459 (.ireturn) := vm_dD b_L_law_2 35 rfl rfl
theorem d_L_law_459 : vm_D q_L_law.2.1 459 1 460 (.aload_n 1) := vm_dD b_L_law_2 36 rfl rfl
theorem d_L_law_460 : vm_D q_L_law.2.1 460 1 461 (.aload_n 0) := vm_dD b_L_law_2 37 rfl rfl
theorem d_L_law_461 : vm_D q_L_law.2.1 461 2 463 (.iload 4) := vm_dD b_L_law_2 38 rfl rfl
theorem d_L_law_463 : vm_D q_L_law.2.1 463 1 464 (.iconst 1) := vm_dD b_L_law_2 39 rfl rfl
theorem d_L_law_464 : vm_D q_L_law.2.1 464 1 465 (.iadd) := vm_dD b_L_law_2 40 rfl rfl
theorem d_L_law_465 : vm_D q_L_law.2.1 465 1 466 (.iaload) := vm_dD b_L_law_2 41 rfl rfl
theorem d_L_law_466 : vm_D q_L_law.2.1 466 3 469 (.invokevirtual 158) := vm_dD b_L_law_2 42 rfl rfl
theorem d_L_law_469 : vm_D q_L_law.2.1 469 1 470 (.aload_n 2) := vm_dD b_L_law_2 43 rfl rfl
theorem d_L_law_470 : vm_D q_L_law.2.1 470 1 471 (.aload_n 0) := vm_dD b_L_law_2 44 rfl rfl
theorem d_L_law_471 : vm_D q_L_law.2.1 471 2 473 (.iload 4) := vm_dD b_L_law_2 45 rfl rfl
theorem d_L_law_473 : vm_D q_L_law.2.1 473 1 474 (.iconst 1) := vm_dD b_L_law_2 46 rfl rfl
theorem d_L_law_474 : vm_D q_L_law.2.1 474 1 475 (.iadd) := vm_dD b_L_law_2 47 rfl rfl
theorem d_L_law_475 : vm_D q_L_law.2.1 475 1 476 (.iaload) := vm_dD b_L_law_2 48 rfl rfl
theorem d_L_law_476 : vm_D q_L_law.2.1 476 3 479 (.invokevirtual 161) := vm_dD b_L_law_2 49 rfl rfl
theorem d_L_law_479 : vm_B q_L_law.2.1 479 482 2799 (fun o => .if_icmp .eq o) := ⟨2320, vm_db b_L_law_2 (i := 50) rfl, rfl, by decide⟩
theorem d_L_law_482 : vm_D q_L_law.2.1 482 1 483 (.iconst 0) := vm_dD b_L_law_2 51 rfl rfl
theorem d_L_law_483 : vm_D q_L_law.2.1 483 1 484 (.ireturn) := vm_dD b_L_law_2 52 rfl rfl
theorem d_L_law_484 : vm_D q_L_law.2.1 484 1 485 (.aload_n 1) := vm_dD b_L_law_2 53 rfl rfl
theorem d_L_law_485 : vm_D q_L_law.2.1 485 1 486 (.aload_n 0) := vm_dD b_L_law_2 54 rfl rfl
theorem d_L_law_486 : vm_D q_L_law.2.1 486 2 488 (.iload 4) := vm_dD b_L_law_2 55 rfl rfl
theorem d_L_law_488 : vm_D q_L_law.2.1 488 1 489 (.iconst 1) := vm_dD b_L_law_2 56 rfl rfl
theorem d_L_law_489 : vm_D q_L_law.2.1 489 1 490 (.iadd) := vm_dD b_L_law_2 57 rfl rfl
theorem d_L_law_490 : vm_D q_L_law.2.1 490 1 491 (.iaload) := vm_dD b_L_law_2 58 rfl rfl
theorem d_L_law_491 : vm_D q_L_law.2.1 491 1 492 (.aload_n 3) := vm_dD b_L_law_2 59 rfl rfl
theorem d_L_law_492 : vm_D q_L_law.2.1 492 3 495 (.invokestatic 162) := vm_dD b_L_law_3 0 rfl rfl
theorem d_L_law_495 : vm_D q_L_law.2.1 495 2 497 (.istore 5) := vm_dD b_L_law_3 1 rfl rfl
theorem d_L_law_497 : vm_D q_L_law.2.1 497 1 498 (.aload_n 2) := vm_dD b_L_law_3 2 rfl rfl
theorem d_L_law_498 : vm_D q_L_law.2.1 498 1 499 (.aload_n 0) := vm_dD b_L_law_3 3 rfl rfl
theorem d_L_law_499 : vm_D q_L_law.2.1 499 2 501 (.iload 4) := vm_dD b_L_law_3 4 rfl rfl
theorem d_L_law_501 : vm_D q_L_law.2.1 501 1 502 (.iconst 1) := vm_dD b_L_law_3 5 rfl rfl
theorem d_L_law_502 : vm_D q_L_law.2.1 502 1 503 (.iadd) := vm_dD b_L_law_3 6 rfl rfl
theorem d_L_law_503 : vm_D q_L_law.2.1 503 1 504 (.iaload) := vm_dD b_L_law_3 7 rfl rfl
theorem d_L_law_504 : vm_D q_L_law.2.1 504 3 507 (.invokevirtual 165) := vm_dD b_L_law_3 8 rfl rfl
theorem d_L_law_507 : vm_D q_L_law.2.1 507 2 509 (.istore 6) := vm_dD b_L_law_3 9 rfl rfl
theorem d_L_law_509 : vm_D q_L_law.2.1 509 1 510 (.aload_n 2) := vm_dD b_L_law_3 10 rfl rfl
theorem d_L_law_510 : vm_D q_L_law.2.1 510 3 513 (.invokevirtual 148) := vm_dD b_L_law_3 11 rfl rfl
theorem d_L_law_513 : vm_D q_L_law.2.1 513 2 515 (.iload 5) := vm_dD b_L_law_3 12 rfl rfl
theorem d_L_law_515 : vm_B q_L_law.2.1 515 518 520 (fun o => .if_icmp .eq o) := ⟨5, vm_db b_L_law_3 (i := 13) rfl, rfl, by decide⟩
theorem d_L_law_520 : vm_D q_L_law.2.1 520 2 522 (.iload 5) := vm_dD b_L_law_3 16 rfl rfl
theorem d_L_law_522 : vm_B q_L_law.2.1 522 525 537 (fun o => .ifCond .ne o) := ⟨15, vm_db b_L_law_3 (i := 17) rfl, rfl, by decide⟩
theorem d_L_law_537 : ∃ off : Int, decode q_L_law.2.1 537 = .ok (.goto off, 3) ∧ ((537 : Nat) : Int) + off = ((2799 : Nat) : Int) := ⟨2262, vm_db b_L_law_3 (i := 27) rfl, by decide⟩
theorem d_L_law_525 : vm_D q_L_law.2.1 525 1 526 (.aload_n 3) := vm_dD b_L_law_3 18 rfl rfl
theorem d_L_law_526 : vm_D q_L_law.2.1 526 1 527 (.iconst 0) := vm_dD b_L_law_3 19 rfl rfl
theorem d_L_law_527 : vm_D q_L_law.2.1 527 1 528 (.laload) := vm_dD b_L_law_3 20 rfl rfl
theorem d_L_law_528 : vm_D q_L_law.2.1 528 2 530 (.iload 6) := vm_dD b_L_law_3 21 rfl rfl
theorem d_L_law_530 : vm_D q_L_law.2.1 530 1 531 (.i2l) := vm_dD b_L_law_3 22 rfl rfl
theorem d_L_law_531 : vm_D q_L_law.2.1 531 1 532 (.lcmp) := vm_dD b_L_law_3 23 rfl rfl
theorem d_L_law_532 : vm_B q_L_law.2.1 532 535 537 (fun o => .ifCond .eq o) := ⟨5, vm_db b_L_law_3 (i := 24) rfl, rfl, by decide⟩
theorem d_L_law_535 : vm_D q_L_law.2.1 535 1 536 (.iconst 0) := vm_dD b_L_law_3 25 rfl rfl
theorem d_L_law_536 : vm_D q_L_law.2.1 536 1 537 (.ireturn) := vm_dD b_L_law_3 26 rfl rfl
theorem d_L_law_518 : vm_D q_L_law.2.1 518 1 519 (.iconst 0) := vm_dD b_L_law_3 14 rfl rfl
theorem d_L_law_519 : vm_D q_L_law.2.1 519 1 520 (.ireturn) := vm_dD b_L_law_3 15 rfl rfl
theorem d_L_law_540 : vm_D q_L_law.2.1 540 1 541 (.aload_n 1) := vm_dD b_L_law_3 28 rfl rfl
theorem d_L_law_541 : vm_D q_L_law.2.1 541 1 542 (.aload_n 3) := vm_dD b_L_law_3 29 rfl rfl
theorem d_L_law_542 : vm_D q_L_law.2.1 542 3 545 (.invokestatic 166) := vm_dD b_L_law_3 30 rfl rfl
theorem d_L_law_545 : vm_D q_L_law.2.1 545 2 547 (.istore 5) := vm_dD b_L_law_3 31 rfl rfl
theorem d_L_law_547 : vm_D q_L_law.2.1 547 1 548 (.aload_n 2) := vm_dD b_L_law_3 32 rfl rfl
theorem d_L_law_548 : vm_D q_L_law.2.1 548 3 551 (.invokevirtual 168) := vm_dD b_L_law_3 33 rfl rfl
theorem d_L_law_551 : vm_D q_L_law.2.1 551 2 553 (.istore 6) := vm_dD b_L_law_3 34 rfl rfl
theorem d_L_law_553 : vm_D q_L_law.2.1 553 1 554 (.aload_n 2) := vm_dD b_L_law_3 35 rfl rfl
theorem d_L_law_554 : vm_D q_L_law.2.1 554 3 557 (.invokevirtual 148) := vm_dD b_L_law_3 36 rfl rfl
theorem d_L_law_557 : vm_D q_L_law.2.1 557 2 559 (.iload 5) := vm_dD b_L_law_3 37 rfl rfl
theorem d_L_law_559 : vm_B q_L_law.2.1 559 562 564 (fun o => .if_icmp .eq o) := ⟨5, vm_db b_L_law_3 (i := 38) rfl, rfl, by decide⟩
theorem d_L_law_564 : vm_D q_L_law.2.1 564 2 566 (.iload 5) := vm_dD b_L_law_3 41 rfl rfl
theorem d_L_law_566 : vm_B q_L_law.2.1 566 569 581 (fun o => .ifCond .ne o) := ⟨15, vm_db b_L_law_3 (i := 42) rfl, rfl, by decide⟩
theorem d_L_law_581 : ∃ off : Int, decode q_L_law.2.1 581 = .ok (.goto off, 3) ∧ ((581 : Nat) : Int) + off = ((2799 : Nat) : Int) := ⟨2218, vm_db b_L_law_3 (i := 52) rfl, by decide⟩
theorem d_L_law_569 : vm_D q_L_law.2.1 569 1 570 (.aload_n 3) := vm_dD b_L_law_3 43 rfl rfl
theorem d_L_law_570 : vm_D q_L_law.2.1 570 1 571 (.iconst 0) := vm_dD b_L_law_3 44 rfl rfl
theorem d_L_law_571 : vm_D q_L_law.2.1 571 1 572 (.laload) := vm_dD b_L_law_3 45 rfl rfl
theorem d_L_law_572 : vm_D q_L_law.2.1 572 2 574 (.iload 6) := vm_dD b_L_law_3 46 rfl rfl
theorem d_L_law_574 : vm_D q_L_law.2.1 574 1 575 (.i2l) := vm_dD b_L_law_3 47 rfl rfl
theorem d_L_law_575 : vm_D q_L_law.2.1 575 1 576 (.lcmp) := vm_dD b_L_law_3 48 rfl rfl
theorem d_L_law_576 : vm_B q_L_law.2.1 576 579 581 (fun o => .ifCond .eq o) := ⟨5, vm_db b_L_law_3 (i := 49) rfl, rfl, by decide⟩
theorem d_L_law_579 : vm_D q_L_law.2.1 579 1 580 (.iconst 0) := vm_dD b_L_law_3 50 rfl rfl
theorem d_L_law_580 : vm_D q_L_law.2.1 580 1 581 (.ireturn) := vm_dD b_L_law_3 51 rfl rfl
theorem d_L_law_562 : vm_D q_L_law.2.1 562 1 563 (.iconst 0) := vm_dD b_L_law_3 39 rfl rfl
theorem d_L_law_563 : vm_D q_L_law.2.1 563 1 564 (.ireturn) := vm_dD b_L_law_3 40 rfl rfl
theorem d_L_law_584 : vm_D q_L_law.2.1 584 1 585 (.aload_n 1) := vm_dD b_L_law_3 53 rfl rfl
theorem d_L_law_585 : vm_D q_L_law.2.1 585 3 588 (.invokevirtual 169) := vm_dD b_L_law_3 54 rfl rfl
theorem d_L_law_588 : vm_D q_L_law.2.1 588 1 589 (.aload_n 2) := vm_dD b_L_law_3 55 rfl rfl
theorem d_L_law_589 : vm_D q_L_law.2.1 589 3 592 (.invokevirtual 172) := vm_dD b_L_law_3 56 rfl rfl
theorem d_L_law_592 : vm_B q_L_law.2.1 592 595 2799 (fun o => .if_icmp .eq o) := ⟨2207, vm_db b_L_law_3 (i := 57) rfl, rfl, by decide⟩
theorem d_L_law_595 : vm_D q_L_law.2.1 595 1 596 (.iconst 0) := vm_dD b_L_law_3 58 rfl rfl
theorem d_L_law_596 : vm_D q_L_law.2.1 596 1 597 (.ireturn) := vm_dD b_L_law_3 59 rfl rfl
theorem d_L_law_597 : vm_D q_L_law.2.1 597 1 598 (.aload_n 1) := vm_dD b_L_law_4 0 rfl rfl
theorem d_L_law_598 : vm_D q_L_law.2.1 598 3 601 (.invokevirtual 173) := vm_dD b_L_law_4 1 rfl rfl
theorem d_L_law_601 : vm_D q_L_law.2.1 601 1 602 (.aload_n 2) := vm_dD b_L_law_4 2 rfl rfl
theorem d_L_law_602 : vm_D q_L_law.2.1 602 3 605 (.invokevirtual 177) := vm_dD b_L_law_4 3 rfl rfl
theorem d_L_law_605 : vm_B q_L_law.2.1 605 608 2799 (fun o => .if_icmp .eq o) := ⟨2194, vm_db b_L_law_4 (i := 4) rfl, rfl, by decide⟩
theorem d_L_law_608 : vm_D q_L_law.2.1 608 1 609 (.iconst 0) := vm_dD b_L_law_4 5 rfl rfl
theorem d_L_law_609 : vm_D q_L_law.2.1 609 1 610 (.ireturn) := vm_dD b_L_law_4 6 rfl rfl
theorem d_L_law_610 : vm_D q_L_law.2.1 610 1 611 (.aload_n 1) := vm_dD b_L_law_4 7 rfl rfl
theorem d_L_law_611 : vm_D q_L_law.2.1 611 3 614 (.invokevirtual 178) := vm_dD b_L_law_4 8 rfl rfl
theorem d_L_law_614 : vm_D q_L_law.2.1 614 1 615 (.aload_n 2) := vm_dD b_L_law_4 9 rfl rfl
theorem d_L_law_615 : vm_D q_L_law.2.1 615 3 618 (.invokevirtual 181) := vm_dD b_L_law_4 10 rfl rfl
theorem d_L_law_618 : vm_B q_L_law.2.1 618 621 2799 (fun o => .if_icmp .eq o) := ⟨2181, vm_db b_L_law_4 (i := 11) rfl, rfl, by decide⟩
theorem d_L_law_621 : vm_D q_L_law.2.1 621 1 622 (.iconst 0) := vm_dD b_L_law_4 12 rfl rfl
theorem d_L_law_622 : vm_D q_L_law.2.1 622 1 623 (.ireturn) := vm_dD b_L_law_4 13 rfl rfl
theorem d_L_law_623 : vm_D q_L_law.2.1 623 1 624 (.aload_n 1) := vm_dD b_L_law_4 14 rfl rfl
theorem d_L_law_624 : vm_D q_L_law.2.1 624 1 625 (.aload_n 0) := vm_dD b_L_law_4 15 rfl rfl
theorem d_L_law_625 : vm_D q_L_law.2.1 625 2 627 (.iload 4) := vm_dD b_L_law_4 16 rfl rfl
theorem d_L_law_627 : vm_D q_L_law.2.1 627 1 628 (.iconst 1) := vm_dD b_L_law_4 17 rfl rfl
theorem d_L_law_628 : vm_D q_L_law.2.1 628 1 629 (.iadd) := vm_dD b_L_law_4 18 rfl rfl
theorem d_L_law_629 : vm_D q_L_law.2.1 629 1 630 (.iaload) := vm_dD b_L_law_4 19 rfl rfl
theorem d_L_law_630 : vm_D q_L_law.2.1 630 1 631 (.aload_n 3) := vm_dD b_L_law_4 20 rfl rfl
theorem d_L_law_631 : vm_D q_L_law.2.1 631 3 634 (.invokestatic 182) := vm_dD b_L_law_4 21 rfl rfl
theorem d_L_law_634 : vm_D q_L_law.2.1 634 2 636 (.istore 5) := vm_dD b_L_law_4 22 rfl rfl
theorem d_L_law_636 : vm_D q_L_law.2.1 636 1 637 (.aload_n 2) := vm_dD b_L_law_4 23 rfl rfl
theorem d_L_law_637 : vm_D q_L_law.2.1 637 1 638 (.aload_n 0) := vm_dD b_L_law_4 24 rfl rfl
theorem d_L_law_638 : vm_D q_L_law.2.1 638 2 640 (.iload 4) := vm_dD b_L_law_4 25 rfl rfl
theorem d_L_law_640 : vm_D q_L_law.2.1 640 1 641 (.iconst 1) := vm_dD b_L_law_4 26 rfl rfl
theorem d_L_law_641 : vm_D q_L_law.2.1 641 1 642 (.iadd) := vm_dD b_L_law_4 27 rfl rfl
theorem d_L_law_642 : vm_D q_L_law.2.1 642 1 643 (.iaload) := vm_dD b_L_law_4 28 rfl rfl
theorem d_L_law_643 : vm_D q_L_law.2.1 643 3 646 (.invokevirtual 184) := vm_dD b_L_law_4 29 rfl rfl
theorem d_L_law_646 : vm_D q_L_law.2.1 646 2 648 (.istore 6) := vm_dD b_L_law_4 30 rfl rfl
theorem d_L_law_648 : vm_D q_L_law.2.1 648 1 649 (.aload_n 2) := vm_dD b_L_law_4 31 rfl rfl
theorem d_L_law_649 : vm_D q_L_law.2.1 649 3 652 (.invokevirtual 148) := vm_dD b_L_law_4 32 rfl rfl
theorem d_L_law_652 : vm_D q_L_law.2.1 652 2 654 (.iload 5) := vm_dD b_L_law_4 33 rfl rfl
theorem d_L_law_654 : vm_B q_L_law.2.1 654 657 659 (fun o => .if_icmp .eq o) := ⟨5, vm_db b_L_law_4 (i := 34) rfl, rfl, by decide⟩
theorem d_L_law_659 : vm_D q_L_law.2.1 659 2 661 (.iload 5) := vm_dD b_L_law_4 37 rfl rfl
theorem d_L_law_661 : vm_B q_L_law.2.1 661 664 676 (fun o => .ifCond .ne o) := ⟨15, vm_db b_L_law_4 (i := 38) rfl, rfl, by decide⟩
theorem d_L_law_676 : ∃ off : Int, decode q_L_law.2.1 676 = .ok (.goto off, 3) ∧ ((676 : Nat) : Int) + off = ((2799 : Nat) : Int) := ⟨2123, vm_db b_L_law_4 (i := 48) rfl, by decide⟩
theorem d_L_law_664 : vm_D q_L_law.2.1 664 1 665 (.aload_n 3) := vm_dD b_L_law_4 39 rfl rfl
theorem d_L_law_665 : vm_D q_L_law.2.1 665 1 666 (.iconst 0) := vm_dD b_L_law_4 40 rfl rfl
theorem d_L_law_666 : vm_D q_L_law.2.1 666 1 667 (.laload) := vm_dD b_L_law_4 41 rfl rfl
theorem d_L_law_667 : vm_D q_L_law.2.1 667 2 669 (.iload 6) := vm_dD b_L_law_4 42 rfl rfl
theorem d_L_law_669 : vm_D q_L_law.2.1 669 1 670 (.i2l) := vm_dD b_L_law_4 43 rfl rfl
theorem d_L_law_670 : vm_D q_L_law.2.1 670 1 671 (.lcmp) := vm_dD b_L_law_4 44 rfl rfl
theorem d_L_law_671 : vm_B q_L_law.2.1 671 674 676 (fun o => .ifCond .eq o) := ⟨5, vm_db b_L_law_4 (i := 45) rfl, rfl, by decide⟩
theorem d_L_law_674 : vm_D q_L_law.2.1 674 1 675 (.iconst 0) := vm_dD b_L_law_4 46 rfl rfl
theorem d_L_law_675 : vm_D q_L_law.2.1 675 1 676 (.ireturn) := vm_dD b_L_law_4 47 rfl rfl
theorem d_L_law_657 : vm_D q_L_law.2.1 657 1 658 (.iconst 0) := vm_dD b_L_law_4 35 rfl rfl
theorem d_L_law_658 : vm_D q_L_law.2.1 658 1 659 (.ireturn) := vm_dD b_L_law_4 36 rfl rfl
theorem d_L_law_679 : vm_D q_L_law.2.1 679 1 680 (.aload_n 1) := vm_dD b_L_law_4 49 rfl rfl
theorem d_L_law_680 : vm_D q_L_law.2.1 680 3 683 (.invokevirtual 185) := vm_dD b_L_law_4 50 rfl rfl
theorem d_L_law_683 : vm_D q_L_law.2.1 683 1 684 (.aload_n 2) := vm_dD b_L_law_4 51 rfl rfl
theorem d_L_law_684 : vm_D q_L_law.2.1 684 3 687 (.invokevirtual 188) := vm_dD b_L_law_4 52 rfl rfl
theorem d_L_law_687 : vm_B q_L_law.2.1 687 690 2799 (fun o => .if_icmp .eq o) := ⟨2112, vm_db b_L_law_4 (i := 53) rfl, rfl, by decide⟩
theorem d_L_law_690 : vm_D q_L_law.2.1 690 1 691 (.iconst 0) := vm_dD b_L_law_4 54 rfl rfl
theorem d_L_law_691 : vm_D q_L_law.2.1 691 1 692 (.ireturn) := vm_dD b_L_law_4 55 rfl rfl
theorem d_L_law_692 : vm_D q_L_law.2.1 692 1 693 (.aload_n 1) := vm_dD b_L_law_4 56 rfl rfl
theorem d_L_law_693 : vm_D q_L_law.2.1 693 1 694 (.aload_n 0) := vm_dD b_L_law_4 57 rfl rfl
theorem d_L_law_694 : vm_D q_L_law.2.1 694 2 696 (.iload 4) := vm_dD b_L_law_4 58 rfl rfl
theorem d_L_law_696 : vm_D q_L_law.2.1 696 1 697 (.iconst 1) := vm_dD b_L_law_4 59 rfl rfl
theorem d_L_law_697 : vm_D q_L_law.2.1 697 1 698 (.iadd) := vm_dD b_L_law_5 0 rfl rfl
theorem d_L_law_698 : vm_D q_L_law.2.1 698 1 699 (.iaload) := vm_dD b_L_law_5 1 rfl rfl
theorem d_L_law_699 : vm_D q_L_law.2.1 699 3 702 (.invokevirtual 189) := vm_dD b_L_law_5 2 rfl rfl
theorem d_L_law_702 : vm_D q_L_law.2.1 702 1 703 (.aload_n 2) := vm_dD b_L_law_5 3 rfl rfl
theorem d_L_law_703 : vm_D q_L_law.2.1 703 1 704 (.aload_n 0) := vm_dD b_L_law_5 4 rfl rfl
theorem d_L_law_704 : vm_D q_L_law.2.1 704 2 706 (.iload 4) := vm_dD b_L_law_5 5 rfl rfl
theorem d_L_law_706 : vm_D q_L_law.2.1 706 1 707 (.iconst 1) := vm_dD b_L_law_5 6 rfl rfl
theorem d_L_law_707 : vm_D q_L_law.2.1 707 1 708 (.iadd) := vm_dD b_L_law_5 7 rfl rfl
theorem d_L_law_708 : vm_D q_L_law.2.1 708 1 709 (.iaload) := vm_dD b_L_law_5 8 rfl rfl
theorem d_L_law_709 : vm_D q_L_law.2.1 709 3 712 (.invokevirtual 192) := vm_dD b_L_law_5 9 rfl rfl
theorem d_L_law_712 : vm_B q_L_law.2.1 712 715 2799 (fun o => .if_icmp .eq o) := ⟨2087, vm_db b_L_law_5 (i := 10) rfl, rfl, by decide⟩
theorem d_L_law_715 : vm_D q_L_law.2.1 715 1 716 (.iconst 0) := vm_dD b_L_law_5 11 rfl rfl
theorem d_L_law_716 : vm_D q_L_law.2.1 716 1 717 (.ireturn) := vm_dD b_L_law_5 12 rfl rfl
theorem d_L_law_717 : vm_D q_L_law.2.1 717 1 718 (.aload_n 1) := vm_dD b_L_law_5 13 rfl rfl
theorem d_L_law_718 : vm_D q_L_law.2.1 718 1 719 (.aload_n 0) := vm_dD b_L_law_5 14 rfl rfl
theorem d_L_law_719 : vm_D q_L_law.2.1 719 2 721 (.iload 4) := vm_dD b_L_law_5 15 rfl rfl
theorem d_L_law_721 : vm_D q_L_law.2.1 721 1 722 (.iconst 1) := vm_dD b_L_law_5 16 rfl rfl
theorem d_L_law_722 : vm_D q_L_law.2.1 722 1 723 (.iadd) := vm_dD b_L_law_5 17 rfl rfl
theorem d_L_law_723 : vm_D q_L_law.2.1 723 1 724 (.iaload) := vm_dD b_L_law_5 18 rfl rfl
theorem d_L_law_724 : vm_D q_L_law.2.1 724 1 725 (.aload_n 0) := vm_dD b_L_law_5 19 rfl rfl
theorem d_L_law_725 : vm_D q_L_law.2.1 725 2 727 (.iload 4) := vm_dD b_L_law_5 20 rfl rfl
theorem d_L_law_727 : vm_D q_L_law.2.1 727 1 728 (.iconst 2) := vm_dD b_L_law_5 21 rfl rfl
theorem d_L_law_728 : vm_D q_L_law.2.1 728 1 729 (.iadd) := vm_dD b_L_law_5 22 rfl rfl
theorem d_L_law_729 : vm_D q_L_law.2.1 729 1 730 (.iaload) := vm_dD b_L_law_5 23 rfl rfl
theorem d_L_law_730 : vm_D q_L_law.2.1 730 1 731 (.aload_n 3) := vm_dD b_L_law_5 24 rfl rfl
theorem d_L_law_731 : vm_D q_L_law.2.1 731 3 734 (.invokestatic 193) := vm_dD b_L_law_5 25 rfl rfl
theorem d_L_law_734 : vm_D q_L_law.2.1 734 2 736 (.istore 5) := vm_dD b_L_law_5 26 rfl rfl
theorem d_L_law_736 : vm_D q_L_law.2.1 736 1 737 (.aload_n 2) := vm_dD b_L_law_5 27 rfl rfl
theorem d_L_law_737 : vm_D q_L_law.2.1 737 1 738 (.aload_n 0) := vm_dD b_L_law_5 28 rfl rfl
theorem d_L_law_738 : vm_D q_L_law.2.1 738 2 740 (.iload 4) := vm_dD b_L_law_5 29 rfl rfl
theorem d_L_law_740 : vm_D q_L_law.2.1 740 1 741 (.iconst 1) := vm_dD b_L_law_5 30 rfl rfl
theorem d_L_law_741 : vm_D q_L_law.2.1 741 1 742 (.iadd) := vm_dD b_L_law_5 31 rfl rfl
theorem d_L_law_742 : vm_D q_L_law.2.1 742 1 743 (.iaload) := vm_dD b_L_law_5 32 rfl rfl
theorem d_L_law_743 : vm_D q_L_law.2.1 743 1 744 (.aload_n 0) := vm_dD b_L_law_5 33 rfl rfl
theorem d_L_law_744 : vm_D q_L_law.2.1 744 2 746 (.iload 4) := vm_dD b_L_law_5 34 rfl rfl
theorem d_L_law_746 : vm_D q_L_law.2.1 746 1 747 (.iconst 2) := vm_dD b_L_law_5 35 rfl rfl
theorem d_L_law_747 : vm_D q_L_law.2.1 747 1 748 (.iadd) := vm_dD b_L_law_5 36 rfl rfl
theorem d_L_law_748 : vm_D q_L_law.2.1 748 1 749 (.iaload) := vm_dD b_L_law_5 37 rfl rfl
theorem d_L_law_749 : vm_D q_L_law.2.1 749 3 752 (.invokevirtual 196) := vm_dD b_L_law_5 38 rfl rfl
theorem d_L_law_752 : vm_D q_L_law.2.1 752 2 754 (.istore 6) := vm_dD b_L_law_5 39 rfl rfl
theorem d_L_law_754 : vm_D q_L_law.2.1 754 1 755 (.aload_n 2) := vm_dD b_L_law_5 40 rfl rfl
theorem d_L_law_755 : vm_D q_L_law.2.1 755 3 758 (.invokevirtual 148) := vm_dD b_L_law_5 41 rfl rfl
theorem d_L_law_758 : vm_D q_L_law.2.1 758 2 760 (.iload 5) := vm_dD b_L_law_5 42 rfl rfl
theorem d_L_law_760 : vm_B q_L_law.2.1 760 763 765 (fun o => .if_icmp .eq o) := ⟨5, vm_db b_L_law_5 (i := 43) rfl, rfl, by decide⟩
theorem d_L_law_765 : vm_D q_L_law.2.1 765 2 767 (.iload 5) := vm_dD b_L_law_5 46 rfl rfl
theorem d_L_law_767 : vm_B q_L_law.2.1 767 770 782 (fun o => .ifCond .ne o) := ⟨15, vm_db b_L_law_5 (i := 47) rfl, rfl, by decide⟩
theorem d_L_law_782 : ∃ off : Int, decode q_L_law.2.1 782 = .ok (.goto off, 3) ∧ ((782 : Nat) : Int) + off = ((2799 : Nat) : Int) := ⟨2017, vm_db b_L_law_5 (i := 57) rfl, by decide⟩
theorem d_L_law_770 : vm_D q_L_law.2.1 770 1 771 (.aload_n 3) := vm_dD b_L_law_5 48 rfl rfl
theorem d_L_law_771 : vm_D q_L_law.2.1 771 1 772 (.iconst 0) := vm_dD b_L_law_5 49 rfl rfl
theorem d_L_law_772 : vm_D q_L_law.2.1 772 1 773 (.laload) := vm_dD b_L_law_5 50 rfl rfl
theorem d_L_law_773 : vm_D q_L_law.2.1 773 2 775 (.iload 6) := vm_dD b_L_law_5 51 rfl rfl
theorem d_L_law_775 : vm_D q_L_law.2.1 775 1 776 (.i2l) := vm_dD b_L_law_5 52 rfl rfl
theorem d_L_law_776 : vm_D q_L_law.2.1 776 1 777 (.lcmp) := vm_dD b_L_law_5 53 rfl rfl
theorem d_L_law_777 : vm_B q_L_law.2.1 777 780 782 (fun o => .ifCond .eq o) := ⟨5, vm_db b_L_law_5 (i := 54) rfl, rfl, by decide⟩
theorem d_L_law_780 : vm_D q_L_law.2.1 780 1 781 (.iconst 0) := vm_dD b_L_law_5 55 rfl rfl
theorem d_L_law_781 : vm_D q_L_law.2.1 781 1 782 (.ireturn) := vm_dD b_L_law_5 56 rfl rfl
theorem d_L_law_763 : vm_D q_L_law.2.1 763 1 764 (.iconst 0) := vm_dD b_L_law_5 44 rfl rfl
theorem d_L_law_764 : vm_D q_L_law.2.1 764 1 765 (.ireturn) := vm_dD b_L_law_5 45 rfl rfl
theorem d_L_law_785 : vm_D q_L_law.2.1 785 1 786 (.aload_n 1) := vm_dD b_L_law_5 58 rfl rfl
theorem d_L_law_786 : vm_D q_L_law.2.1 786 1 787 (.aload_n 0) := vm_dD b_L_law_5 59 rfl rfl
theorem d_L_law_787 : vm_D q_L_law.2.1 787 2 789 (.iload 4) := vm_dD b_L_law_6 0 rfl rfl
theorem d_L_law_789 : vm_D q_L_law.2.1 789 1 790 (.iconst 1) := vm_dD b_L_law_6 1 rfl rfl
theorem d_L_law_790 : vm_D q_L_law.2.1 790 1 791 (.iadd) := vm_dD b_L_law_6 2 rfl rfl
theorem d_L_law_791 : vm_D q_L_law.2.1 791 1 792 (.iaload) := vm_dD b_L_law_6 3 rfl rfl
theorem d_L_law_792 : vm_D q_L_law.2.1 792 1 793 (.aload_n 3) := vm_dD b_L_law_6 4 rfl rfl
theorem d_L_law_793 : vm_D q_L_law.2.1 793 3 796 (.invokestatic 197) := vm_dD b_L_law_6 5 rfl rfl
theorem d_L_law_796 : vm_D q_L_law.2.1 796 2 798 (.istore 5) := vm_dD b_L_law_6 6 rfl rfl
theorem d_L_law_798 : vm_D q_L_law.2.1 798 1 799 (.aload_n 2) := vm_dD b_L_law_6 7 rfl rfl
theorem d_L_law_799 : vm_D q_L_law.2.1 799 1 800 (.aload_n 0) := vm_dD b_L_law_6 8 rfl rfl
theorem d_L_law_800 : vm_D q_L_law.2.1 800 2 802 (.iload 4) := vm_dD b_L_law_6 9 rfl rfl
theorem d_L_law_802 : vm_D q_L_law.2.1 802 1 803 (.iconst 1) := vm_dD b_L_law_6 10 rfl rfl
theorem d_L_law_803 : vm_D q_L_law.2.1 803 1 804 (.iadd) := vm_dD b_L_law_6 11 rfl rfl
theorem d_L_law_804 : vm_D q_L_law.2.1 804 1 805 (.iaload) := vm_dD b_L_law_6 12 rfl rfl
theorem d_L_law_805 : vm_D q_L_law.2.1 805 3 808 (.invokevirtual 199) := vm_dD b_L_law_6 13 rfl rfl
theorem d_L_law_808 : vm_D q_L_law.2.1 808 2 810 (.istore 6) := vm_dD b_L_law_6 14 rfl rfl
theorem d_L_law_810 : vm_D q_L_law.2.1 810 1 811 (.aload_n 2) := vm_dD b_L_law_6 15 rfl rfl
theorem d_L_law_811 : vm_D q_L_law.2.1 811 3 814 (.invokevirtual 148) := vm_dD b_L_law_6 16 rfl rfl
theorem d_L_law_814 : vm_D q_L_law.2.1 814 2 816 (.iload 5) := vm_dD b_L_law_6 17 rfl rfl
theorem d_L_law_816 : vm_B q_L_law.2.1 816 819 821 (fun o => .if_icmp .eq o) := ⟨5, vm_db b_L_law_6 (i := 18) rfl, rfl, by decide⟩
theorem d_L_law_821 : vm_D q_L_law.2.1 821 2 823 (.iload 5) := vm_dD b_L_law_6 21 rfl rfl
theorem d_L_law_823 : vm_B q_L_law.2.1 823 826 838 (fun o => .ifCond .ne o) := ⟨15, vm_db b_L_law_6 (i := 22) rfl, rfl, by decide⟩
theorem d_L_law_838 : ∃ off : Int, decode q_L_law.2.1 838 = .ok (.goto off, 3) ∧ ((838 : Nat) : Int) + off = ((2799 : Nat) : Int) := ⟨1961, vm_db b_L_law_6 (i := 32) rfl, by decide⟩
theorem d_L_law_826 : vm_D q_L_law.2.1 826 1 827 (.aload_n 3) := vm_dD b_L_law_6 23 rfl rfl
theorem d_L_law_827 : vm_D q_L_law.2.1 827 1 828 (.iconst 0) := vm_dD b_L_law_6 24 rfl rfl
theorem d_L_law_828 : vm_D q_L_law.2.1 828 1 829 (.laload) := vm_dD b_L_law_6 25 rfl rfl
theorem d_L_law_829 : vm_D q_L_law.2.1 829 2 831 (.iload 6) := vm_dD b_L_law_6 26 rfl rfl
theorem d_L_law_831 : vm_D q_L_law.2.1 831 1 832 (.i2l) := vm_dD b_L_law_6 27 rfl rfl
theorem d_L_law_832 : vm_D q_L_law.2.1 832 1 833 (.lcmp) := vm_dD b_L_law_6 28 rfl rfl
theorem d_L_law_833 : vm_B q_L_law.2.1 833 836 838 (fun o => .ifCond .eq o) := ⟨5, vm_db b_L_law_6 (i := 29) rfl, rfl, by decide⟩
theorem d_L_law_836 : vm_D q_L_law.2.1 836 1 837 (.iconst 0) := vm_dD b_L_law_6 30 rfl rfl
theorem d_L_law_837 : vm_D q_L_law.2.1 837 1 838 (.ireturn) := vm_dD b_L_law_6 31 rfl rfl
theorem d_L_law_819 : vm_D q_L_law.2.1 819 1 820 (.iconst 0) := vm_dD b_L_law_6 19 rfl rfl
theorem d_L_law_820 : vm_D q_L_law.2.1 820 1 821 (.ireturn) := vm_dD b_L_law_6 20 rfl rfl
theorem d_L_law_841 : vm_D q_L_law.2.1 841 1 842 (.aload_n 1) := vm_dD b_L_law_6 33 rfl rfl
theorem d_L_law_842 : vm_D q_L_law.2.1 842 3 845 (.invokevirtual 200) := vm_dD b_L_law_6 34 rfl rfl
theorem d_L_law_845 : vm_D q_L_law.2.1 845 1 846 (.aload_n 2) := vm_dD b_L_law_6 35 rfl rfl
theorem d_L_law_846 : vm_D q_L_law.2.1 846 3 849 (.invokevirtual 203) := vm_dD b_L_law_6 36 rfl rfl
theorem d_L_law_849 : vm_B q_L_law.2.1 849 852 2799 (fun o => .if_icmp .eq o) := ⟨1950, vm_db b_L_law_6 (i := 37) rfl, rfl, by decide⟩
theorem d_L_law_852 : vm_D q_L_law.2.1 852 1 853 (.iconst 0) := vm_dD b_L_law_6 38 rfl rfl
theorem d_L_law_853 : vm_D q_L_law.2.1 853 1 854 (.ireturn) := vm_dD b_L_law_6 39 rfl rfl
theorem d_L_law_854 : vm_D q_L_law.2.1 854 1 855 (.aload_n 1) := vm_dD b_L_law_6 40 rfl rfl
theorem d_L_law_855 : vm_D q_L_law.2.1 855 1 856 (.aload_n 0) := vm_dD b_L_law_6 41 rfl rfl
theorem d_L_law_856 : vm_D q_L_law.2.1 856 2 858 (.iload 4) := vm_dD b_L_law_6 42 rfl rfl
theorem d_L_law_858 : vm_D q_L_law.2.1 858 1 859 (.iconst 1) := vm_dD b_L_law_6 43 rfl rfl
theorem d_L_law_859 : vm_D q_L_law.2.1 859 1 860 (.iadd) := vm_dD b_L_law_6 44 rfl rfl
theorem d_L_law_860 : vm_D q_L_law.2.1 860 1 861 (.iaload) := vm_dD b_L_law_6 45 rfl rfl
theorem d_L_law_861 : vm_D q_L_law.2.1 861 1 862 (.aload_n 0) := vm_dD b_L_law_6 46 rfl rfl
theorem d_L_law_862 : vm_D q_L_law.2.1 862 2 864 (.iload 4) := vm_dD b_L_law_6 47 rfl rfl
theorem d_L_law_864 : vm_D q_L_law.2.1 864 1 865 (.iconst 2) := vm_dD b_L_law_6 48 rfl rfl
theorem d_L_law_865 : vm_D q_L_law.2.1 865 1 866 (.iadd) := vm_dD b_L_law_6 49 rfl rfl
theorem d_L_law_866 : vm_D q_L_law.2.1 866 1 867 (.iaload) := vm_dD b_L_law_6 50 rfl rfl
theorem d_L_law_867 : vm_D q_L_law.2.1 867 1 868 (.aload_n 3) := vm_dD b_L_law_6 51 rfl rfl
theorem d_L_law_868 : vm_D q_L_law.2.1 868 3 871 (.invokestatic 204) := vm_dD b_L_law_6 52 rfl rfl
theorem d_L_law_871 : vm_D q_L_law.2.1 871 2 873 (.istore 5) := vm_dD b_L_law_6 53 rfl rfl
theorem d_L_law_873 : vm_D q_L_law.2.1 873 1 874 (.aload_n 2) := vm_dD b_L_law_6 54 rfl rfl
theorem d_L_law_874 : vm_D q_L_law.2.1 874 1 875 (.aload_n 0) := vm_dD b_L_law_6 55 rfl rfl
theorem d_L_law_875 : vm_D q_L_law.2.1 875 2 877 (.iload 4) := vm_dD b_L_law_6 56 rfl rfl
theorem d_L_law_877 : vm_D q_L_law.2.1 877 1 878 (.iconst 1) := vm_dD b_L_law_6 57 rfl rfl
theorem d_L_law_878 : vm_D q_L_law.2.1 878 1 879 (.iadd) := vm_dD b_L_law_6 58 rfl rfl
theorem d_L_law_879 : vm_D q_L_law.2.1 879 1 880 (.iaload) := vm_dD b_L_law_6 59 rfl rfl
theorem d_L_law_880 : vm_D q_L_law.2.1 880 1 881 (.aload_n 0) := vm_dD b_L_law_7 0 rfl rfl
theorem d_L_law_881 : vm_D q_L_law.2.1 881 2 883 (.iload 4) := vm_dD b_L_law_7 1 rfl rfl
theorem d_L_law_883 : vm_D q_L_law.2.1 883 1 884 (.iconst 2) := vm_dD b_L_law_7 2 rfl rfl
theorem d_L_law_884 : vm_D q_L_law.2.1 884 1 885 (.iadd) := vm_dD b_L_law_7 3 rfl rfl
theorem d_L_law_885 : vm_D q_L_law.2.1 885 1 886 (.iaload) := vm_dD b_L_law_7 4 rfl rfl
theorem d_L_law_886 : vm_D q_L_law.2.1 886 3 889 (.invokevirtual 206) := vm_dD b_L_law_7 5 rfl rfl
theorem d_L_law_889 : vm_D q_L_law.2.1 889 2 891 (.istore 6) := vm_dD b_L_law_7 6 rfl rfl
theorem d_L_law_891 : vm_D q_L_law.2.1 891 1 892 (.aload_n 2) := vm_dD b_L_law_7 7 rfl rfl
theorem d_L_law_892 : vm_D q_L_law.2.1 892 3 895 (.invokevirtual 148) := vm_dD b_L_law_7 8 rfl rfl
theorem d_L_law_895 : vm_D q_L_law.2.1 895 2 897 (.iload 5) := vm_dD b_L_law_7 9 rfl rfl
theorem d_L_law_897 : vm_B q_L_law.2.1 897 900 902 (fun o => .if_icmp .eq o) := ⟨5, vm_db b_L_law_7 (i := 10) rfl, rfl, by decide⟩
theorem d_L_law_902 : vm_D q_L_law.2.1 902 2 904 (.iload 5) := vm_dD b_L_law_7 13 rfl rfl
theorem d_L_law_904 : vm_B q_L_law.2.1 904 907 919 (fun o => .ifCond .ne o) := ⟨15, vm_db b_L_law_7 (i := 14) rfl, rfl, by decide⟩
theorem d_L_law_919 : ∃ off : Int, decode q_L_law.2.1 919 = .ok (.goto off, 3) ∧ ((919 : Nat) : Int) + off = ((2799 : Nat) : Int) := ⟨1880, vm_db b_L_law_7 (i := 24) rfl, by decide⟩
theorem d_L_law_907 : vm_D q_L_law.2.1 907 1 908 (.aload_n 3) := vm_dD b_L_law_7 15 rfl rfl
theorem d_L_law_908 : vm_D q_L_law.2.1 908 1 909 (.iconst 0) := vm_dD b_L_law_7 16 rfl rfl
theorem d_L_law_909 : vm_D q_L_law.2.1 909 1 910 (.laload) := vm_dD b_L_law_7 17 rfl rfl
theorem d_L_law_910 : vm_D q_L_law.2.1 910 2 912 (.iload 6) := vm_dD b_L_law_7 18 rfl rfl
theorem d_L_law_912 : vm_D q_L_law.2.1 912 1 913 (.i2l) := vm_dD b_L_law_7 19 rfl rfl
theorem d_L_law_913 : vm_D q_L_law.2.1 913 1 914 (.lcmp) := vm_dD b_L_law_7 20 rfl rfl
theorem d_L_law_914 : vm_B q_L_law.2.1 914 917 919 (fun o => .ifCond .eq o) := ⟨5, vm_db b_L_law_7 (i := 21) rfl, rfl, by decide⟩
theorem d_L_law_917 : vm_D q_L_law.2.1 917 1 918 (.iconst 0) := vm_dD b_L_law_7 22 rfl rfl
theorem d_L_law_918 : vm_D q_L_law.2.1 918 1 919 (.ireturn) := vm_dD b_L_law_7 23 rfl rfl
theorem d_L_law_900 : vm_D q_L_law.2.1 900 1 901 (.iconst 0) := vm_dD b_L_law_7 11 rfl rfl
theorem d_L_law_901 : vm_D q_L_law.2.1 901 1 902 (.ireturn) := vm_dD b_L_law_7 12 rfl rfl
theorem d_L_law_922 : vm_D q_L_law.2.1 922 1 923 (.aload_n 1) := vm_dD b_L_law_7 25 rfl rfl
theorem d_L_law_923 : vm_D q_L_law.2.1 923 3 926 (.invokevirtual 207) := vm_dD b_L_law_7 26 rfl rfl
theorem d_L_law_926 : vm_D q_L_law.2.1 926 1 927 (.aload_n 2) := vm_dD b_L_law_7 27 rfl rfl
theorem d_L_law_927 : vm_D q_L_law.2.1 927 3 930 (.invokevirtual 210) := vm_dD b_L_law_7 28 rfl rfl
theorem d_L_law_930 : vm_B q_L_law.2.1 930 933 2799 (fun o => .if_icmp .eq o) := ⟨1869, vm_db b_L_law_7 (i := 29) rfl, rfl, by decide⟩
theorem d_L_law_933 : vm_D q_L_law.2.1 933 1 934 (.iconst 0) := vm_dD b_L_law_7 30 rfl rfl
theorem d_L_law_934 : vm_D q_L_law.2.1 934 1 935 (.ireturn) := vm_dD b_L_law_7 31 rfl rfl
theorem d_L_law_935 : vm_D q_L_law.2.1 935 1 936 (.aload_n 1) := vm_dD b_L_law_7 32 rfl rfl
theorem d_L_law_936 : vm_D q_L_law.2.1 936 3 939 (.invokevirtual 211) := vm_dD b_L_law_7 33 rfl rfl
theorem d_L_law_939 : vm_D q_L_law.2.1 939 1 940 (.aload_n 2) := vm_dD b_L_law_7 34 rfl rfl
theorem d_L_law_940 : vm_D q_L_law.2.1 940 3 943 (.invokevirtual 214) := vm_dD b_L_law_7 35 rfl rfl
theorem d_L_law_943 : vm_B q_L_law.2.1 943 946 2799 (fun o => .if_icmp .eq o) := ⟨1856, vm_db b_L_law_7 (i := 36) rfl, rfl, by decide⟩
theorem d_L_law_946 : vm_D q_L_law.2.1 946 1 947 (.iconst 0) := vm_dD b_L_law_7 37 rfl rfl
theorem d_L_law_947 : vm_D q_L_law.2.1 947 1 948 (.ireturn) := vm_dD b_L_law_7 38 rfl rfl
theorem d_L_law_948 : vm_D q_L_law.2.1 948 1 949 (.aload_n 1) := vm_dD b_L_law_7 39 rfl rfl
theorem d_L_law_949 : vm_D q_L_law.2.1 949 1 950 (.aload_n 0) := vm_dD b_L_law_7 40 rfl rfl
theorem d_L_law_950 : vm_D q_L_law.2.1 950 2 952 (.iload 4) := vm_dD b_L_law_7 41 rfl rfl
theorem d_L_law_952 : vm_D q_L_law.2.1 952 1 953 (.iconst 1) := vm_dD b_L_law_7 42 rfl rfl
theorem d_L_law_953 : vm_D q_L_law.2.1 953 1 954 (.iadd) := vm_dD b_L_law_7 43 rfl rfl
theorem d_L_law_954 : vm_D q_L_law.2.1 954 1 955 (.iaload) := vm_dD b_L_law_7 44 rfl rfl
theorem d_L_law_955 : vm_D q_L_law.2.1 955 1 956 (.aload_n 3) := vm_dD b_L_law_7 45 rfl rfl
theorem d_L_law_956 : vm_D q_L_law.2.1 956 3 959 (.invokestatic 215) := vm_dD b_L_law_7 46 rfl rfl
theorem d_L_law_959 : vm_D q_L_law.2.1 959 2 961 (.istore 5) := vm_dD b_L_law_7 47 rfl rfl
theorem d_L_law_961 : vm_D q_L_law.2.1 961 1 962 (.aload_n 2) := vm_dD b_L_law_7 48 rfl rfl
theorem d_L_law_962 : vm_D q_L_law.2.1 962 1 963 (.aload_n 0) := vm_dD b_L_law_7 49 rfl rfl
theorem d_L_law_963 : vm_D q_L_law.2.1 963 2 965 (.iload 4) := vm_dD b_L_law_7 50 rfl rfl
theorem d_L_law_965 : vm_D q_L_law.2.1 965 1 966 (.iconst 1) := vm_dD b_L_law_7 51 rfl rfl
theorem d_L_law_966 : vm_D q_L_law.2.1 966 1 967 (.iadd) := vm_dD b_L_law_7 52 rfl rfl
theorem d_L_law_967 : vm_D q_L_law.2.1 967 1 968 (.iaload) := vm_dD b_L_law_7 53 rfl rfl
theorem d_L_law_968 : vm_D q_L_law.2.1 968 3 971 (.invokevirtual 217) := vm_dD b_L_law_7 54 rfl rfl
theorem d_L_law_971 : vm_D q_L_law.2.1 971 2 973 (.istore 6) := vm_dD b_L_law_7 55 rfl rfl
theorem d_L_law_973 : vm_D q_L_law.2.1 973 1 974 (.aload_n 2) := vm_dD b_L_law_7 56 rfl rfl
theorem d_L_law_974 : vm_D q_L_law.2.1 974 3 977 (.invokevirtual 148) := vm_dD b_L_law_7 57 rfl rfl
theorem d_L_law_977 : vm_D q_L_law.2.1 977 2 979 (.iload 5) := vm_dD b_L_law_7 58 rfl rfl
theorem d_L_law_979 : vm_B q_L_law.2.1 979 982 984 (fun o => .if_icmp .eq o) := ⟨5, vm_db b_L_law_7 (i := 59) rfl, rfl, by decide⟩
theorem d_L_law_984 : vm_D q_L_law.2.1 984 2 986 (.iload 5) := vm_dD b_L_law_8 2 rfl rfl
theorem d_L_law_986 : vm_B q_L_law.2.1 986 989 1001 (fun o => .ifCond .ne o) := ⟨15, vm_db b_L_law_8 (i := 3) rfl, rfl, by decide⟩
theorem d_L_law_1001 : ∃ off : Int, decode q_L_law.2.1 1001 = .ok (.goto off, 3) ∧ ((1001 : Nat) : Int) + off = ((2799 : Nat) : Int) := ⟨1798, vm_db b_L_law_8 (i := 13) rfl, by decide⟩
theorem d_L_law_989 : vm_D q_L_law.2.1 989 1 990 (.aload_n 3) := vm_dD b_L_law_8 4 rfl rfl
theorem d_L_law_990 : vm_D q_L_law.2.1 990 1 991 (.iconst 0) := vm_dD b_L_law_8 5 rfl rfl
theorem d_L_law_991 : vm_D q_L_law.2.1 991 1 992 (.laload) := vm_dD b_L_law_8 6 rfl rfl
theorem d_L_law_992 : vm_D q_L_law.2.1 992 2 994 (.iload 6) := vm_dD b_L_law_8 7 rfl rfl
theorem d_L_law_994 : vm_D q_L_law.2.1 994 1 995 (.i2l) := vm_dD b_L_law_8 8 rfl rfl
theorem d_L_law_995 : vm_D q_L_law.2.1 995 1 996 (.lcmp) := vm_dD b_L_law_8 9 rfl rfl
theorem d_L_law_996 : vm_B q_L_law.2.1 996 999 1001 (fun o => .ifCond .eq o) := ⟨5, vm_db b_L_law_8 (i := 10) rfl, rfl, by decide⟩
theorem d_L_law_999 : vm_D q_L_law.2.1 999 1 1000 (.iconst 0) := vm_dD b_L_law_8 11 rfl rfl
theorem d_L_law_1000 : vm_D q_L_law.2.1 1000 1 1001 (.ireturn) := vm_dD b_L_law_8 12 rfl rfl
theorem d_L_law_982 : vm_D q_L_law.2.1 982 1 983 (.iconst 0) := vm_dD b_L_law_8 0 rfl rfl
theorem d_L_law_983 : vm_D q_L_law.2.1 983 1 984 (.ireturn) := vm_dD b_L_law_8 1 rfl rfl
theorem d_L_law_1004 : vm_D q_L_law.2.1 1004 1 1005 (.aload_n 1) := vm_dD b_L_law_8 14 rfl rfl
theorem d_L_law_1005 : vm_D q_L_law.2.1 1005 1 1006 (.aload_n 3) := vm_dD b_L_law_8 15 rfl rfl
theorem d_L_law_1006 : vm_D q_L_law.2.1 1006 3 1009 (.invokestatic 218) := vm_dD b_L_law_8 16 rfl rfl
theorem d_L_law_1009 : vm_D q_L_law.2.1 1009 2 1011 (.istore 5) := vm_dD b_L_law_8 17 rfl rfl
theorem d_L_law_1011 : vm_D q_L_law.2.1 1011 1 1012 (.aload_n 2) := vm_dD b_L_law_8 18 rfl rfl
theorem d_L_law_1012 : vm_D q_L_law.2.1 1012 3 1015 (.invokevirtual 220) := vm_dD b_L_law_8 19 rfl rfl
theorem d_L_law_1015 : vm_D q_L_law.2.1 1015 2 1017 (.istore 6) := vm_dD b_L_law_8 20 rfl rfl
theorem d_L_law_1017 : vm_D q_L_law.2.1 1017 1 1018 (.aload_n 2) := vm_dD b_L_law_8 21 rfl rfl
theorem d_L_law_1018 : vm_D q_L_law.2.1 1018 3 1021 (.invokevirtual 148) := vm_dD b_L_law_8 22 rfl rfl
theorem d_L_law_1021 : vm_D q_L_law.2.1 1021 2 1023 (.iload 5) := vm_dD b_L_law_8 23 rfl rfl
theorem d_L_law_1023 : vm_B q_L_law.2.1 1023 1026 1028 (fun o => .if_icmp .eq o) := ⟨5, vm_db b_L_law_8 (i := 24) rfl, rfl, by decide⟩
theorem d_L_law_1028 : vm_D q_L_law.2.1 1028 2 1030 (.iload 5) := vm_dD b_L_law_8 27 rfl rfl
theorem d_L_law_1030 : vm_B q_L_law.2.1 1030 1033 1045 (fun o => .ifCond .ne o) := ⟨15, vm_db b_L_law_8 (i := 28) rfl, rfl, by decide⟩
theorem d_L_law_1045 : ∃ off : Int, decode q_L_law.2.1 1045 = .ok (.goto off, 3) ∧ ((1045 : Nat) : Int) + off = ((2799 : Nat) : Int) := ⟨1754, vm_db b_L_law_8 (i := 38) rfl, by decide⟩
theorem d_L_law_1033 : vm_D q_L_law.2.1 1033 1 1034 (.aload_n 3) := vm_dD b_L_law_8 29 rfl rfl
theorem d_L_law_1034 : vm_D q_L_law.2.1 1034 1 1035 (.iconst 0) := vm_dD b_L_law_8 30 rfl rfl
theorem d_L_law_1035 : vm_D q_L_law.2.1 1035 1 1036 (.laload) := vm_dD b_L_law_8 31 rfl rfl
theorem d_L_law_1036 : vm_D q_L_law.2.1 1036 2 1038 (.iload 6) := vm_dD b_L_law_8 32 rfl rfl
theorem d_L_law_1038 : vm_D q_L_law.2.1 1038 1 1039 (.i2l) := vm_dD b_L_law_8 33 rfl rfl
theorem d_L_law_1039 : vm_D q_L_law.2.1 1039 1 1040 (.lcmp) := vm_dD b_L_law_8 34 rfl rfl
theorem d_L_law_1040 : vm_B q_L_law.2.1 1040 1043 1045 (fun o => .ifCond .eq o) := ⟨5, vm_db b_L_law_8 (i := 35) rfl, rfl, by decide⟩
theorem d_L_law_1043 : vm_D q_L_law.2.1 1043 1 1044 (.iconst 0) := vm_dD b_L_law_8 36 rfl rfl
theorem d_L_law_1044 : vm_D q_L_law.2.1 1044 1 1045 (.ireturn) := vm_dD b_L_law_8 37 rfl rfl
theorem d_L_law_1026 : vm_D q_L_law.2.1 1026 1 1027 (.iconst 0) := vm_dD b_L_law_8 25 rfl rfl
theorem d_L_law_1027 : vm_D q_L_law.2.1 1027 1 1028 (.ireturn) := vm_dD b_L_law_8 26 rfl rfl
theorem d_L_law_1048 : vm_D q_L_law.2.1 1048 1 1049 (.aload_n 1) := vm_dD b_L_law_8 39 rfl rfl
theorem d_L_law_1049 : vm_D q_L_law.2.1 1049 1 1050 (.aload_n 0) := vm_dD b_L_law_8 40 rfl rfl
theorem d_L_law_1050 : vm_D q_L_law.2.1 1050 2 1052 (.iload 4) := vm_dD b_L_law_8 41 rfl rfl
theorem d_L_law_1052 : vm_D q_L_law.2.1 1052 1 1053 (.iconst 1) := vm_dD b_L_law_8 42 rfl rfl
theorem d_L_law_1053 : vm_D q_L_law.2.1 1053 1 1054 (.iadd) := vm_dD b_L_law_8 43 rfl rfl
theorem d_L_law_1054 : vm_D q_L_law.2.1 1054 1 1055 (.iaload) := vm_dD b_L_law_8 44 rfl rfl
theorem d_L_law_1055 : vm_D q_L_law.2.1 1055 1 1056 (.aload_n 3) := vm_dD b_L_law_8 45 rfl rfl
theorem d_L_law_1056 : vm_D q_L_law.2.1 1056 3 1059 (.invokestatic 221) := vm_dD b_L_law_8 46 rfl rfl
theorem d_L_law_1059 : vm_D q_L_law.2.1 1059 2 1061 (.istore 5) := vm_dD b_L_law_8 47 rfl rfl
theorem d_L_law_1061 : vm_D q_L_law.2.1 1061 1 1062 (.aload_n 2) := vm_dD b_L_law_8 48 rfl rfl
theorem d_L_law_1062 : vm_D q_L_law.2.1 1062 1 1063 (.aload_n 0) := vm_dD b_L_law_8 49 rfl rfl
theorem d_L_law_1063 : vm_D q_L_law.2.1 1063 2 1065 (.iload 4) := vm_dD b_L_law_8 50 rfl rfl
theorem d_L_law_1065 : vm_D q_L_law.2.1 1065 1 1066 (.iconst 1) := vm_dD b_L_law_8 51 rfl rfl
theorem d_L_law_1066 : vm_D q_L_law.2.1 1066 1 1067 (.iadd) := vm_dD b_L_law_8 52 rfl rfl
theorem d_L_law_1067 : vm_D q_L_law.2.1 1067 1 1068 (.iaload) := vm_dD b_L_law_8 53 rfl rfl
theorem d_L_law_1068 : vm_D q_L_law.2.1 1068 3 1071 (.invokevirtual 223) := vm_dD b_L_law_8 54 rfl rfl
theorem d_L_law_1071 : vm_D q_L_law.2.1 1071 2 1073 (.istore 6) := vm_dD b_L_law_8 55 rfl rfl
theorem d_L_law_1073 : vm_D q_L_law.2.1 1073 1 1074 (.aload_n 2) := vm_dD b_L_law_8 56 rfl rfl
theorem d_L_law_1074 : vm_D q_L_law.2.1 1074 3 1077 (.invokevirtual 148) := vm_dD b_L_law_8 57 rfl rfl
theorem d_L_law_1077 : vm_D q_L_law.2.1 1077 2 1079 (.iload 5) := vm_dD b_L_law_8 58 rfl rfl
theorem d_L_law_1079 : vm_B q_L_law.2.1 1079 1082 1084 (fun o => .if_icmp .eq o) := ⟨5, vm_db b_L_law_8 (i := 59) rfl, rfl, by decide⟩
theorem d_L_law_1084 : vm_D q_L_law.2.1 1084 2 1086 (.iload 5) := vm_dD b_L_law_9 2 rfl rfl
theorem d_L_law_1086 : vm_B q_L_law.2.1 1086 1089 1101 (fun o => .ifCond .ne o) := ⟨15, vm_db b_L_law_9 (i := 3) rfl, rfl, by decide⟩
theorem d_L_law_1101 : ∃ off : Int, decode q_L_law.2.1 1101 = .ok (.goto off, 3) ∧ ((1101 : Nat) : Int) + off = ((2799 : Nat) : Int) := ⟨1698, vm_db b_L_law_9 (i := 13) rfl, by decide⟩
theorem d_L_law_1089 : vm_D q_L_law.2.1 1089 1 1090 (.aload_n 3) := vm_dD b_L_law_9 4 rfl rfl
theorem d_L_law_1090 : vm_D q_L_law.2.1 1090 1 1091 (.iconst 0) := vm_dD b_L_law_9 5 rfl rfl
theorem d_L_law_1091 : vm_D q_L_law.2.1 1091 1 1092 (.laload) := vm_dD b_L_law_9 6 rfl rfl
theorem d_L_law_1092 : vm_D q_L_law.2.1 1092 2 1094 (.iload 6) := vm_dD b_L_law_9 7 rfl rfl
theorem d_L_law_1094 : vm_D q_L_law.2.1 1094 1 1095 (.i2l) := vm_dD b_L_law_9 8 rfl rfl
theorem d_L_law_1095 : vm_D q_L_law.2.1 1095 1 1096 (.lcmp) := vm_dD b_L_law_9 9 rfl rfl
theorem d_L_law_1096 : vm_B q_L_law.2.1 1096 1099 1101 (fun o => .ifCond .eq o) := ⟨5, vm_db b_L_law_9 (i := 10) rfl, rfl, by decide⟩
theorem d_L_law_1099 : vm_D q_L_law.2.1 1099 1 1100 (.iconst 0) := vm_dD b_L_law_9 11 rfl rfl
theorem d_L_law_1100 : vm_D q_L_law.2.1 1100 1 1101 (.ireturn) := vm_dD b_L_law_9 12 rfl rfl
theorem d_L_law_1082 : vm_D q_L_law.2.1 1082 1 1083 (.iconst 0) := vm_dD b_L_law_9 0 rfl rfl
theorem d_L_law_1083 : vm_D q_L_law.2.1 1083 1 1084 (.ireturn) := vm_dD b_L_law_9 1 rfl rfl
theorem d_L_law_1104 : vm_D q_L_law.2.1 1104 1 1105 (.aload_n 1) := vm_dD b_L_law_9 14 rfl rfl
theorem d_L_law_1105 : vm_D q_L_law.2.1 1105 3 1108 (.invokevirtual 224) := vm_dD b_L_law_9 15 rfl rfl
theorem d_L_law_1108 : vm_D q_L_law.2.1 1108 1 1109 (.aload_n 2) := vm_dD b_L_law_9 16 rfl rfl
theorem d_L_law_1109 : vm_D q_L_law.2.1 1109 3 1112 (.invokevirtual 227) := vm_dD b_L_law_9 17 rfl rfl
theorem d_L_law_1112 : vm_B q_L_law.2.1 1112 1115 2799 (fun o => .if_icmp .eq o) := ⟨1687, vm_db b_L_law_9 (i := 18) rfl, rfl, by decide⟩
theorem d_L_law_1115 : vm_D q_L_law.2.1 1115 1 1116 (.iconst 0) := vm_dD b_L_law_9 19 rfl rfl
theorem d_L_law_1116 : vm_D q_L_law.2.1 1116 1 1117 (.ireturn) := vm_dD b_L_law_9 20 rfl rfl
theorem d_L_law_1117 : vm_D q_L_law.2.1 1117 1 1118 (.aload_n 1) := vm_dD b_L_law_9 21 rfl rfl
theorem d_L_law_1118 : vm_D q_L_law.2.1 1118 1 1119 (.aload_n 0) := vm_dD b_L_law_9 22 rfl rfl
theorem d_L_law_1119 : vm_D q_L_law.2.1 1119 2 1121 (.iload 4) := vm_dD b_L_law_9 23 rfl rfl
theorem d_L_law_1121 : vm_D q_L_law.2.1 1121 1 1122 (.iconst 1) := vm_dD b_L_law_9 24 rfl rfl
theorem d_L_law_1122 : vm_D q_L_law.2.1 1122 1 1123 (.iadd) := vm_dD b_L_law_9 25 rfl rfl
theorem d_L_law_1123 : vm_D q_L_law.2.1 1123 1 1124 (.iaload) := vm_dD b_L_law_9 26 rfl rfl
theorem d_L_law_1124 : vm_D q_L_law.2.1 1124 1 1125 (.aload_n 3) := vm_dD b_L_law_9 27 rfl rfl
theorem d_L_law_1125 : vm_D q_L_law.2.1 1125 3 1128 (.invokestatic 228) := vm_dD b_L_law_9 28 rfl rfl
theorem d_L_law_1128 : vm_D q_L_law.2.1 1128 2 1130 (.istore 5) := vm_dD b_L_law_9 29 rfl rfl
theorem d_L_law_1130 : vm_D q_L_law.2.1 1130 1 1131 (.aload_n 2) := vm_dD b_L_law_9 30 rfl rfl
theorem d_L_law_1131 : vm_D q_L_law.2.1 1131 1 1132 (.aload_n 0) := vm_dD b_L_law_9 31 rfl rfl
theorem d_L_law_1132 : vm_D q_L_law.2.1 1132 2 1134 (.iload 4) := vm_dD b_L_law_9 32 rfl rfl
theorem d_L_law_1134 : vm_D q_L_law.2.1 1134 1 1135 (.iconst 1) := vm_dD b_L_law_9 33 rfl rfl
theorem d_L_law_1135 : vm_D q_L_law.2.1 1135 1 1136 (.iadd) := vm_dD b_L_law_9 34 rfl rfl
theorem d_L_law_1136 : vm_D q_L_law.2.1 1136 1 1137 (.iaload) := vm_dD b_L_law_9 35 rfl rfl
theorem d_L_law_1137 : vm_D q_L_law.2.1 1137 3 1140 (.invokevirtual 230) := vm_dD b_L_law_9 36 rfl rfl
theorem d_L_law_1140 : vm_D q_L_law.2.1 1140 2 1142 (.istore 6) := vm_dD b_L_law_9 37 rfl rfl
theorem d_L_law_1142 : vm_D q_L_law.2.1 1142 1 1143 (.aload_n 2) := vm_dD b_L_law_9 38 rfl rfl
theorem d_L_law_1143 : vm_D q_L_law.2.1 1143 3 1146 (.invokevirtual 148) := vm_dD b_L_law_9 39 rfl rfl
theorem d_L_law_1146 : vm_D q_L_law.2.1 1146 2 1148 (.iload 5) := vm_dD b_L_law_9 40 rfl rfl
theorem d_L_law_1148 : vm_B q_L_law.2.1 1148 1151 1153 (fun o => .if_icmp .eq o) := ⟨5, vm_db b_L_law_9 (i := 41) rfl, rfl, by decide⟩
theorem d_L_law_1153 : vm_D q_L_law.2.1 1153 2 1155 (.iload 5) := vm_dD b_L_law_9 44 rfl rfl
theorem d_L_law_1155 : vm_B q_L_law.2.1 1155 1158 1170 (fun o => .ifCond .ne o) := ⟨15, vm_db b_L_law_9 (i := 45) rfl, rfl, by decide⟩
theorem d_L_law_1170 : ∃ off : Int, decode q_L_law.2.1 1170 = .ok (.goto off, 3) ∧ ((1170 : Nat) : Int) + off = ((2799 : Nat) : Int) := ⟨1629, vm_db b_L_law_9 (i := 55) rfl, by decide⟩
theorem d_L_law_1158 : vm_D q_L_law.2.1 1158 1 1159 (.aload_n 3) := vm_dD b_L_law_9 46 rfl rfl
theorem d_L_law_1159 : vm_D q_L_law.2.1 1159 1 1160 (.iconst 0) := vm_dD b_L_law_9 47 rfl rfl
theorem d_L_law_1160 : vm_D q_L_law.2.1 1160 1 1161 (.laload) := vm_dD b_L_law_9 48 rfl rfl
theorem d_L_law_1161 : vm_D q_L_law.2.1 1161 2 1163 (.iload 6) := vm_dD b_L_law_9 49 rfl rfl
theorem d_L_law_1163 : vm_D q_L_law.2.1 1163 1 1164 (.i2l) := vm_dD b_L_law_9 50 rfl rfl
theorem d_L_law_1164 : vm_D q_L_law.2.1 1164 1 1165 (.lcmp) := vm_dD b_L_law_9 51 rfl rfl
theorem d_L_law_1165 : vm_B q_L_law.2.1 1165 1168 1170 (fun o => .ifCond .eq o) := ⟨5, vm_db b_L_law_9 (i := 52) rfl, rfl, by decide⟩
theorem d_L_law_1168 : vm_D q_L_law.2.1 1168 1 1169 (.iconst 0) := vm_dD b_L_law_9 53 rfl rfl
theorem d_L_law_1169 : vm_D q_L_law.2.1 1169 1 1170 (.ireturn) := vm_dD b_L_law_9 54 rfl rfl
theorem d_L_law_1151 : vm_D q_L_law.2.1 1151 1 1152 (.iconst 0) := vm_dD b_L_law_9 42 rfl rfl
theorem d_L_law_1152 : vm_D q_L_law.2.1 1152 1 1153 (.ireturn) := vm_dD b_L_law_9 43 rfl rfl
theorem d_L_law_1173 : vm_D q_L_law.2.1 1173 1 1174 (.aload_n 1) := vm_dD b_L_law_9 56 rfl rfl
theorem d_L_law_1174 : vm_D q_L_law.2.1 1174 1 1175 (.aload_n 0) := vm_dD b_L_law_9 57 rfl rfl
theorem d_L_law_1175 : vm_D q_L_law.2.1 1175 2 1177 (.iload 4) := vm_dD b_L_law_9 58 rfl rfl
theorem d_L_law_1177 : vm_D q_L_law.2.1 1177 1 1178 (.iconst 1) := vm_dD b_L_law_9 59 rfl rfl
theorem d_L_law_1178 : vm_D q_L_law.2.1 1178 1 1179 (.iadd) := vm_dD b_L_law_10 0 rfl rfl
theorem d_L_law_1179 : vm_D q_L_law.2.1 1179 1 1180 (.iaload) := vm_dD b_L_law_10 1 rfl rfl
theorem d_L_law_1180 : vm_D q_L_law.2.1 1180 1 1181 (.aload_n 3) := vm_dD b_L_law_10 2 rfl rfl
theorem d_L_law_1181 : vm_D q_L_law.2.1 1181 3 1184 (.invokestatic 231) := vm_dD b_L_law_10 3 rfl rfl
theorem d_L_law_1184 : vm_D q_L_law.2.1 1184 2 1186 (.istore 5) := vm_dD b_L_law_10 4 rfl rfl
theorem d_L_law_1186 : vm_D q_L_law.2.1 1186 1 1187 (.aload_n 2) := vm_dD b_L_law_10 5 rfl rfl
theorem d_L_law_1187 : vm_D q_L_law.2.1 1187 1 1188 (.aload_n 0) := vm_dD b_L_law_10 6 rfl rfl
theorem d_L_law_1188 : vm_D q_L_law.2.1 1188 2 1190 (.iload 4) := vm_dD b_L_law_10 7 rfl rfl
theorem d_L_law_1190 : vm_D q_L_law.2.1 1190 1 1191 (.iconst 1) := vm_dD b_L_law_10 8 rfl rfl
theorem d_L_law_1191 : vm_D q_L_law.2.1 1191 1 1192 (.iadd) := vm_dD b_L_law_10 9 rfl rfl
theorem d_L_law_1192 : vm_D q_L_law.2.1 1192 1 1193 (.iaload) := vm_dD b_L_law_10 10 rfl rfl
theorem d_L_law_1193 : vm_D q_L_law.2.1 1193 3 1196 (.invokevirtual 233) := vm_dD b_L_law_10 11 rfl rfl
theorem d_L_law_1196 : vm_D q_L_law.2.1 1196 2 1198 (.istore 6) := vm_dD b_L_law_10 12 rfl rfl
theorem d_L_law_1198 : vm_D q_L_law.2.1 1198 1 1199 (.aload_n 2) := vm_dD b_L_law_10 13 rfl rfl
theorem d_L_law_1199 : vm_D q_L_law.2.1 1199 3 1202 (.invokevirtual 148) := vm_dD b_L_law_10 14 rfl rfl
theorem d_L_law_1202 : vm_D q_L_law.2.1 1202 2 1204 (.iload 5) := vm_dD b_L_law_10 15 rfl rfl
theorem d_L_law_1204 : vm_B q_L_law.2.1 1204 1207 1209 (fun o => .if_icmp .eq o) := ⟨5, vm_db b_L_law_10 (i := 16) rfl, rfl, by decide⟩
theorem d_L_law_1209 : vm_D q_L_law.2.1 1209 2 1211 (.iload 5) := vm_dD b_L_law_10 19 rfl rfl
theorem d_L_law_1211 : vm_B q_L_law.2.1 1211 1214 1226 (fun o => .ifCond .ne o) := ⟨15, vm_db b_L_law_10 (i := 20) rfl, rfl, by decide⟩
theorem d_L_law_1226 : ∃ off : Int, decode q_L_law.2.1 1226 = .ok (.goto off, 3) ∧ ((1226 : Nat) : Int) + off = ((2799 : Nat) : Int) := ⟨1573, vm_db b_L_law_10 (i := 30) rfl, by decide⟩
theorem d_L_law_1214 : vm_D q_L_law.2.1 1214 1 1215 (.aload_n 3) := vm_dD b_L_law_10 21 rfl rfl
theorem d_L_law_1215 : vm_D q_L_law.2.1 1215 1 1216 (.iconst 0) := vm_dD b_L_law_10 22 rfl rfl
theorem d_L_law_1216 : vm_D q_L_law.2.1 1216 1 1217 (.laload) := vm_dD b_L_law_10 23 rfl rfl
theorem d_L_law_1217 : vm_D q_L_law.2.1 1217 2 1219 (.iload 6) := vm_dD b_L_law_10 24 rfl rfl
theorem d_L_law_1219 : vm_D q_L_law.2.1 1219 1 1220 (.i2l) := vm_dD b_L_law_10 25 rfl rfl
theorem d_L_law_1220 : vm_D q_L_law.2.1 1220 1 1221 (.lcmp) := vm_dD b_L_law_10 26 rfl rfl
theorem d_L_law_1221 : vm_B q_L_law.2.1 1221 1224 1226 (fun o => .ifCond .eq o) := ⟨5, vm_db b_L_law_10 (i := 27) rfl, rfl, by decide⟩
theorem d_L_law_1224 : vm_D q_L_law.2.1 1224 1 1225 (.iconst 0) := vm_dD b_L_law_10 28 rfl rfl
theorem d_L_law_1225 : vm_D q_L_law.2.1 1225 1 1226 (.ireturn) := vm_dD b_L_law_10 29 rfl rfl
theorem d_L_law_1207 : vm_D q_L_law.2.1 1207 1 1208 (.iconst 0) := vm_dD b_L_law_10 17 rfl rfl
theorem d_L_law_1208 : vm_D q_L_law.2.1 1208 1 1209 (.ireturn) := vm_dD b_L_law_10 18 rfl rfl
theorem d_L_law_1229 : vm_D q_L_law.2.1 1229 1 1230 (.aload_n 1) := vm_dD b_L_law_10 31 rfl rfl
theorem d_L_law_1230 : vm_D q_L_law.2.1 1230 1 1231 (.aload_n 0) := vm_dD b_L_law_10 32 rfl rfl
theorem d_L_law_1231 : vm_D q_L_law.2.1 1231 2 1233 (.iload 4) := vm_dD b_L_law_10 33 rfl rfl
theorem d_L_law_1233 : vm_D q_L_law.2.1 1233 1 1234 (.iconst 1) := vm_dD b_L_law_10 34 rfl rfl
theorem d_L_law_1234 : vm_D q_L_law.2.1 1234 1 1235 (.iadd) := vm_dD b_L_law_10 35 rfl rfl
theorem d_L_law_1235 : vm_D q_L_law.2.1 1235 1 1236 (.iaload) := vm_dD b_L_law_10 36 rfl rfl
theorem d_L_law_1236 : vm_D q_L_law.2.1 1236 1 1237 (.aload_n 0) := vm_dD b_L_law_10 37 rfl rfl
theorem d_L_law_1237 : vm_D q_L_law.2.1 1237 2 1239 (.iload 4) := vm_dD b_L_law_10 38 rfl rfl
theorem d_L_law_1239 : vm_D q_L_law.2.1 1239 1 1240 (.iconst 2) := vm_dD b_L_law_10 39 rfl rfl
theorem d_L_law_1240 : vm_D q_L_law.2.1 1240 1 1241 (.iadd) := vm_dD b_L_law_10 40 rfl rfl
theorem d_L_law_1241 : vm_D q_L_law.2.1 1241 1 1242 (.iaload) := vm_dD b_L_law_10 41 rfl rfl
theorem d_L_law_1242 : vm_D q_L_law.2.1 1242 1 1243 (.aload_n 0) := vm_dD b_L_law_10 42 rfl rfl
theorem d_L_law_1243 : vm_D q_L_law.2.1 1243 2 1245 (.iload 4) := vm_dD b_L_law_10 43 rfl rfl
theorem d_L_law_1245 : vm_D q_L_law.2.1 1245 1 1246 (.iconst 3) := vm_dD b_L_law_10 44 rfl rfl
theorem d_L_law_1246 : vm_D q_L_law.2.1 1246 1 1247 (.iadd) := vm_dD b_L_law_10 45 rfl rfl
theorem d_L_law_1247 : vm_D q_L_law.2.1 1247 1 1248 (.iaload) := vm_dD b_L_law_10 46 rfl rfl
theorem d_L_law_1248 : vm_D q_L_law.2.1 1248 1 1249 (.aload_n 3) := vm_dD b_L_law_10 47 rfl rfl
theorem d_L_law_1249 : vm_D q_L_law.2.1 1249 3 1252 (.invokestatic 234) := vm_dD b_L_law_10 48 rfl rfl
theorem d_L_law_1252 : vm_D q_L_law.2.1 1252 2 1254 (.istore 5) := vm_dD b_L_law_10 49 rfl rfl
theorem d_L_law_1254 : vm_D q_L_law.2.1 1254 1 1255 (.aload_n 2) := vm_dD b_L_law_10 50 rfl rfl
theorem d_L_law_1255 : vm_D q_L_law.2.1 1255 1 1256 (.aload_n 0) := vm_dD b_L_law_10 51 rfl rfl
theorem d_L_law_1256 : vm_D q_L_law.2.1 1256 2 1258 (.iload 4) := vm_dD b_L_law_10 52 rfl rfl
theorem d_L_law_1258 : vm_D q_L_law.2.1 1258 1 1259 (.iconst 1) := vm_dD b_L_law_10 53 rfl rfl
theorem d_L_law_1259 : vm_D q_L_law.2.1 1259 1 1260 (.iadd) := vm_dD b_L_law_10 54 rfl rfl
theorem d_L_law_1260 : vm_D q_L_law.2.1 1260 1 1261 (.iaload) := vm_dD b_L_law_10 55 rfl rfl
theorem d_L_law_1261 : vm_D q_L_law.2.1 1261 1 1262 (.aload_n 0) := vm_dD b_L_law_10 56 rfl rfl
theorem d_L_law_1262 : vm_D q_L_law.2.1 1262 2 1264 (.iload 4) := vm_dD b_L_law_10 57 rfl rfl
theorem d_L_law_1264 : vm_D q_L_law.2.1 1264 1 1265 (.iconst 2) := vm_dD b_L_law_10 58 rfl rfl
theorem d_L_law_1265 : vm_D q_L_law.2.1 1265 1 1266 (.iadd) := vm_dD b_L_law_10 59 rfl rfl
theorem d_L_law_1266 : vm_D q_L_law.2.1 1266 1 1267 (.iaload) := vm_dD b_L_law_11 0 rfl rfl
theorem d_L_law_1267 : vm_D q_L_law.2.1 1267 1 1268 (.aload_n 0) := vm_dD b_L_law_11 1 rfl rfl
theorem d_L_law_1268 : vm_D q_L_law.2.1 1268 2 1270 (.iload 4) := vm_dD b_L_law_11 2 rfl rfl
theorem d_L_law_1270 : vm_D q_L_law.2.1 1270 1 1271 (.iconst 3) := vm_dD b_L_law_11 3 rfl rfl
theorem d_L_law_1271 : vm_D q_L_law.2.1 1271 1 1272 (.iadd) := vm_dD b_L_law_11 4 rfl rfl
theorem d_L_law_1272 : vm_D q_L_law.2.1 1272 1 1273 (.iaload) := vm_dD b_L_law_11 5 rfl rfl
theorem d_L_law_1273 : vm_D q_L_law.2.1 1273 3 1276 (.invokevirtual 237) := vm_dD b_L_law_11 6 rfl rfl
theorem d_L_law_1276 : vm_D q_L_law.2.1 1276 2 1278 (.istore 6) := vm_dD b_L_law_11 7 rfl rfl
theorem d_L_law_1278 : vm_D q_L_law.2.1 1278 1 1279 (.aload_n 2) := vm_dD b_L_law_11 8 rfl rfl
theorem d_L_law_1279 : vm_D q_L_law.2.1 1279 3 1282 (.invokevirtual 148) := vm_dD b_L_law_11 9 rfl rfl
theorem d_L_law_1282 : vm_D q_L_law.2.1 1282 2 1284 (.iload 5) := vm_dD b_L_law_11 10 rfl rfl
theorem d_L_law_1284 : vm_B q_L_law.2.1 1284 1287 1289 (fun o => .if_icmp .eq o) := ⟨5, vm_db b_L_law_11 (i := 11) rfl, rfl, by decide⟩
theorem d_L_law_1289 : vm_D q_L_law.2.1 1289 2 1291 (.iload 5) := vm_dD b_L_law_11 14 rfl rfl
theorem d_L_law_1291 : vm_B q_L_law.2.1 1291 1294 1306 (fun o => .ifCond .ne o) := ⟨15, vm_db b_L_law_11 (i := 15) rfl, rfl, by decide⟩
theorem d_L_law_1306 : ∃ off : Int, decode q_L_law.2.1 1306 = .ok (.goto off, 3) ∧ ((1306 : Nat) : Int) + off = ((2799 : Nat) : Int) := ⟨1493, vm_db b_L_law_11 (i := 25) rfl, by decide⟩
theorem d_L_law_1294 : vm_D q_L_law.2.1 1294 1 1295 (.aload_n 3) := vm_dD b_L_law_11 16 rfl rfl
theorem d_L_law_1295 : vm_D q_L_law.2.1 1295 1 1296 (.iconst 0) := vm_dD b_L_law_11 17 rfl rfl
theorem d_L_law_1296 : vm_D q_L_law.2.1 1296 1 1297 (.laload) := vm_dD b_L_law_11 18 rfl rfl
theorem d_L_law_1297 : vm_D q_L_law.2.1 1297 2 1299 (.iload 6) := vm_dD b_L_law_11 19 rfl rfl
theorem d_L_law_1299 : vm_D q_L_law.2.1 1299 1 1300 (.i2l) := vm_dD b_L_law_11 20 rfl rfl
theorem d_L_law_1300 : vm_D q_L_law.2.1 1300 1 1301 (.lcmp) := vm_dD b_L_law_11 21 rfl rfl
theorem d_L_law_1301 : vm_B q_L_law.2.1 1301 1304 1306 (fun o => .ifCond .eq o) := ⟨5, vm_db b_L_law_11 (i := 22) rfl, rfl, by decide⟩
theorem d_L_law_1304 : vm_D q_L_law.2.1 1304 1 1305 (.iconst 0) := vm_dD b_L_law_11 23 rfl rfl
theorem d_L_law_1305 : vm_D q_L_law.2.1 1305 1 1306 (.ireturn) := vm_dD b_L_law_11 24 rfl rfl
theorem d_L_law_1287 : vm_D q_L_law.2.1 1287 1 1288 (.iconst 0) := vm_dD b_L_law_11 12 rfl rfl
theorem d_L_law_1288 : vm_D q_L_law.2.1 1288 1 1289 (.ireturn) := vm_dD b_L_law_11 13 rfl rfl
theorem d_L_law_1309 : vm_D q_L_law.2.1 1309 1 1310 (.aload_n 1) := vm_dD b_L_law_11 26 rfl rfl
theorem d_L_law_1310 : vm_D q_L_law.2.1 1310 1 1311 (.aload_n 0) := vm_dD b_L_law_11 27 rfl rfl
theorem d_L_law_1311 : vm_D q_L_law.2.1 1311 2 1313 (.iload 4) := vm_dD b_L_law_11 28 rfl rfl
theorem d_L_law_1313 : vm_D q_L_law.2.1 1313 1 1314 (.iconst 1) := vm_dD b_L_law_11 29 rfl rfl
theorem d_L_law_1314 : vm_D q_L_law.2.1 1314 1 1315 (.iadd) := vm_dD b_L_law_11 30 rfl rfl
theorem d_L_law_1315 : vm_D q_L_law.2.1 1315 1 1316 (.iaload) := vm_dD b_L_law_11 31 rfl rfl
theorem d_L_law_1316 : vm_D q_L_law.2.1 1316 1 1317 (.aload_n 0) := vm_dD b_L_law_11 32 rfl rfl
theorem d_L_law_1317 : vm_D q_L_law.2.1 1317 2 1319 (.iload 4) := vm_dD b_L_law_11 33 rfl rfl
theorem d_L_law_1319 : vm_D q_L_law.2.1 1319 1 1320 (.iconst 2) := vm_dD b_L_law_11 34 rfl rfl
theorem d_L_law_1320 : vm_D q_L_law.2.1 1320 1 1321 (.iadd) := vm_dD b_L_law_11 35 rfl rfl
theorem d_L_law_1321 : vm_D q_L_law.2.1 1321 1 1322 (.iaload) := vm_dD b_L_law_11 36 rfl rfl
theorem d_L_law_1322 : vm_D q_L_law.2.1 1322 1 1323 (.aload_n 0) := vm_dD b_L_law_11 37 rfl rfl
theorem d_L_law_1323 : vm_D q_L_law.2.1 1323 2 1325 (.iload 4) := vm_dD b_L_law_11 38 rfl rfl
theorem d_L_law_1325 : vm_D q_L_law.2.1 1325 1 1326 (.iconst 3) := vm_dD b_L_law_11 39 rfl rfl
theorem d_L_law_1326 : vm_D q_L_law.2.1 1326 1 1327 (.iadd) := vm_dD b_L_law_11 40 rfl rfl
theorem d_L_law_1327 : vm_D q_L_law.2.1 1327 1 1328 (.iaload) := vm_dD b_L_law_11 41 rfl rfl
theorem d_L_law_1328 : vm_D q_L_law.2.1 1328 1 1329 (.aload_n 3) := vm_dD b_L_law_11 42 rfl rfl
theorem d_L_law_1329 : vm_D q_L_law.2.1 1329 3 1332 (.invokestatic 238) := vm_dD b_L_law_11 43 rfl rfl
theorem d_L_law_1332 : vm_D q_L_law.2.1 1332 2 1334 (.istore 5) := vm_dD b_L_law_11 44 rfl rfl
theorem d_L_law_1334 : vm_D q_L_law.2.1 1334 1 1335 (.aload_n 2) := vm_dD b_L_law_11 45 rfl rfl
theorem d_L_law_1335 : vm_D q_L_law.2.1 1335 1 1336 (.aload_n 0) := vm_dD b_L_law_11 46 rfl rfl
theorem d_L_law_1336 : vm_D q_L_law.2.1 1336 2 1338 (.iload 4) := vm_dD b_L_law_11 47 rfl rfl
theorem d_L_law_1338 : vm_D q_L_law.2.1 1338 1 1339 (.iconst 1) := vm_dD b_L_law_11 48 rfl rfl
theorem d_L_law_1339 : vm_D q_L_law.2.1 1339 1 1340 (.iadd) := vm_dD b_L_law_11 49 rfl rfl
theorem d_L_law_1340 : vm_D q_L_law.2.1 1340 1 1341 (.iaload) := vm_dD b_L_law_11 50 rfl rfl
theorem d_L_law_1341 : vm_D q_L_law.2.1 1341 1 1342 (.aload_n 0) := vm_dD b_L_law_11 51 rfl rfl
theorem d_L_law_1342 : vm_D q_L_law.2.1 1342 2 1344 (.iload 4) := vm_dD b_L_law_11 52 rfl rfl
theorem d_L_law_1344 : vm_D q_L_law.2.1 1344 1 1345 (.iconst 2) := vm_dD b_L_law_11 53 rfl rfl
theorem d_L_law_1345 : vm_D q_L_law.2.1 1345 1 1346 (.iadd) := vm_dD b_L_law_11 54 rfl rfl
theorem d_L_law_1346 : vm_D q_L_law.2.1 1346 1 1347 (.iaload) := vm_dD b_L_law_11 55 rfl rfl
theorem d_L_law_1347 : vm_D q_L_law.2.1 1347 1 1348 (.aload_n 0) := vm_dD b_L_law_11 56 rfl rfl
theorem d_L_law_1348 : vm_D q_L_law.2.1 1348 2 1350 (.iload 4) := vm_dD b_L_law_11 57 rfl rfl
theorem d_L_law_1350 : vm_D q_L_law.2.1 1350 1 1351 (.iconst 3) := vm_dD b_L_law_11 58 rfl rfl
theorem d_L_law_1351 : vm_D q_L_law.2.1 1351 1 1352 (.iadd) := vm_dD b_L_law_11 59 rfl rfl
theorem d_L_law_1352 : vm_D q_L_law.2.1 1352 1 1353 (.iaload) := vm_dD b_L_law_12 0 rfl rfl
theorem d_L_law_1353 : vm_D q_L_law.2.1 1353 3 1356 (.invokevirtual 240) := vm_dD b_L_law_12 1 rfl rfl
theorem d_L_law_1356 : vm_D q_L_law.2.1 1356 2 1358 (.lstore 6) := vm_dD b_L_law_12 2 rfl rfl
theorem d_L_law_1358 : vm_D q_L_law.2.1 1358 1 1359 (.aload_n 2) := vm_dD b_L_law_12 3 rfl rfl
theorem d_L_law_1359 : vm_D q_L_law.2.1 1359 3 1362 (.invokevirtual 148) := vm_dD b_L_law_12 4 rfl rfl
theorem d_L_law_1362 : vm_D q_L_law.2.1 1362 2 1364 (.iload 5) := vm_dD b_L_law_12 5 rfl rfl
theorem d_L_law_1364 : vm_B q_L_law.2.1 1364 1367 1369 (fun o => .if_icmp .eq o) := ⟨5, vm_db b_L_law_12 (i := 6) rfl, rfl, by decide⟩
theorem d_L_law_1369 : vm_D q_L_law.2.1 1369 2 1371 (.iload 5) := vm_dD b_L_law_12 9 rfl rfl
theorem d_L_law_1371 : vm_B q_L_law.2.1 1371 1374 1385 (fun o => .ifCond .ne o) := ⟨14, vm_db b_L_law_12 (i := 10) rfl, rfl, by decide⟩
theorem d_L_law_1385 : ∃ off : Int, decode q_L_law.2.1 1385 = .ok (.goto off, 3) ∧ ((1385 : Nat) : Int) + off = ((2799 : Nat) : Int) := ⟨1414, vm_db b_L_law_12 (i := 19) rfl, by decide⟩
theorem d_L_law_1374 : vm_D q_L_law.2.1 1374 1 1375 (.aload_n 3) := vm_dD b_L_law_12 11 rfl rfl
theorem d_L_law_1375 : vm_D q_L_law.2.1 1375 1 1376 (.iconst 0) := vm_dD b_L_law_12 12 rfl rfl
theorem d_L_law_1376 : vm_D q_L_law.2.1 1376 1 1377 (.laload) := vm_dD b_L_law_12 13 rfl rfl
theorem d_L_law_1377 : vm_D q_L_law.2.1 1377 2 1379 (.lload 6) := vm_dD b_L_law_12 14 rfl rfl
theorem d_L_law_1379 : vm_D q_L_law.2.1 1379 1 1380 (.lcmp) := vm_dD b_L_law_12 15 rfl rfl
theorem d_L_law_1380 : vm_B q_L_law.2.1 1380 1383 1385 (fun o => .ifCond .eq o) := ⟨5, vm_db b_L_law_12 (i := 16) rfl, rfl, by decide⟩
theorem d_L_law_1383 : vm_D q_L_law.2.1 1383 1 1384 (.iconst 0) := vm_dD b_L_law_12 17 rfl rfl
theorem d_L_law_1384 : vm_D q_L_law.2.1 1384 1 1385 (.ireturn) := vm_dD b_L_law_12 18 rfl rfl
theorem d_L_law_1367 : vm_D q_L_law.2.1 1367 1 1368 (.iconst 0) := vm_dD b_L_law_12 7 rfl rfl
theorem d_L_law_1368 : vm_D q_L_law.2.1 1368 1 1369 (.ireturn) := vm_dD b_L_law_12 8 rfl rfl
theorem d_L_law_1388 : vm_D q_L_law.2.1 1388 1 1389 (.aload_n 1) := vm_dD b_L_law_12 20 rfl rfl
theorem d_L_law_1389 : vm_D q_L_law.2.1 1389 1 1390 (.aload_n 0) := vm_dD b_L_law_12 21 rfl rfl
theorem d_L_law_1390 : vm_D q_L_law.2.1 1390 2 1392 (.iload 4) := vm_dD b_L_law_12 22 rfl rfl
theorem d_L_law_1392 : vm_D q_L_law.2.1 1392 1 1393 (.iconst 1) := vm_dD b_L_law_12 23 rfl rfl
theorem d_L_law_1393 : vm_D q_L_law.2.1 1393 1 1394 (.iadd) := vm_dD b_L_law_12 24 rfl rfl
theorem d_L_law_1394 : vm_D q_L_law.2.1 1394 1 1395 (.iaload) := vm_dD b_L_law_12 25 rfl rfl
theorem d_L_law_1395 : vm_D q_L_law.2.1 1395 1 1396 (.aload_n 0) := vm_dD b_L_law_12 26 rfl rfl
theorem d_L_law_1396 : vm_D q_L_law.2.1 1396 2 1398 (.iload 4) := vm_dD b_L_law_12 27 rfl rfl
theorem d_L_law_1398 : vm_D q_L_law.2.1 1398 1 1399 (.iconst 2) := vm_dD b_L_law_12 28 rfl rfl
theorem d_L_law_1399 : vm_D q_L_law.2.1 1399 1 1400 (.iadd) := vm_dD b_L_law_12 29 rfl rfl
theorem d_L_law_1400 : vm_D q_L_law.2.1 1400 1 1401 (.iaload) := vm_dD b_L_law_12 30 rfl rfl
theorem d_L_law_1401 : vm_D q_L_law.2.1 1401 1 1402 (.aload_n 0) := vm_dD b_L_law_12 31 rfl rfl
theorem d_L_law_1402 : vm_D q_L_law.2.1 1402 2 1404 (.iload 4) := vm_dD b_L_law_12 32 rfl rfl
theorem d_L_law_1404 : vm_D q_L_law.2.1 1404 1 1405 (.iconst 3) := vm_dD b_L_law_12 33 rfl rfl
theorem d_L_law_1405 : vm_D q_L_law.2.1 1405 1 1406 (.iadd) := vm_dD b_L_law_12 34 rfl rfl
theorem d_L_law_1406 : vm_D q_L_law.2.1 1406 1 1407 (.iaload) := vm_dD b_L_law_12 35 rfl rfl
theorem d_L_law_1407 : vm_D q_L_law.2.1 1407 1 1408 (.aload_n 0) := vm_dD b_L_law_12 36 rfl rfl
theorem d_L_law_1408 : vm_D q_L_law.2.1 1408 2 1410 (.iload 4) := vm_dD b_L_law_12 37 rfl rfl
theorem d_L_law_1410 : vm_D q_L_law.2.1 1410 1 1411 (.iconst 4) := vm_dD b_L_law_12 38 rfl rfl
theorem d_L_law_1411 : vm_D q_L_law.2.1 1411 1 1412 (.iadd) := vm_dD b_L_law_12 39 rfl rfl
theorem d_L_law_1412 : vm_D q_L_law.2.1 1412 1 1413 (.iaload) := vm_dD b_L_law_12 40 rfl rfl
theorem d_L_law_1413 : vm_D q_L_law.2.1 1413 1 1414 (.i2l) := vm_dD b_L_law_12 41 rfl rfl
theorem d_L_law_1414 : vm_D q_L_law.2.1 1414 2 1416 (.bipush 32) := vm_dD b_L_law_12 42 rfl rfl
theorem d_L_law_1416 : vm_D q_L_law.2.1 1416 1 1417 (.lshl) := vm_dD b_L_law_12 43 rfl rfl
theorem d_L_law_1417 : vm_D q_L_law.2.1 1417 1 1418 (.aload_n 0) := vm_dD b_L_law_12 44 rfl rfl
theorem d_L_law_1418 : vm_D q_L_law.2.1 1418 2 1420 (.iload 4) := vm_dD b_L_law_12 45 rfl rfl
theorem d_L_law_1420 : vm_D q_L_law.2.1 1420 1 1421 (.iconst 5) := vm_dD b_L_law_12 46 rfl rfl
theorem d_L_law_1421 : vm_D q_L_law.2.1 1421 1 1422 (.iadd) := vm_dD b_L_law_12 47 rfl rfl
theorem d_L_law_1422 : vm_D q_L_law.2.1 1422 1 1423 (.iaload) := vm_dD b_L_law_12 48 rfl rfl
theorem d_L_law_1423 : vm_D q_L_law.2.1 1423 1 1424 (.i2l) := vm_dD b_L_law_12 49 rfl rfl
theorem d_L_law_1424 : vm_D q_L_law.2.1 1424 3 1427 (.ldc2_w 241) := vm_dD b_L_law_12 50 rfl rfl
theorem d_L_law_1427 : vm_D q_L_law.2.1 1427 1 1428 (.land) := vm_dD b_L_law_12 51 rfl rfl
theorem d_L_law_1428 : vm_D q_L_law.2.1 1428 1 1429 (.lor) := vm_dD b_L_law_12 52 rfl rfl
theorem d_L_law_1429 : vm_D q_L_law.2.1 1429 1 1430 (.aload_n 3) := vm_dD b_L_law_12 53 rfl rfl
theorem d_L_law_1430 : vm_D q_L_law.2.1 1430 3 1433 (.invokestatic 243) := vm_dD b_L_law_12 54 rfl rfl
theorem d_L_law_1433 : vm_D q_L_law.2.1 1433 2 1435 (.istore 5) := vm_dD b_L_law_12 55 rfl rfl
theorem d_L_law_1435 : vm_D q_L_law.2.1 1435 1 1436 (.aload_n 2) := vm_dD b_L_law_12 56 rfl rfl
theorem d_L_law_1436 : vm_D q_L_law.2.1 1436 1 1437 (.aload_n 0) := vm_dD b_L_law_12 57 rfl rfl
theorem d_L_law_1437 : vm_D q_L_law.2.1 1437 2 1439 (.iload 4) := vm_dD b_L_law_12 58 rfl rfl
theorem d_L_law_1439 : vm_D q_L_law.2.1 1439 1 1440 (.iconst 1) := vm_dD b_L_law_12 59 rfl rfl
theorem d_L_law_1440 : vm_D q_L_law.2.1 1440 1 1441 (.iadd) := vm_dD b_L_law_13 0 rfl rfl
theorem d_L_law_1441 : vm_D q_L_law.2.1 1441 1 1442 (.iaload) := vm_dD b_L_law_13 1 rfl rfl
theorem d_L_law_1442 : vm_D q_L_law.2.1 1442 1 1443 (.aload_n 0) := vm_dD b_L_law_13 2 rfl rfl
theorem d_L_law_1443 : vm_D q_L_law.2.1 1443 2 1445 (.iload 4) := vm_dD b_L_law_13 3 rfl rfl
theorem d_L_law_1445 : vm_D q_L_law.2.1 1445 1 1446 (.iconst 2) := vm_dD b_L_law_13 4 rfl rfl
theorem d_L_law_1446 : vm_D q_L_law.2.1 1446 1 1447 (.iadd) := vm_dD b_L_law_13 5 rfl rfl
theorem d_L_law_1447 : vm_D q_L_law.2.1 1447 1 1448 (.iaload) := vm_dD b_L_law_13 6 rfl rfl
theorem d_L_law_1448 : vm_D q_L_law.2.1 1448 1 1449 (.aload_n 0) := vm_dD b_L_law_13 7 rfl rfl
theorem d_L_law_1449 : vm_D q_L_law.2.1 1449 2 1451 (.iload 4) := vm_dD b_L_law_13 8 rfl rfl
theorem d_L_law_1451 : vm_D q_L_law.2.1 1451 1 1452 (.iconst 3) := vm_dD b_L_law_13 9 rfl rfl
theorem d_L_law_1452 : vm_D q_L_law.2.1 1452 1 1453 (.iadd) := vm_dD b_L_law_13 10 rfl rfl
theorem d_L_law_1453 : vm_D q_L_law.2.1 1453 1 1454 (.iaload) := vm_dD b_L_law_13 11 rfl rfl
theorem d_L_law_1454 : vm_D q_L_law.2.1 1454 1 1455 (.aload_n 0) := vm_dD b_L_law_13 12 rfl rfl
theorem d_L_law_1455 : vm_D q_L_law.2.1 1455 2 1457 (.iload 4) := vm_dD b_L_law_13 13 rfl rfl
theorem d_L_law_1457 : vm_D q_L_law.2.1 1457 1 1458 (.iconst 4) := vm_dD b_L_law_13 14 rfl rfl
theorem d_L_law_1458 : vm_D q_L_law.2.1 1458 1 1459 (.iadd) := vm_dD b_L_law_13 15 rfl rfl
theorem d_L_law_1459 : vm_D q_L_law.2.1 1459 1 1460 (.iaload) := vm_dD b_L_law_13 16 rfl rfl
theorem d_L_law_1460 : vm_D q_L_law.2.1 1460 1 1461 (.i2l) := vm_dD b_L_law_13 17 rfl rfl
theorem d_L_law_1461 : vm_D q_L_law.2.1 1461 2 1463 (.bipush 32) := vm_dD b_L_law_13 18 rfl rfl
theorem d_L_law_1463 : vm_D q_L_law.2.1 1463 1 1464 (.lshl) := vm_dD b_L_law_13 19 rfl rfl
theorem d_L_law_1464 : vm_D q_L_law.2.1 1464 1 1465 (.aload_n 0) := vm_dD b_L_law_13 20 rfl rfl
theorem d_L_law_1465 : vm_D q_L_law.2.1 1465 2 1467 (.iload 4) := vm_dD b_L_law_13 21 rfl rfl
theorem d_L_law_1467 : vm_D q_L_law.2.1 1467 1 1468 (.iconst 5) := vm_dD b_L_law_13 22 rfl rfl
theorem d_L_law_1468 : vm_D q_L_law.2.1 1468 1 1469 (.iadd) := vm_dD b_L_law_13 23 rfl rfl
theorem d_L_law_1469 : vm_D q_L_law.2.1 1469 1 1470 (.iaload) := vm_dD b_L_law_13 24 rfl rfl
theorem d_L_law_1470 : vm_D q_L_law.2.1 1470 1 1471 (.i2l) := vm_dD b_L_law_13 25 rfl rfl
theorem d_L_law_1471 : vm_D q_L_law.2.1 1471 3 1474 (.ldc2_w 241) := vm_dD b_L_law_13 26 rfl rfl
theorem d_L_law_1474 : vm_D q_L_law.2.1 1474 1 1475 (.land) := vm_dD b_L_law_13 27 rfl rfl
theorem d_L_law_1475 : vm_D q_L_law.2.1 1475 1 1476 (.lor) := vm_dD b_L_law_13 28 rfl rfl
theorem d_L_law_1476 : vm_D q_L_law.2.1 1476 3 1479 (.invokevirtual 246) := vm_dD b_L_law_13 29 rfl rfl
theorem d_L_law_1479 : vm_D q_L_law.2.1 1479 2 1481 (.istore 6) := vm_dD b_L_law_13 30 rfl rfl
theorem d_L_law_1481 : vm_D q_L_law.2.1 1481 1 1482 (.aload_n 2) := vm_dD b_L_law_13 31 rfl rfl
theorem d_L_law_1482 : vm_D q_L_law.2.1 1482 3 1485 (.invokevirtual 148) := vm_dD b_L_law_13 32 rfl rfl
theorem d_L_law_1485 : vm_D q_L_law.2.1 1485 2 1487 (.iload 5) := vm_dD b_L_law_13 33 rfl rfl
theorem d_L_law_1487 : vm_B q_L_law.2.1 1487 1490 1492 (fun o => .if_icmp .eq o) := ⟨5, vm_db b_L_law_13 (i := 34) rfl, rfl, by decide⟩
theorem d_L_law_1492 : vm_D q_L_law.2.1 1492 2 1494 (.iload 5) := vm_dD b_L_law_13 37 rfl rfl
theorem d_L_law_1494 : vm_B q_L_law.2.1 1494 1497 1509 (fun o => .ifCond .ne o) := ⟨15, vm_db b_L_law_13 (i := 38) rfl, rfl, by decide⟩
theorem d_L_law_1509 : ∃ off : Int, decode q_L_law.2.1 1509 = .ok (.goto off, 3) ∧ ((1509 : Nat) : Int) + off = ((2799 : Nat) : Int) := ⟨1290, vm_db b_L_law_13 (i := 48) rfl, by decide⟩
theorem d_L_law_1497 : vm_D q_L_law.2.1 1497 1 1498 (.aload_n 3) := vm_dD b_L_law_13 39 rfl rfl
theorem d_L_law_1498 : vm_D q_L_law.2.1 1498 1 1499 (.iconst 0) := vm_dD b_L_law_13 40 rfl rfl
theorem d_L_law_1499 : vm_D q_L_law.2.1 1499 1 1500 (.laload) := vm_dD b_L_law_13 41 rfl rfl
theorem d_L_law_1500 : vm_D q_L_law.2.1 1500 2 1502 (.iload 6) := vm_dD b_L_law_13 42 rfl rfl
theorem d_L_law_1502 : vm_D q_L_law.2.1 1502 1 1503 (.i2l) := vm_dD b_L_law_13 43 rfl rfl
theorem d_L_law_1503 : vm_D q_L_law.2.1 1503 1 1504 (.lcmp) := vm_dD b_L_law_13 44 rfl rfl
theorem d_L_law_1504 : vm_B q_L_law.2.1 1504 1507 1509 (fun o => .ifCond .eq o) := ⟨5, vm_db b_L_law_13 (i := 45) rfl, rfl, by decide⟩
theorem d_L_law_1507 : vm_D q_L_law.2.1 1507 1 1508 (.iconst 0) := vm_dD b_L_law_13 46 rfl rfl
theorem d_L_law_1508 : vm_D q_L_law.2.1 1508 1 1509 (.ireturn) := vm_dD b_L_law_13 47 rfl rfl
theorem d_L_law_1490 : vm_D q_L_law.2.1 1490 1 1491 (.iconst 0) := vm_dD b_L_law_13 35 rfl rfl
theorem d_L_law_1491 : vm_D q_L_law.2.1 1491 1 1492 (.ireturn) := vm_dD b_L_law_13 36 rfl rfl
theorem d_L_law_1512 : vm_D q_L_law.2.1 1512 1 1513 (.aload_n 1) := vm_dD b_L_law_13 49 rfl rfl
theorem d_L_law_1513 : vm_D q_L_law.2.1 1513 1 1514 (.aload_n 0) := vm_dD b_L_law_13 50 rfl rfl
theorem d_L_law_1514 : vm_D q_L_law.2.1 1514 2 1516 (.iload 4) := vm_dD b_L_law_13 51 rfl rfl
theorem d_L_law_1516 : vm_D q_L_law.2.1 1516 1 1517 (.iconst 1) := vm_dD b_L_law_13 52 rfl rfl
theorem d_L_law_1517 : vm_D q_L_law.2.1 1517 1 1518 (.iadd) := vm_dD b_L_law_13 53 rfl rfl
theorem d_L_law_1518 : vm_D q_L_law.2.1 1518 1 1519 (.iaload) := vm_dD b_L_law_13 54 rfl rfl
theorem d_L_law_1519 : vm_D q_L_law.2.1 1519 1 1520 (.aload_n 0) := vm_dD b_L_law_13 55 rfl rfl
theorem d_L_law_1520 : vm_D q_L_law.2.1 1520 2 1522 (.iload 4) := vm_dD b_L_law_13 56 rfl rfl
theorem d_L_law_1522 : vm_D q_L_law.2.1 1522 1 1523 (.iconst 2) := vm_dD b_L_law_13 57 rfl rfl
theorem d_L_law_1523 : vm_D q_L_law.2.1 1523 1 1524 (.iadd) := vm_dD b_L_law_13 58 rfl rfl
theorem d_L_law_1524 : vm_D q_L_law.2.1 1524 1 1525 (.iaload) := vm_dD b_L_law_13 59 rfl rfl
theorem d_L_law_1525 : vm_D q_L_law.2.1 1525 1 1526 (.aload_n 0) := vm_dD b_L_law_14 0 rfl rfl
theorem d_L_law_1526 : vm_D q_L_law.2.1 1526 2 1528 (.iload 4) := vm_dD b_L_law_14 1 rfl rfl
theorem d_L_law_1528 : vm_D q_L_law.2.1 1528 1 1529 (.iconst 3) := vm_dD b_L_law_14 2 rfl rfl
theorem d_L_law_1529 : vm_D q_L_law.2.1 1529 1 1530 (.iadd) := vm_dD b_L_law_14 3 rfl rfl
theorem d_L_law_1530 : vm_D q_L_law.2.1 1530 1 1531 (.iaload) := vm_dD b_L_law_14 4 rfl rfl
theorem d_L_law_1531 : vm_D q_L_law.2.1 1531 1 1532 (.aload_n 0) := vm_dD b_L_law_14 5 rfl rfl
theorem d_L_law_1532 : vm_D q_L_law.2.1 1532 2 1534 (.iload 4) := vm_dD b_L_law_14 6 rfl rfl
theorem d_L_law_1534 : vm_D q_L_law.2.1 1534 1 1535 (.iconst 4) := vm_dD b_L_law_14 7 rfl rfl
theorem d_L_law_1535 : vm_D q_L_law.2.1 1535 1 1536 (.iadd) := vm_dD b_L_law_14 8 rfl rfl
theorem d_L_law_1536 : vm_D q_L_law.2.1 1536 1 1537 (.iaload) := vm_dD b_L_law_14 9 rfl rfl
theorem d_L_law_1537 : vm_D q_L_law.2.1 1537 1 1538 (.aload_n 3) := vm_dD b_L_law_14 10 rfl rfl
theorem d_L_law_1538 : vm_D q_L_law.2.1 1538 3 1541 (.invokestatic 247) := vm_dD b_L_law_14 11 rfl rfl
theorem d_L_law_1541 : vm_D q_L_law.2.1 1541 2 1543 (.istore 5) := vm_dD b_L_law_14 12 rfl rfl
theorem d_L_law_1543 : vm_D q_L_law.2.1 1543 1 1544 (.aload_n 2) := vm_dD b_L_law_14 13 rfl rfl
theorem d_L_law_1544 : vm_D q_L_law.2.1 1544 1 1545 (.aload_n 0) := vm_dD b_L_law_14 14 rfl rfl
theorem d_L_law_1545 : vm_D q_L_law.2.1 1545 2 1547 (.iload 4) := vm_dD b_L_law_14 15 rfl rfl
theorem d_L_law_1547 : vm_D q_L_law.2.1 1547 1 1548 (.iconst 1) := vm_dD b_L_law_14 16 rfl rfl
theorem d_L_law_1548 : vm_D q_L_law.2.1 1548 1 1549 (.iadd) := vm_dD b_L_law_14 17 rfl rfl
theorem d_L_law_1549 : vm_D q_L_law.2.1 1549 1 1550 (.iaload) := vm_dD b_L_law_14 18 rfl rfl
theorem d_L_law_1550 : vm_D q_L_law.2.1 1550 1 1551 (.aload_n 0) := vm_dD b_L_law_14 19 rfl rfl
theorem d_L_law_1551 : vm_D q_L_law.2.1 1551 2 1553 (.iload 4) := vm_dD b_L_law_14 20 rfl rfl
theorem d_L_law_1553 : vm_D q_L_law.2.1 1553 1 1554 (.iconst 2) := vm_dD b_L_law_14 21 rfl rfl
theorem d_L_law_1554 : vm_D q_L_law.2.1 1554 1 1555 (.iadd) := vm_dD b_L_law_14 22 rfl rfl
theorem d_L_law_1555 : vm_D q_L_law.2.1 1555 1 1556 (.iaload) := vm_dD b_L_law_14 23 rfl rfl
theorem d_L_law_1556 : vm_D q_L_law.2.1 1556 1 1557 (.aload_n 0) := vm_dD b_L_law_14 24 rfl rfl
theorem d_L_law_1557 : vm_D q_L_law.2.1 1557 2 1559 (.iload 4) := vm_dD b_L_law_14 25 rfl rfl
theorem d_L_law_1559 : vm_D q_L_law.2.1 1559 1 1560 (.iconst 3) := vm_dD b_L_law_14 26 rfl rfl
theorem d_L_law_1560 : vm_D q_L_law.2.1 1560 1 1561 (.iadd) := vm_dD b_L_law_14 27 rfl rfl
theorem d_L_law_1561 : vm_D q_L_law.2.1 1561 1 1562 (.iaload) := vm_dD b_L_law_14 28 rfl rfl
theorem d_L_law_1562 : vm_D q_L_law.2.1 1562 1 1563 (.aload_n 0) := vm_dD b_L_law_14 29 rfl rfl
theorem d_L_law_1563 : vm_D q_L_law.2.1 1563 2 1565 (.iload 4) := vm_dD b_L_law_14 30 rfl rfl
theorem d_L_law_1565 : vm_D q_L_law.2.1 1565 1 1566 (.iconst 4) := vm_dD b_L_law_14 31 rfl rfl
theorem d_L_law_1566 : vm_D q_L_law.2.1 1566 1 1567 (.iadd) := vm_dD b_L_law_14 32 rfl rfl
theorem d_L_law_1567 : vm_D q_L_law.2.1 1567 1 1568 (.iaload) := vm_dD b_L_law_14 33 rfl rfl
theorem d_L_law_1568 : vm_D q_L_law.2.1 1568 3 1571 (.invokevirtual 250) := vm_dD b_L_law_14 34 rfl rfl
theorem d_L_law_1571 : vm_D q_L_law.2.1 1571 2 1573 (.lstore 6) := vm_dD b_L_law_14 35 rfl rfl
theorem d_L_law_1573 : vm_D q_L_law.2.1 1573 1 1574 (.aload_n 2) := vm_dD b_L_law_14 36 rfl rfl
theorem d_L_law_1574 : vm_D q_L_law.2.1 1574 3 1577 (.invokevirtual 148) := vm_dD b_L_law_14 37 rfl rfl
theorem d_L_law_1577 : vm_D q_L_law.2.1 1577 2 1579 (.iload 5) := vm_dD b_L_law_14 38 rfl rfl
theorem d_L_law_1579 : vm_B q_L_law.2.1 1579 1582 1584 (fun o => .if_icmp .eq o) := ⟨5, vm_db b_L_law_14 (i := 39) rfl, rfl, by decide⟩
theorem d_L_law_1584 : vm_D q_L_law.2.1 1584 2 1586 (.iload 5) := vm_dD b_L_law_14 42 rfl rfl
theorem d_L_law_1586 : vm_B q_L_law.2.1 1586 1589 1600 (fun o => .ifCond .ne o) := ⟨14, vm_db b_L_law_14 (i := 43) rfl, rfl, by decide⟩
theorem d_L_law_1600 : ∃ off : Int, decode q_L_law.2.1 1600 = .ok (.goto off, 3) ∧ ((1600 : Nat) : Int) + off = ((2799 : Nat) : Int) := ⟨1199, vm_db b_L_law_14 (i := 52) rfl, by decide⟩
theorem d_L_law_1589 : vm_D q_L_law.2.1 1589 1 1590 (.aload_n 3) := vm_dD b_L_law_14 44 rfl rfl
theorem d_L_law_1590 : vm_D q_L_law.2.1 1590 1 1591 (.iconst 0) := vm_dD b_L_law_14 45 rfl rfl
theorem d_L_law_1591 : vm_D q_L_law.2.1 1591 1 1592 (.laload) := vm_dD b_L_law_14 46 rfl rfl
theorem d_L_law_1592 : vm_D q_L_law.2.1 1592 2 1594 (.lload 6) := vm_dD b_L_law_14 47 rfl rfl
theorem d_L_law_1594 : vm_D q_L_law.2.1 1594 1 1595 (.lcmp) := vm_dD b_L_law_14 48 rfl rfl
theorem d_L_law_1595 : vm_B q_L_law.2.1 1595 1598 1600 (fun o => .ifCond .eq o) := ⟨5, vm_db b_L_law_14 (i := 49) rfl, rfl, by decide⟩
theorem d_L_law_1598 : vm_D q_L_law.2.1 1598 1 1599 (.iconst 0) := vm_dD b_L_law_14 50 rfl rfl
theorem d_L_law_1599 : vm_D q_L_law.2.1 1599 1 1600 (.ireturn) := vm_dD b_L_law_14 51 rfl rfl
theorem d_L_law_1582 : vm_D q_L_law.2.1 1582 1 1583 (.iconst 0) := vm_dD b_L_law_14 40 rfl rfl
theorem d_L_law_1583 : vm_D q_L_law.2.1 1583 1 1584 (.ireturn) := vm_dD b_L_law_14 41 rfl rfl
theorem d_L_law_1603 : vm_D q_L_law.2.1 1603 1 1604 (.aload_n 1) := vm_dD b_L_law_14 53 rfl rfl
theorem d_L_law_1604 : vm_D q_L_law.2.1 1604 1 1605 (.aload_n 0) := vm_dD b_L_law_14 54 rfl rfl
theorem d_L_law_1605 : vm_D q_L_law.2.1 1605 2 1607 (.iload 4) := vm_dD b_L_law_14 55 rfl rfl
theorem d_L_law_1607 : vm_D q_L_law.2.1 1607 1 1608 (.iconst 1) := vm_dD b_L_law_14 56 rfl rfl
theorem d_L_law_1608 : vm_D q_L_law.2.1 1608 1 1609 (.iadd) := vm_dD b_L_law_14 57 rfl rfl
theorem d_L_law_1609 : vm_D q_L_law.2.1 1609 1 1610 (.iaload) := vm_dD b_L_law_14 58 rfl rfl
theorem d_L_law_1610 : vm_D q_L_law.2.1 1610 1 1611 (.aload_n 0) := vm_dD b_L_law_14 59 rfl rfl
theorem d_L_law_1611 : vm_D q_L_law.2.1 1611 2 1613 (.iload 4) := vm_dD b_L_law_15 0 rfl rfl
theorem d_L_law_1613 : vm_D q_L_law.2.1 1613 1 1614 (.iconst 2) := vm_dD b_L_law_15 1 rfl rfl
theorem d_L_law_1614 : vm_D q_L_law.2.1 1614 1 1615 (.iadd) := vm_dD b_L_law_15 2 rfl rfl
theorem d_L_law_1615 : vm_D q_L_law.2.1 1615 1 1616 (.iaload) := vm_dD b_L_law_15 3 rfl rfl
theorem d_L_law_1616 : vm_D q_L_law.2.1 1616 1 1617 (.aload_n 3) := vm_dD b_L_law_15 4 rfl rfl
theorem d_L_law_1617 : vm_D q_L_law.2.1 1617 3 1620 (.invokestatic 251) := vm_dD b_L_law_15 5 rfl rfl
theorem d_L_law_1620 : vm_D q_L_law.2.1 1620 2 1622 (.istore 5) := vm_dD b_L_law_15 6 rfl rfl
theorem d_L_law_1622 : vm_D q_L_law.2.1 1622 1 1623 (.aload_n 2) := vm_dD b_L_law_15 7 rfl rfl
theorem d_L_law_1623 : vm_D q_L_law.2.1 1623 1 1624 (.aload_n 0) := vm_dD b_L_law_15 8 rfl rfl
theorem d_L_law_1624 : vm_D q_L_law.2.1 1624 2 1626 (.iload 4) := vm_dD b_L_law_15 9 rfl rfl
theorem d_L_law_1626 : vm_D q_L_law.2.1 1626 1 1627 (.iconst 1) := vm_dD b_L_law_15 10 rfl rfl
theorem d_L_law_1627 : vm_D q_L_law.2.1 1627 1 1628 (.iadd) := vm_dD b_L_law_15 11 rfl rfl
theorem d_L_law_1628 : vm_D q_L_law.2.1 1628 1 1629 (.iaload) := vm_dD b_L_law_15 12 rfl rfl
theorem d_L_law_1629 : vm_D q_L_law.2.1 1629 1 1630 (.aload_n 0) := vm_dD b_L_law_15 13 rfl rfl
theorem d_L_law_1630 : vm_D q_L_law.2.1 1630 2 1632 (.iload 4) := vm_dD b_L_law_15 14 rfl rfl
theorem d_L_law_1632 : vm_D q_L_law.2.1 1632 1 1633 (.iconst 2) := vm_dD b_L_law_15 15 rfl rfl
theorem d_L_law_1633 : vm_D q_L_law.2.1 1633 1 1634 (.iadd) := vm_dD b_L_law_15 16 rfl rfl
theorem d_L_law_1634 : vm_D q_L_law.2.1 1634 1 1635 (.iaload) := vm_dD b_L_law_15 17 rfl rfl
theorem d_L_law_1635 : vm_D q_L_law.2.1 1635 3 1638 (.invokevirtual 253) := vm_dD b_L_law_15 18 rfl rfl
theorem d_L_law_1638 : vm_D q_L_law.2.1 1638 2 1640 (.istore 6) := vm_dD b_L_law_15 19 rfl rfl
theorem d_L_law_1640 : vm_D q_L_law.2.1 1640 1 1641 (.aload_n 2) := vm_dD b_L_law_15 20 rfl rfl
theorem d_L_law_1641 : vm_D q_L_law.2.1 1641 3 1644 (.invokevirtual 148) := vm_dD b_L_law_15 21 rfl rfl
theorem d_L_law_1644 : vm_D q_L_law.2.1 1644 2 1646 (.iload 5) := vm_dD b_L_law_15 22 rfl rfl
theorem d_L_law_1646 : vm_B q_L_law.2.1 1646 1649 1651 (fun o => .if_icmp .eq o) := ⟨5, vm_db b_L_law_15 (i := 23) rfl, rfl, by decide⟩
theorem d_L_law_1651 : vm_D q_L_law.2.1 1651 2 1653 (.iload 5) := vm_dD b_L_law_15 26 rfl rfl
theorem d_L_law_1653 : vm_B q_L_law.2.1 1653 1656 1668 (fun o => .ifCond .ne o) := ⟨15, vm_db b_L_law_15 (i := 27) rfl, rfl, by decide⟩
theorem d_L_law_1668 : ∃ off : Int, decode q_L_law.2.1 1668 = .ok (.goto off, 3) ∧ ((1668 : Nat) : Int) + off = ((2799 : Nat) : Int) := ⟨1131, vm_db b_L_law_15 (i := 37) rfl, by decide⟩
theorem d_L_law_1656 : vm_D q_L_law.2.1 1656 1 1657 (.aload_n 3) := vm_dD b_L_law_15 28 rfl rfl
theorem d_L_law_1657 : vm_D q_L_law.2.1 1657 1 1658 (.iconst 0) := vm_dD b_L_law_15 29 rfl rfl
theorem d_L_law_1658 : vm_D q_L_law.2.1 1658 1 1659 (.laload) := vm_dD b_L_law_15 30 rfl rfl
theorem d_L_law_1659 : vm_D q_L_law.2.1 1659 2 1661 (.iload 6) := vm_dD b_L_law_15 31 rfl rfl
theorem d_L_law_1661 : vm_D q_L_law.2.1 1661 1 1662 (.i2l) := vm_dD b_L_law_15 32 rfl rfl
theorem d_L_law_1662 : vm_D q_L_law.2.1 1662 1 1663 (.lcmp) := vm_dD b_L_law_15 33 rfl rfl
theorem d_L_law_1663 : vm_B q_L_law.2.1 1663 1666 1668 (fun o => .ifCond .eq o) := ⟨5, vm_db b_L_law_15 (i := 34) rfl, rfl, by decide⟩
theorem d_L_law_1666 : vm_D q_L_law.2.1 1666 1 1667 (.iconst 0) := vm_dD b_L_law_15 35 rfl rfl
theorem d_L_law_1667 : vm_D q_L_law.2.1 1667 1 1668 (.ireturn) := vm_dD b_L_law_15 36 rfl rfl
theorem d_L_law_1649 : vm_D q_L_law.2.1 1649 1 1650 (.iconst 0) := vm_dD b_L_law_15 24 rfl rfl
theorem d_L_law_1650 : vm_D q_L_law.2.1 1650 1 1651 (.ireturn) := vm_dD b_L_law_15 25 rfl rfl
theorem d_L_law_1671 : vm_D q_L_law.2.1 1671 1 1672 (.aload_n 1) := vm_dD b_L_law_15 38 rfl rfl
theorem d_L_law_1672 : vm_D q_L_law.2.1 1672 1 1673 (.aload_n 0) := vm_dD b_L_law_15 39 rfl rfl
theorem d_L_law_1673 : vm_D q_L_law.2.1 1673 2 1675 (.iload 4) := vm_dD b_L_law_15 40 rfl rfl
theorem d_L_law_1675 : vm_D q_L_law.2.1 1675 1 1676 (.iconst 1) := vm_dD b_L_law_15 41 rfl rfl
theorem d_L_law_1676 : vm_D q_L_law.2.1 1676 1 1677 (.iadd) := vm_dD b_L_law_15 42 rfl rfl
theorem d_L_law_1677 : vm_D q_L_law.2.1 1677 1 1678 (.iaload) := vm_dD b_L_law_15 43 rfl rfl
theorem d_L_law_1678 : vm_D q_L_law.2.1 1678 1 1679 (.aload_n 0) := vm_dD b_L_law_15 44 rfl rfl
theorem d_L_law_1679 : vm_D q_L_law.2.1 1679 2 1681 (.iload 4) := vm_dD b_L_law_15 45 rfl rfl
theorem d_L_law_1681 : vm_D q_L_law.2.1 1681 1 1682 (.iconst 2) := vm_dD b_L_law_15 46 rfl rfl
theorem d_L_law_1682 : vm_D q_L_law.2.1 1682 1 1683 (.iadd) := vm_dD b_L_law_15 47 rfl rfl
theorem d_L_law_1683 : vm_D q_L_law.2.1 1683 1 1684 (.iaload) := vm_dD b_L_law_15 48 rfl rfl
theorem d_L_law_1684 : vm_D q_L_law.2.1 1684 1 1685 (.aload_n 3) := vm_dD b_L_law_15 49 rfl rfl
theorem d_L_law_1685 : vm_D q_L_law.2.1 1685 3 1688 (.invokestatic 254) := vm_dD b_L_law_15 50 rfl rfl
theorem d_L_law_1688 : vm_D q_L_law.2.1 1688 2 1690 (.istore 5) := vm_dD b_L_law_15 51 rfl rfl
theorem d_L_law_1690 : vm_D q_L_law.2.1 1690 1 1691 (.aload_n 2) := vm_dD b_L_law_15 52 rfl rfl
theorem d_L_law_1691 : vm_D q_L_law.2.1 1691 1 1692 (.aload_n 0) := vm_dD b_L_law_15 53 rfl rfl
theorem d_L_law_1692 : vm_D q_L_law.2.1 1692 2 1694 (.iload 4) := vm_dD b_L_law_15 54 rfl rfl
theorem d_L_law_1694 : vm_D q_L_law.2.1 1694 1 1695 (.iconst 1) := vm_dD b_L_law_15 55 rfl rfl
theorem d_L_law_1695 : vm_D q_L_law.2.1 1695 1 1696 (.iadd) := vm_dD b_L_law_15 56 rfl rfl
theorem d_L_law_1696 : vm_D q_L_law.2.1 1696 1 1697 (.iaload) := vm_dD b_L_law_15 57 rfl rfl
theorem d_L_law_1697 : vm_D q_L_law.2.1 1697 1 1698 (.aload_n 0) := vm_dD b_L_law_15 58 rfl rfl
theorem d_L_law_1698 : vm_D q_L_law.2.1 1698 2 1700 (.iload 4) := vm_dD b_L_law_15 59 rfl rfl
theorem d_L_law_1700 : vm_D q_L_law.2.1 1700 1 1701 (.iconst 2) := vm_dD b_L_law_16 0 rfl rfl
theorem d_L_law_1701 : vm_D q_L_law.2.1 1701 1 1702 (.iadd) := vm_dD b_L_law_16 1 rfl rfl
theorem d_L_law_1702 : vm_D q_L_law.2.1 1702 1 1703 (.iaload) := vm_dD b_L_law_16 2 rfl rfl
theorem d_L_law_1703 : vm_D q_L_law.2.1 1703 3 1706 (.invokevirtual 256) := vm_dD b_L_law_16 3 rfl rfl
theorem d_L_law_1706 : vm_D q_L_law.2.1 1706 2 1708 (.istore 6) := vm_dD b_L_law_16 4 rfl rfl
theorem d_L_law_1708 : vm_D q_L_law.2.1 1708 1 1709 (.aload_n 2) := vm_dD b_L_law_16 5 rfl rfl
theorem d_L_law_1709 : vm_D q_L_law.2.1 1709 3 1712 (.invokevirtual 148) := vm_dD b_L_law_16 6 rfl rfl
theorem d_L_law_1712 : vm_D q_L_law.2.1 1712 2 1714 (.iload 5) := vm_dD b_L_law_16 7 rfl rfl
theorem d_L_law_1714 : vm_B q_L_law.2.1 1714 1717 1719 (fun o => .if_icmp .eq o) := ⟨5, vm_db b_L_law_16 (i := 8) rfl, rfl, by decide⟩
theorem d_L_law_1719 : vm_D q_L_law.2.1 1719 2 1721 (.iload 5) := vm_dD b_L_law_16 11 rfl rfl
theorem d_L_law_1721 : vm_B q_L_law.2.1 1721 1724 1736 (fun o => .ifCond .ne o) := ⟨15, vm_db b_L_law_16 (i := 12) rfl, rfl, by decide⟩
theorem d_L_law_1736 : ∃ off : Int, decode q_L_law.2.1 1736 = .ok (.goto off, 3) ∧ ((1736 : Nat) : Int) + off = ((2799 : Nat) : Int) := ⟨1063, vm_db b_L_law_16 (i := 22) rfl, by decide⟩
theorem d_L_law_1724 : vm_D q_L_law.2.1 1724 1 1725 (.aload_n 3) := vm_dD b_L_law_16 13 rfl rfl
theorem d_L_law_1725 : vm_D q_L_law.2.1 1725 1 1726 (.iconst 0) := vm_dD b_L_law_16 14 rfl rfl
theorem d_L_law_1726 : vm_D q_L_law.2.1 1726 1 1727 (.laload) := vm_dD b_L_law_16 15 rfl rfl
theorem d_L_law_1727 : vm_D q_L_law.2.1 1727 2 1729 (.iload 6) := vm_dD b_L_law_16 16 rfl rfl
theorem d_L_law_1729 : vm_D q_L_law.2.1 1729 1 1730 (.i2l) := vm_dD b_L_law_16 17 rfl rfl
theorem d_L_law_1730 : vm_D q_L_law.2.1 1730 1 1731 (.lcmp) := vm_dD b_L_law_16 18 rfl rfl
theorem d_L_law_1731 : vm_B q_L_law.2.1 1731 1734 1736 (fun o => .ifCond .eq o) := ⟨5, vm_db b_L_law_16 (i := 19) rfl, rfl, by decide⟩
theorem d_L_law_1734 : vm_D q_L_law.2.1 1734 1 1735 (.iconst 0) := vm_dD b_L_law_16 20 rfl rfl
theorem d_L_law_1735 : vm_D q_L_law.2.1 1735 1 1736 (.ireturn) := vm_dD b_L_law_16 21 rfl rfl
theorem d_L_law_1717 : vm_D q_L_law.2.1 1717 1 1718 (.iconst 0) := vm_dD b_L_law_16 9 rfl rfl
theorem d_L_law_1718 : vm_D q_L_law.2.1 1718 1 1719 (.ireturn) := vm_dD b_L_law_16 10 rfl rfl
theorem d_L_law_1739 : vm_D q_L_law.2.1 1739 1 1740 (.aload_n 1) := vm_dD b_L_law_16 23 rfl rfl
theorem d_L_law_1740 : vm_D q_L_law.2.1 1740 1 1741 (.aload_n 0) := vm_dD b_L_law_16 24 rfl rfl
theorem d_L_law_1741 : vm_D q_L_law.2.1 1741 2 1743 (.iload 4) := vm_dD b_L_law_16 25 rfl rfl
theorem d_L_law_1743 : vm_D q_L_law.2.1 1743 1 1744 (.iconst 1) := vm_dD b_L_law_16 26 rfl rfl
theorem d_L_law_1744 : vm_D q_L_law.2.1 1744 1 1745 (.iadd) := vm_dD b_L_law_16 27 rfl rfl
theorem d_L_law_1745 : vm_D q_L_law.2.1 1745 1 1746 (.iaload) := vm_dD b_L_law_16 28 rfl rfl
theorem d_L_law_1746 : vm_D q_L_law.2.1 1746 1 1747 (.aload_n 3) := vm_dD b_L_law_16 29 rfl rfl
theorem d_L_law_1747 : vm_D q_L_law.2.1 1747 3 1750 (.invokestatic 257) := vm_dD b_L_law_16 30 rfl rfl
theorem d_L_law_1750 : vm_D q_L_law.2.1 1750 2 1752 (.istore 5) := vm_dD b_L_law_16 31 rfl rfl
theorem d_L_law_1752 : vm_D q_L_law.2.1 1752 1 1753 (.aload_n 2) := vm_dD b_L_law_16 32 rfl rfl
theorem d_L_law_1753 : vm_D q_L_law.2.1 1753 1 1754 (.aload_n 0) := vm_dD b_L_law_16 33 rfl rfl
theorem d_L_law_1754 : vm_D q_L_law.2.1 1754 2 1756 (.iload 4) := vm_dD b_L_law_16 34 rfl rfl
theorem d_L_law_1756 : vm_D q_L_law.2.1 1756 1 1757 (.iconst 1) := vm_dD b_L_law_16 35 rfl rfl
theorem d_L_law_1757 : vm_D q_L_law.2.1 1757 1 1758 (.iadd) := vm_dD b_L_law_16 36 rfl rfl
theorem d_L_law_1758 : vm_D q_L_law.2.1 1758 1 1759 (.iaload) := vm_dD b_L_law_16 37 rfl rfl
theorem d_L_law_1759 : vm_D q_L_law.2.1 1759 3 1762 (.invokevirtual 259) := vm_dD b_L_law_16 38 rfl rfl
theorem d_L_law_1762 : vm_D q_L_law.2.1 1762 2 1764 (.istore 6) := vm_dD b_L_law_16 39 rfl rfl
theorem d_L_law_1764 : vm_D q_L_law.2.1 1764 1 1765 (.aload_n 2) := vm_dD b_L_law_16 40 rfl rfl
theorem d_L_law_1765 : vm_D q_L_law.2.1 1765 3 1768 (.invokevirtual 148) := vm_dD b_L_law_16 41 rfl rfl
theorem d_L_law_1768 : vm_D q_L_law.2.1 1768 2 1770 (.iload 5) := vm_dD b_L_law_16 42 rfl rfl
theorem d_L_law_1770 : vm_B q_L_law.2.1 1770 1773 1775 (fun o => .if_icmp .eq o) := ⟨5, vm_db b_L_law_16 (i := 43) rfl, rfl, by decide⟩
theorem d_L_law_1775 : vm_D q_L_law.2.1 1775 2 1777 (.iload 5) := vm_dD b_L_law_16 46 rfl rfl
theorem d_L_law_1777 : vm_B q_L_law.2.1 1777 1780 1792 (fun o => .ifCond .ne o) := ⟨15, vm_db b_L_law_16 (i := 47) rfl, rfl, by decide⟩
theorem d_L_law_1792 : ∃ off : Int, decode q_L_law.2.1 1792 = .ok (.goto off, 3) ∧ ((1792 : Nat) : Int) + off = ((2799 : Nat) : Int) := ⟨1007, vm_db b_L_law_16 (i := 57) rfl, by decide⟩
theorem d_L_law_1780 : vm_D q_L_law.2.1 1780 1 1781 (.aload_n 3) := vm_dD b_L_law_16 48 rfl rfl
theorem d_L_law_1781 : vm_D q_L_law.2.1 1781 1 1782 (.iconst 0) := vm_dD b_L_law_16 49 rfl rfl
theorem d_L_law_1782 : vm_D q_L_law.2.1 1782 1 1783 (.laload) := vm_dD b_L_law_16 50 rfl rfl
theorem d_L_law_1783 : vm_D q_L_law.2.1 1783 2 1785 (.iload 6) := vm_dD b_L_law_16 51 rfl rfl
theorem d_L_law_1785 : vm_D q_L_law.2.1 1785 1 1786 (.i2l) := vm_dD b_L_law_16 52 rfl rfl
theorem d_L_law_1786 : vm_D q_L_law.2.1 1786 1 1787 (.lcmp) := vm_dD b_L_law_16 53 rfl rfl
theorem d_L_law_1787 : vm_B q_L_law.2.1 1787 1790 1792 (fun o => .ifCond .eq o) := ⟨5, vm_db b_L_law_16 (i := 54) rfl, rfl, by decide⟩
theorem d_L_law_1790 : vm_D q_L_law.2.1 1790 1 1791 (.iconst 0) := vm_dD b_L_law_16 55 rfl rfl
theorem d_L_law_1791 : vm_D q_L_law.2.1 1791 1 1792 (.ireturn) := vm_dD b_L_law_16 56 rfl rfl
theorem d_L_law_1773 : vm_D q_L_law.2.1 1773 1 1774 (.iconst 0) := vm_dD b_L_law_16 44 rfl rfl
theorem d_L_law_1774 : vm_D q_L_law.2.1 1774 1 1775 (.ireturn) := vm_dD b_L_law_16 45 rfl rfl
theorem d_L_law_1795 : vm_D q_L_law.2.1 1795 1 1796 (.aload_n 1) := vm_dD b_L_law_16 58 rfl rfl
theorem d_L_law_1796 : vm_D q_L_law.2.1 1796 1 1797 (.aload_n 0) := vm_dD b_L_law_16 59 rfl rfl
theorem d_L_law_1797 : vm_D q_L_law.2.1 1797 2 1799 (.iload 4) := vm_dD b_L_law_17 0 rfl rfl
theorem d_L_law_1799 : vm_D q_L_law.2.1 1799 1 1800 (.iconst 1) := vm_dD b_L_law_17 1 rfl rfl
theorem d_L_law_1800 : vm_D q_L_law.2.1 1800 1 1801 (.iadd) := vm_dD b_L_law_17 2 rfl rfl
theorem d_L_law_1801 : vm_D q_L_law.2.1 1801 1 1802 (.iaload) := vm_dD b_L_law_17 3 rfl rfl
theorem d_L_law_1802 : vm_D q_L_law.2.1 1802 1 1803 (.aload_n 3) := vm_dD b_L_law_17 4 rfl rfl
theorem d_L_law_1803 : vm_D q_L_law.2.1 1803 3 1806 (.invokestatic 260) := vm_dD b_L_law_17 5 rfl rfl
theorem d_L_law_1806 : vm_D q_L_law.2.1 1806 2 1808 (.istore 5) := vm_dD b_L_law_17 6 rfl rfl
theorem d_L_law_1808 : vm_D q_L_law.2.1 1808 1 1809 (.aload_n 2) := vm_dD b_L_law_17 7 rfl rfl
theorem d_L_law_1809 : vm_D q_L_law.2.1 1809 1 1810 (.aload_n 0) := vm_dD b_L_law_17 8 rfl rfl
theorem d_L_law_1810 : vm_D q_L_law.2.1 1810 2 1812 (.iload 4) := vm_dD b_L_law_17 9 rfl rfl
theorem d_L_law_1812 : vm_D q_L_law.2.1 1812 1 1813 (.iconst 1) := vm_dD b_L_law_17 10 rfl rfl
theorem d_L_law_1813 : vm_D q_L_law.2.1 1813 1 1814 (.iadd) := vm_dD b_L_law_17 11 rfl rfl
theorem d_L_law_1814 : vm_D q_L_law.2.1 1814 1 1815 (.iaload) := vm_dD b_L_law_17 12 rfl rfl
theorem d_L_law_1815 : vm_D q_L_law.2.1 1815 3 1818 (.invokevirtual 262) := vm_dD b_L_law_17 13 rfl rfl
theorem d_L_law_1818 : vm_D q_L_law.2.1 1818 2 1820 (.istore 6) := vm_dD b_L_law_17 14 rfl rfl
theorem d_L_law_1820 : vm_D q_L_law.2.1 1820 1 1821 (.aload_n 2) := vm_dD b_L_law_17 15 rfl rfl
theorem d_L_law_1821 : vm_D q_L_law.2.1 1821 3 1824 (.invokevirtual 148) := vm_dD b_L_law_17 16 rfl rfl
theorem d_L_law_1824 : vm_D q_L_law.2.1 1824 2 1826 (.iload 5) := vm_dD b_L_law_17 17 rfl rfl
theorem d_L_law_1826 : vm_B q_L_law.2.1 1826 1829 1831 (fun o => .if_icmp .eq o) := ⟨5, vm_db b_L_law_17 (i := 18) rfl, rfl, by decide⟩
theorem d_L_law_1831 : vm_D q_L_law.2.1 1831 2 1833 (.iload 5) := vm_dD b_L_law_17 21 rfl rfl
theorem d_L_law_1833 : vm_B q_L_law.2.1 1833 1836 1848 (fun o => .ifCond .ne o) := ⟨15, vm_db b_L_law_17 (i := 22) rfl, rfl, by decide⟩
theorem d_L_law_1848 : ∃ off : Int, decode q_L_law.2.1 1848 = .ok (.goto off, 3) ∧ ((1848 : Nat) : Int) + off = ((2799 : Nat) : Int) := ⟨951, vm_db b_L_law_17 (i := 32) rfl, by decide⟩
theorem d_L_law_1836 : vm_D q_L_law.2.1 1836 1 1837 (.aload_n 3) := vm_dD b_L_law_17 23 rfl rfl
theorem d_L_law_1837 : vm_D q_L_law.2.1 1837 1 1838 (.iconst 0) := vm_dD b_L_law_17 24 rfl rfl
theorem d_L_law_1838 : vm_D q_L_law.2.1 1838 1 1839 (.laload) := vm_dD b_L_law_17 25 rfl rfl
theorem d_L_law_1839 : vm_D q_L_law.2.1 1839 2 1841 (.iload 6) := vm_dD b_L_law_17 26 rfl rfl
theorem d_L_law_1841 : vm_D q_L_law.2.1 1841 1 1842 (.i2l) := vm_dD b_L_law_17 27 rfl rfl
theorem d_L_law_1842 : vm_D q_L_law.2.1 1842 1 1843 (.lcmp) := vm_dD b_L_law_17 28 rfl rfl
theorem d_L_law_1843 : vm_B q_L_law.2.1 1843 1846 1848 (fun o => .ifCond .eq o) := ⟨5, vm_db b_L_law_17 (i := 29) rfl, rfl, by decide⟩
theorem d_L_law_1846 : vm_D q_L_law.2.1 1846 1 1847 (.iconst 0) := vm_dD b_L_law_17 30 rfl rfl
theorem d_L_law_1847 : vm_D q_L_law.2.1 1847 1 1848 (.ireturn) := vm_dD b_L_law_17 31 rfl rfl
theorem d_L_law_1829 : vm_D q_L_law.2.1 1829 1 1830 (.iconst 0) := vm_dD b_L_law_17 19 rfl rfl
theorem d_L_law_1830 : vm_D q_L_law.2.1 1830 1 1831 (.ireturn) := vm_dD b_L_law_17 20 rfl rfl
theorem d_L_law_1851 : vm_D q_L_law.2.1 1851 1 1852 (.aload_n 1) := vm_dD b_L_law_17 33 rfl rfl
theorem d_L_law_1852 : vm_D q_L_law.2.1 1852 1 1853 (.aload_n 0) := vm_dD b_L_law_17 34 rfl rfl
theorem d_L_law_1853 : vm_D q_L_law.2.1 1853 2 1855 (.iload 4) := vm_dD b_L_law_17 35 rfl rfl
theorem d_L_law_1855 : vm_D q_L_law.2.1 1855 1 1856 (.iconst 1) := vm_dD b_L_law_17 36 rfl rfl
theorem d_L_law_1856 : vm_D q_L_law.2.1 1856 1 1857 (.iadd) := vm_dD b_L_law_17 37 rfl rfl
theorem d_L_law_1857 : vm_D q_L_law.2.1 1857 1 1858 (.iaload) := vm_dD b_L_law_17 38 rfl rfl
theorem d_L_law_1858 : vm_D q_L_law.2.1 1858 1 1859 (.aload_n 3) := vm_dD b_L_law_17 39 rfl rfl
theorem d_L_law_1859 : vm_D q_L_law.2.1 1859 3 1862 (.invokestatic 263) := vm_dD b_L_law_17 40 rfl rfl
theorem d_L_law_1862 : vm_D q_L_law.2.1 1862 2 1864 (.istore 5) := vm_dD b_L_law_17 41 rfl rfl
theorem d_L_law_1864 : vm_D q_L_law.2.1 1864 1 1865 (.aload_n 2) := vm_dD b_L_law_17 42 rfl rfl
theorem d_L_law_1865 : vm_D q_L_law.2.1 1865 1 1866 (.aload_n 0) := vm_dD b_L_law_17 43 rfl rfl
theorem d_L_law_1866 : vm_D q_L_law.2.1 1866 2 1868 (.iload 4) := vm_dD b_L_law_17 44 rfl rfl
theorem d_L_law_1868 : vm_D q_L_law.2.1 1868 1 1869 (.iconst 1) := vm_dD b_L_law_17 45 rfl rfl
theorem d_L_law_1869 : vm_D q_L_law.2.1 1869 1 1870 (.iadd) := vm_dD b_L_law_17 46 rfl rfl
theorem d_L_law_1870 : vm_D q_L_law.2.1 1870 1 1871 (.iaload) := vm_dD b_L_law_17 47 rfl rfl
theorem d_L_law_1871 : vm_D q_L_law.2.1 1871 3 1874 (.invokevirtual 265) := vm_dD b_L_law_17 48 rfl rfl
theorem d_L_law_1874 : vm_D q_L_law.2.1 1874 2 1876 (.istore 6) := vm_dD b_L_law_17 49 rfl rfl
theorem d_L_law_1876 : vm_D q_L_law.2.1 1876 1 1877 (.aload_n 2) := vm_dD b_L_law_17 50 rfl rfl
theorem d_L_law_1877 : vm_D q_L_law.2.1 1877 3 1880 (.invokevirtual 148) := vm_dD b_L_law_17 51 rfl rfl
theorem d_L_law_1880 : vm_D q_L_law.2.1 1880 2 1882 (.iload 5) := vm_dD b_L_law_17 52 rfl rfl
theorem d_L_law_1882 : vm_B q_L_law.2.1 1882 1885 1887 (fun o => .if_icmp .eq o) := ⟨5, vm_db b_L_law_17 (i := 53) rfl, rfl, by decide⟩
theorem d_L_law_1887 : vm_D q_L_law.2.1 1887 2 1889 (.iload 5) := vm_dD b_L_law_17 56 rfl rfl
theorem d_L_law_1889 : vm_B q_L_law.2.1 1889 1892 1911 (fun o => .ifCond .ne o) := ⟨22, vm_db b_L_law_17 (i := 57) rfl, rfl, by decide⟩
theorem d_L_law_1911 : ∃ off : Int, decode q_L_law.2.1 1911 = .ok (.goto off, 3) ∧ ((1911 : Nat) : Int) + off = ((2799 : Nat) : Int) := ⟨888, vm_db b_L_law_18 (i := 10) rfl, by decide⟩
theorem d_L_law_1892 : vm_D q_L_law.2.1 1892 1 1893 (.aload_n 3) := vm_dD b_L_law_17 58 rfl rfl
theorem d_L_law_1893 : vm_D q_L_law.2.1 1893 1 1894 (.iconst 0) := vm_dD b_L_law_17 59 rfl rfl
theorem d_L_law_1894 : vm_D q_L_law.2.1 1894 1 1895 (.laload) := vm_dD b_L_law_18 0 rfl rfl
theorem d_L_law_1895 : vm_D q_L_law.2.1 1895 2 1897 (.iload 6) := vm_dD b_L_law_18 1 rfl rfl
theorem d_L_law_1897 : vm_B q_L_law.2.1 1897 1900 1904 (fun o => .ifCond .eq o) := ⟨7, vm_db b_L_law_18 (i := 2) rfl, rfl, by decide⟩
theorem d_L_law_1905 : vm_D q_L_law.2.1 1905 1 1906 (.lcmp) := vm_dD b_L_law_18 6 rfl rfl
theorem d_L_law_1906 : vm_B q_L_law.2.1 1906 1909 1911 (fun o => .ifCond .eq o) := ⟨5, vm_db b_L_law_18 (i := 7) rfl, rfl, by decide⟩
theorem d_L_law_1909 : vm_D q_L_law.2.1 1909 1 1910 (.iconst 0) := vm_dD b_L_law_18 8 rfl rfl
theorem d_L_law_1910 : vm_D q_L_law.2.1 1910 1 1911 (.ireturn) := vm_dD b_L_law_18 9 rfl rfl
theorem d_L_law_1904 : vm_D q_L_law.2.1 1904 1 1905 (.lconst 0) := vm_dD b_L_law_18 5 rfl rfl
theorem d_L_law_1900 : vm_D q_L_law.2.1 1900 1 1901 (.lconst 1) := vm_dD b_L_law_18 3 rfl rfl
theorem d_L_law_1901 : ∃ off : Int, decode q_L_law.2.1 1901 = .ok (.goto off, 3) ∧ ((1901 : Nat) : Int) + off = ((1905 : Nat) : Int) := ⟨4, vm_db b_L_law_18 (i := 4) rfl, by decide⟩
theorem d_L_law_1885 : vm_D q_L_law.2.1 1885 1 1886 (.iconst 0) := vm_dD b_L_law_17 54 rfl rfl
theorem d_L_law_1886 : vm_D q_L_law.2.1 1886 1 1887 (.ireturn) := vm_dD b_L_law_17 55 rfl rfl
theorem d_L_law_1914 : vm_D q_L_law.2.1 1914 1 1915 (.aload_n 1) := vm_dD b_L_law_18 11 rfl rfl
theorem d_L_law_1915 : vm_D q_L_law.2.1 1915 1 1916 (.aload_n 0) := vm_dD b_L_law_18 12 rfl rfl
theorem d_L_law_1916 : vm_D q_L_law.2.1 1916 2 1918 (.iload 4) := vm_dD b_L_law_18 13 rfl rfl
theorem d_L_law_1918 : vm_D q_L_law.2.1 1918 1 1919 (.iconst 1) := vm_dD b_L_law_18 14 rfl rfl
theorem d_L_law_1919 : vm_D q_L_law.2.1 1919 1 1920 (.iadd) := vm_dD b_L_law_18 15 rfl rfl
theorem d_L_law_1920 : vm_D q_L_law.2.1 1920 1 1921 (.iaload) := vm_dD b_L_law_18 16 rfl rfl
theorem d_L_law_1921 : vm_D q_L_law.2.1 1921 1 1922 (.aload_n 0) := vm_dD b_L_law_18 17 rfl rfl
theorem d_L_law_1922 : vm_D q_L_law.2.1 1922 2 1924 (.iload 4) := vm_dD b_L_law_18 18 rfl rfl
theorem d_L_law_1924 : vm_D q_L_law.2.1 1924 1 1925 (.iconst 2) := vm_dD b_L_law_18 19 rfl rfl
theorem d_L_law_1925 : vm_D q_L_law.2.1 1925 1 1926 (.iadd) := vm_dD b_L_law_18 20 rfl rfl
theorem d_L_law_1926 : vm_D q_L_law.2.1 1926 1 1927 (.iaload) := vm_dD b_L_law_18 21 rfl rfl
theorem d_L_law_1927 : vm_D q_L_law.2.1 1927 1 1928 (.aload_n 3) := vm_dD b_L_law_18 22 rfl rfl
theorem d_L_law_1928 : vm_D q_L_law.2.1 1928 3 1931 (.invokestatic 266) := vm_dD b_L_law_18 23 rfl rfl
theorem d_L_law_1931 : vm_D q_L_law.2.1 1931 2 1933 (.istore 5) := vm_dD b_L_law_18 24 rfl rfl
theorem d_L_law_1933 : vm_D q_L_law.2.1 1933 1 1934 (.aload_n 2) := vm_dD b_L_law_18 25 rfl rfl
theorem d_L_law_1934 : vm_D q_L_law.2.1 1934 1 1935 (.aload_n 0) := vm_dD b_L_law_18 26 rfl rfl
theorem d_L_law_1935 : vm_D q_L_law.2.1 1935 2 1937 (.iload 4) := vm_dD b_L_law_18 27 rfl rfl
theorem d_L_law_1937 : vm_D q_L_law.2.1 1937 1 1938 (.iconst 1) := vm_dD b_L_law_18 28 rfl rfl
theorem d_L_law_1938 : vm_D q_L_law.2.1 1938 1 1939 (.iadd) := vm_dD b_L_law_18 29 rfl rfl
theorem d_L_law_1939 : vm_D q_L_law.2.1 1939 1 1940 (.iaload) := vm_dD b_L_law_18 30 rfl rfl
theorem d_L_law_1940 : vm_D q_L_law.2.1 1940 1 1941 (.aload_n 0) := vm_dD b_L_law_18 31 rfl rfl
theorem d_L_law_1941 : vm_D q_L_law.2.1 1941 2 1943 (.iload 4) := vm_dD b_L_law_18 32 rfl rfl
theorem d_L_law_1943 : vm_D q_L_law.2.1 1943 1 1944 (.iconst 2) := vm_dD b_L_law_18 33 rfl rfl
theorem d_L_law_1944 : vm_D q_L_law.2.1 1944 1 1945 (.iadd) := vm_dD b_L_law_18 34 rfl rfl
theorem d_L_law_1945 : vm_D q_L_law.2.1 1945 1 1946 (.iaload) := vm_dD b_L_law_18 35 rfl rfl
theorem d_L_law_1946 : vm_D q_L_law.2.1 1946 3 1949 (.invokevirtual 268) := vm_dD b_L_law_18 36 rfl rfl
theorem d_L_law_1949 : vm_D q_L_law.2.1 1949 2 1951 (.istore 6) := vm_dD b_L_law_18 37 rfl rfl
theorem d_L_law_1951 : vm_D q_L_law.2.1 1951 1 1952 (.aload_n 2) := vm_dD b_L_law_18 38 rfl rfl
theorem d_L_law_1952 : vm_D q_L_law.2.1 1952 3 1955 (.invokevirtual 148) := vm_dD b_L_law_18 39 rfl rfl
theorem d_L_law_1955 : vm_D q_L_law.2.1 1955 2 1957 (.iload 5) := vm_dD b_L_law_18 40 rfl rfl
theorem d_L_law_1957 : vm_B q_L_law.2.1 1957 1960 1962 (fun o => .if_icmp .eq o) := ⟨5, vm_db b_L_law_18 (i := 41) rfl, rfl, by decide⟩
theorem d_L_law_1962 : vm_D q_L_law.2.1 1962 2 1964 (.iload 5) := vm_dD b_L_law_18 44 rfl rfl
theorem d_L_law_1964 : vm_B q_L_law.2.1 1964 1967 1979 (fun o => .ifCond .ne o) := ⟨15, vm_db b_L_law_18 (i := 45) rfl, rfl, by decide⟩
theorem d_L_law_1979 : ∃ off : Int, decode q_L_law.2.1 1979 = .ok (.goto off, 3) ∧ ((1979 : Nat) : Int) + off = ((2799 : Nat) : Int) := ⟨820, vm_db b_L_law_18 (i := 55) rfl, by decide⟩
theorem d_L_law_1967 : vm_D q_L_law.2.1 1967 1 1968 (.aload_n 3) := vm_dD b_L_law_18 46 rfl rfl
theorem d_L_law_1968 : vm_D q_L_law.2.1 1968 1 1969 (.iconst 0) := vm_dD b_L_law_18 47 rfl rfl
theorem d_L_law_1969 : vm_D q_L_law.2.1 1969 1 1970 (.laload) := vm_dD b_L_law_18 48 rfl rfl
theorem d_L_law_1970 : vm_D q_L_law.2.1 1970 2 1972 (.iload 6) := vm_dD b_L_law_18 49 rfl rfl
theorem d_L_law_1972 : vm_D q_L_law.2.1 1972 1 1973 (.i2l) := vm_dD b_L_law_18 50 rfl rfl
theorem d_L_law_1973 : vm_D q_L_law.2.1 1973 1 1974 (.lcmp) := vm_dD b_L_law_18 51 rfl rfl
theorem d_L_law_1974 : vm_B q_L_law.2.1 1974 1977 1979 (fun o => .ifCond .eq o) := ⟨5, vm_db b_L_law_18 (i := 52) rfl, rfl, by decide⟩
theorem d_L_law_1977 : vm_D q_L_law.2.1 1977 1 1978 (.iconst 0) := vm_dD b_L_law_18 53 rfl rfl
theorem d_L_law_1978 : vm_D q_L_law.2.1 1978 1 1979 (.ireturn) := vm_dD b_L_law_18 54 rfl rfl
theorem d_L_law_1960 : vm_D q_L_law.2.1 1960 1 1961 (.iconst 0) := vm_dD b_L_law_18 42 rfl rfl
theorem d_L_law_1961 : vm_D q_L_law.2.1 1961 1 1962 (.ireturn) := vm_dD b_L_law_18 43 rfl rfl
theorem d_L_law_1982 : vm_D q_L_law.2.1 1982 1 1983 (.aload_n 1) := vm_dD b_L_law_18 56 rfl rfl
theorem d_L_law_1983 : vm_D q_L_law.2.1 1983 1 1984 (.aload_n 0) := vm_dD b_L_law_18 57 rfl rfl
theorem d_L_law_1984 : vm_D q_L_law.2.1 1984 2 1986 (.iload 4) := vm_dD b_L_law_18 58 rfl rfl
theorem d_L_law_1986 : vm_D q_L_law.2.1 1986 1 1987 (.iconst 1) := vm_dD b_L_law_18 59 rfl rfl
theorem d_L_law_1987 : vm_D q_L_law.2.1 1987 1 1988 (.iadd) := vm_dD b_L_law_19 0 rfl rfl
theorem d_L_law_1988 : vm_D q_L_law.2.1 1988 1 1989 (.iaload) := vm_dD b_L_law_19 1 rfl rfl
theorem d_L_law_1989 : vm_D q_L_law.2.1 1989 1 1990 (.aload_n 0) := vm_dD b_L_law_19 2 rfl rfl
theorem d_L_law_1990 : vm_D q_L_law.2.1 1990 2 1992 (.iload 4) := vm_dD b_L_law_19 3 rfl rfl
theorem d_L_law_1992 : vm_D q_L_law.2.1 1992 1 1993 (.iconst 2) := vm_dD b_L_law_19 4 rfl rfl
theorem d_L_law_1993 : vm_D q_L_law.2.1 1993 1 1994 (.iadd) := vm_dD b_L_law_19 5 rfl rfl
theorem d_L_law_1994 : vm_D q_L_law.2.1 1994 1 1995 (.iaload) := vm_dD b_L_law_19 6 rfl rfl
theorem d_L_law_1995 : vm_D q_L_law.2.1 1995 1 1996 (.aload_n 3) := vm_dD b_L_law_19 7 rfl rfl
theorem d_L_law_1996 : vm_D q_L_law.2.1 1996 3 1999 (.invokestatic 269) := vm_dD b_L_law_19 8 rfl rfl
theorem d_L_law_1999 : vm_D q_L_law.2.1 1999 2 2001 (.istore 5) := vm_dD b_L_law_19 9 rfl rfl
theorem d_L_law_2001 : vm_D q_L_law.2.1 2001 1 2002 (.aload_n 2) := vm_dD b_L_law_19 10 rfl rfl
theorem d_L_law_2002 : vm_D q_L_law.2.1 2002 1 2003 (.aload_n 0) := vm_dD b_L_law_19 11 rfl rfl
theorem d_L_law_2003 : vm_D q_L_law.2.1 2003 2 2005 (.iload 4) := vm_dD b_L_law_19 12 rfl rfl
theorem d_L_law_2005 : vm_D q_L_law.2.1 2005 1 2006 (.iconst 1) := vm_dD b_L_law_19 13 rfl rfl
theorem d_L_law_2006 : vm_D q_L_law.2.1 2006 1 2007 (.iadd) := vm_dD b_L_law_19 14 rfl rfl
theorem d_L_law_2007 : vm_D q_L_law.2.1 2007 1 2008 (.iaload) := vm_dD b_L_law_19 15 rfl rfl
theorem d_L_law_2008 : vm_D q_L_law.2.1 2008 1 2009 (.aload_n 0) := vm_dD b_L_law_19 16 rfl rfl
theorem d_L_law_2009 : vm_D q_L_law.2.1 2009 2 2011 (.iload 4) := vm_dD b_L_law_19 17 rfl rfl
theorem d_L_law_2011 : vm_D q_L_law.2.1 2011 1 2012 (.iconst 2) := vm_dD b_L_law_19 18 rfl rfl
theorem d_L_law_2012 : vm_D q_L_law.2.1 2012 1 2013 (.iadd) := vm_dD b_L_law_19 19 rfl rfl
theorem d_L_law_2013 : vm_D q_L_law.2.1 2013 1 2014 (.iaload) := vm_dD b_L_law_19 20 rfl rfl
theorem d_L_law_2014 : vm_D q_L_law.2.1 2014 3 2017 (.invokevirtual 271) := vm_dD b_L_law_19 21 rfl rfl
theorem d_L_law_2017 : vm_D q_L_law.2.1 2017 2 2019 (.istore 6) := vm_dD b_L_law_19 22 rfl rfl
theorem d_L_law_2019 : vm_D q_L_law.2.1 2019 1 2020 (.aload_n 2) := vm_dD b_L_law_19 23 rfl rfl
theorem d_L_law_2020 : vm_D q_L_law.2.1 2020 3 2023 (.invokevirtual 148) := vm_dD b_L_law_19 24 rfl rfl
theorem d_L_law_2023 : vm_D q_L_law.2.1 2023 2 2025 (.iload 5) := vm_dD b_L_law_19 25 rfl rfl
theorem d_L_law_2025 : vm_B q_L_law.2.1 2025 2028 2030 (fun o => .if_icmp .eq o) := ⟨5, vm_db b_L_law_19 (i := 26) rfl, rfl, by decide⟩
theorem d_L_law_2030 : vm_D q_L_law.2.1 2030 2 2032 (.iload 5) := vm_dD b_L_law_19 29 rfl rfl
theorem d_L_law_2032 : vm_B q_L_law.2.1 2032 2035 2047 (fun o => .ifCond .ne o) := ⟨15, vm_db b_L_law_19 (i := 30) rfl, rfl, by decide⟩
theorem d_L_law_2047 : ∃ off : Int, decode q_L_law.2.1 2047 = .ok (.goto off, 3) ∧ ((2047 : Nat) : Int) + off = ((2799 : Nat) : Int) := ⟨752, vm_db b_L_law_19 (i := 40) rfl, by decide⟩
theorem d_L_law_2035 : vm_D q_L_law.2.1 2035 1 2036 (.aload_n 3) := vm_dD b_L_law_19 31 rfl rfl
theorem d_L_law_2036 : vm_D q_L_law.2.1 2036 1 2037 (.iconst 0) := vm_dD b_L_law_19 32 rfl rfl
theorem d_L_law_2037 : vm_D q_L_law.2.1 2037 1 2038 (.laload) := vm_dD b_L_law_19 33 rfl rfl
theorem d_L_law_2038 : vm_D q_L_law.2.1 2038 2 2040 (.iload 6) := vm_dD b_L_law_19 34 rfl rfl
theorem d_L_law_2040 : vm_D q_L_law.2.1 2040 1 2041 (.i2l) := vm_dD b_L_law_19 35 rfl rfl
theorem d_L_law_2041 : vm_D q_L_law.2.1 2041 1 2042 (.lcmp) := vm_dD b_L_law_19 36 rfl rfl
theorem d_L_law_2042 : vm_B q_L_law.2.1 2042 2045 2047 (fun o => .ifCond .eq o) := ⟨5, vm_db b_L_law_19 (i := 37) rfl, rfl, by decide⟩
theorem d_L_law_2045 : vm_D q_L_law.2.1 2045 1 2046 (.iconst 0) := vm_dD b_L_law_19 38 rfl rfl
theorem d_L_law_2046 : vm_D q_L_law.2.1 2046 1 2047 (.ireturn) := vm_dD b_L_law_19 39 rfl rfl
theorem d_L_law_2028 : vm_D q_L_law.2.1 2028 1 2029 (.iconst 0) := vm_dD b_L_law_19 27 rfl rfl
theorem d_L_law_2029 : vm_D q_L_law.2.1 2029 1 2030 (.ireturn) := vm_dD b_L_law_19 28 rfl rfl
theorem d_L_law_2050 : vm_D q_L_law.2.1 2050 1 2051 (.aload_n 1) := vm_dD b_L_law_19 41 rfl rfl
theorem d_L_law_2051 : vm_D q_L_law.2.1 2051 1 2052 (.aload_n 0) := vm_dD b_L_law_19 42 rfl rfl
theorem d_L_law_2052 : vm_D q_L_law.2.1 2052 2 2054 (.iload 4) := vm_dD b_L_law_19 43 rfl rfl
theorem d_L_law_2054 : vm_D q_L_law.2.1 2054 1 2055 (.iconst 1) := vm_dD b_L_law_19 44 rfl rfl
theorem d_L_law_2055 : vm_D q_L_law.2.1 2055 1 2056 (.iadd) := vm_dD b_L_law_19 45 rfl rfl
theorem d_L_law_2056 : vm_D q_L_law.2.1 2056 1 2057 (.iaload) := vm_dD b_L_law_19 46 rfl rfl
theorem d_L_law_2057 : vm_D q_L_law.2.1 2057 1 2058 (.aload_n 3) := vm_dD b_L_law_19 47 rfl rfl
theorem d_L_law_2058 : vm_D q_L_law.2.1 2058 3 2061 (.invokestatic 272) := vm_dD b_L_law_19 48 rfl rfl
theorem d_L_law_2061 : vm_D q_L_law.2.1 2061 2 2063 (.istore 5) := vm_dD b_L_law_19 49 rfl rfl
theorem d_L_law_2063 : vm_D q_L_law.2.1 2063 1 2064 (.aload_n 2) := vm_dD b_L_law_19 50 rfl rfl
theorem d_L_law_2064 : vm_D q_L_law.2.1 2064 1 2065 (.aload_n 0) := vm_dD b_L_law_19 51 rfl rfl
theorem d_L_law_2065 : vm_D q_L_law.2.1 2065 2 2067 (.iload 4) := vm_dD b_L_law_19 52 rfl rfl
theorem d_L_law_2067 : vm_D q_L_law.2.1 2067 1 2068 (.iconst 1) := vm_dD b_L_law_19 53 rfl rfl
theorem d_L_law_2068 : vm_D q_L_law.2.1 2068 1 2069 (.iadd) := vm_dD b_L_law_19 54 rfl rfl
theorem d_L_law_2069 : vm_D q_L_law.2.1 2069 1 2070 (.iaload) := vm_dD b_L_law_19 55 rfl rfl
theorem d_L_law_2070 : vm_D q_L_law.2.1 2070 3 2073 (.invokevirtual 274) := vm_dD b_L_law_19 56 rfl rfl
theorem d_L_law_2073 : vm_D q_L_law.2.1 2073 2 2075 (.istore 6) := vm_dD b_L_law_19 57 rfl rfl
theorem d_L_law_2075 : vm_D q_L_law.2.1 2075 1 2076 (.aload_n 2) := vm_dD b_L_law_19 58 rfl rfl
theorem d_L_law_2076 : vm_D q_L_law.2.1 2076 3 2079 (.invokevirtual 148) := vm_dD b_L_law_19 59 rfl rfl
theorem d_L_law_2079 : vm_D q_L_law.2.1 2079 2 2081 (.iload 5) := vm_dD b_L_law_20 0 rfl rfl
theorem d_L_law_2081 : vm_B q_L_law.2.1 2081 2084 2086 (fun o => .if_icmp .eq o) := ⟨5, vm_db b_L_law_20 (i := 1) rfl, rfl, by decide⟩
theorem d_L_law_2086 : vm_D q_L_law.2.1 2086 2 2088 (.iload 5) := vm_dD b_L_law_20 4 rfl rfl
theorem d_L_law_2088 : vm_B q_L_law.2.1 2088 2091 2103 (fun o => .ifCond .ne o) := ⟨15, vm_db b_L_law_20 (i := 5) rfl, rfl, by decide⟩
theorem d_L_law_2103 : ∃ off : Int, decode q_L_law.2.1 2103 = .ok (.goto off, 3) ∧ ((2103 : Nat) : Int) + off = ((2799 : Nat) : Int) := ⟨696, vm_db b_L_law_20 (i := 15) rfl, by decide⟩
theorem d_L_law_2091 : vm_D q_L_law.2.1 2091 1 2092 (.aload_n 3) := vm_dD b_L_law_20 6 rfl rfl
theorem d_L_law_2092 : vm_D q_L_law.2.1 2092 1 2093 (.iconst 0) := vm_dD b_L_law_20 7 rfl rfl
theorem d_L_law_2093 : vm_D q_L_law.2.1 2093 1 2094 (.laload) := vm_dD b_L_law_20 8 rfl rfl
theorem d_L_law_2094 : vm_D q_L_law.2.1 2094 2 2096 (.iload 6) := vm_dD b_L_law_20 9 rfl rfl
theorem d_L_law_2096 : vm_D q_L_law.2.1 2096 1 2097 (.i2l) := vm_dD b_L_law_20 10 rfl rfl
theorem d_L_law_2097 : vm_D q_L_law.2.1 2097 1 2098 (.lcmp) := vm_dD b_L_law_20 11 rfl rfl
theorem d_L_law_2098 : vm_B q_L_law.2.1 2098 2101 2103 (fun o => .ifCond .eq o) := ⟨5, vm_db b_L_law_20 (i := 12) rfl, rfl, by decide⟩
theorem d_L_law_2101 : vm_D q_L_law.2.1 2101 1 2102 (.iconst 0) := vm_dD b_L_law_20 13 rfl rfl
theorem d_L_law_2102 : vm_D q_L_law.2.1 2102 1 2103 (.ireturn) := vm_dD b_L_law_20 14 rfl rfl
theorem d_L_law_2084 : vm_D q_L_law.2.1 2084 1 2085 (.iconst 0) := vm_dD b_L_law_20 2 rfl rfl
theorem d_L_law_2085 : vm_D q_L_law.2.1 2085 1 2086 (.ireturn) := vm_dD b_L_law_20 3 rfl rfl
theorem d_L_law_2106 : vm_D q_L_law.2.1 2106 1 2107 (.aload_n 1) := vm_dD b_L_law_20 16 rfl rfl
theorem d_L_law_2107 : vm_D q_L_law.2.1 2107 1 2108 (.aload_n 3) := vm_dD b_L_law_20 17 rfl rfl
theorem d_L_law_2108 : vm_D q_L_law.2.1 2108 3 2111 (.invokestatic 275) := vm_dD b_L_law_20 18 rfl rfl
theorem d_L_law_2111 : vm_D q_L_law.2.1 2111 2 2113 (.istore 5) := vm_dD b_L_law_20 19 rfl rfl
theorem d_L_law_2113 : vm_D q_L_law.2.1 2113 1 2114 (.aload_n 2) := vm_dD b_L_law_20 20 rfl rfl
theorem d_L_law_2114 : vm_D q_L_law.2.1 2114 3 2117 (.invokevirtual 277) := vm_dD b_L_law_20 21 rfl rfl
theorem d_L_law_2117 : vm_D q_L_law.2.1 2117 2 2119 (.istore 6) := vm_dD b_L_law_20 22 rfl rfl
theorem d_L_law_2119 : vm_D q_L_law.2.1 2119 1 2120 (.aload_n 2) := vm_dD b_L_law_20 23 rfl rfl
theorem d_L_law_2120 : vm_D q_L_law.2.1 2120 3 2123 (.invokevirtual 148) := vm_dD b_L_law_20 24 rfl rfl
theorem d_L_law_2123 : vm_D q_L_law.2.1 2123 2 2125 (.iload 5) := vm_dD b_L_law_20 25 rfl rfl
theorem d_L_law_2125 : vm_B q_L_law.2.1 2125 2128 2130 (fun o => .if_icmp .eq o) := ⟨5, vm_db b_L_law_20 (i := 26) rfl, rfl, by decide⟩
theorem d_L_law_2130 : vm_D q_L_law.2.1 2130 2 2132 (.iload 5) := vm_dD b_L_law_20 29 rfl rfl
theorem d_L_law_2132 : vm_B q_L_law.2.1 2132 2135 2147 (fun o => .ifCond .ne o) := ⟨15, vm_db b_L_law_20 (i := 30) rfl, rfl, by decide⟩
theorem d_L_law_2147 : ∃ off : Int, decode q_L_law.2.1 2147 = .ok (.goto off, 3) ∧ ((2147 : Nat) : Int) + off = ((2799 : Nat) : Int) := ⟨652, vm_db b_L_law_20 (i := 40) rfl, by decide⟩
theorem d_L_law_2135 : vm_D q_L_law.2.1 2135 1 2136 (.aload_n 3) := vm_dD b_L_law_20 31 rfl rfl
theorem d_L_law_2136 : vm_D q_L_law.2.1 2136 1 2137 (.iconst 0) := vm_dD b_L_law_20 32 rfl rfl
theorem d_L_law_2137 : vm_D q_L_law.2.1 2137 1 2138 (.laload) := vm_dD b_L_law_20 33 rfl rfl
theorem d_L_law_2138 : vm_D q_L_law.2.1 2138 2 2140 (.iload 6) := vm_dD b_L_law_20 34 rfl rfl
theorem d_L_law_2140 : vm_D q_L_law.2.1 2140 1 2141 (.i2l) := vm_dD b_L_law_20 35 rfl rfl
theorem d_L_law_2141 : vm_D q_L_law.2.1 2141 1 2142 (.lcmp) := vm_dD b_L_law_20 36 rfl rfl
theorem d_L_law_2142 : vm_B q_L_law.2.1 2142 2145 2147 (fun o => .ifCond .eq o) := ⟨5, vm_db b_L_law_20 (i := 37) rfl, rfl, by decide⟩
theorem d_L_law_2145 : vm_D q_L_law.2.1 2145 1 2146 (.iconst 0) := vm_dD b_L_law_20 38 rfl rfl
theorem d_L_law_2146 : vm_D q_L_law.2.1 2146 1 2147 (.ireturn) := vm_dD b_L_law_20 39 rfl rfl
theorem d_L_law_2128 : vm_D q_L_law.2.1 2128 1 2129 (.iconst 0) := vm_dD b_L_law_20 27 rfl rfl
theorem d_L_law_2129 : vm_D q_L_law.2.1 2129 1 2130 (.ireturn) := vm_dD b_L_law_20 28 rfl rfl
theorem d_L_law_2150 : vm_D q_L_law.2.1 2150 1 2151 (.aload_n 1) := vm_dD b_L_law_20 41 rfl rfl
theorem d_L_law_2151 : vm_D q_L_law.2.1 2151 1 2152 (.aload_n 0) := vm_dD b_L_law_20 42 rfl rfl
theorem d_L_law_2152 : vm_D q_L_law.2.1 2152 2 2154 (.iload 4) := vm_dD b_L_law_20 43 rfl rfl
theorem d_L_law_2154 : vm_D q_L_law.2.1 2154 1 2155 (.iconst 1) := vm_dD b_L_law_20 44 rfl rfl
theorem d_L_law_2155 : vm_D q_L_law.2.1 2155 1 2156 (.iadd) := vm_dD b_L_law_20 45 rfl rfl
theorem d_L_law_2156 : vm_D q_L_law.2.1 2156 1 2157 (.iaload) := vm_dD b_L_law_20 46 rfl rfl
theorem d_L_law_2157 : vm_D q_L_law.2.1 2157 1 2158 (.aload_n 0) := vm_dD b_L_law_20 47 rfl rfl
theorem d_L_law_2158 : vm_D q_L_law.2.1 2158 2 2160 (.iload 4) := vm_dD b_L_law_20 48 rfl rfl
theorem d_L_law_2160 : vm_D q_L_law.2.1 2160 1 2161 (.iconst 2) := vm_dD b_L_law_20 49 rfl rfl
theorem d_L_law_2161 : vm_D q_L_law.2.1 2161 1 2162 (.iadd) := vm_dD b_L_law_20 50 rfl rfl
theorem d_L_law_2162 : vm_D q_L_law.2.1 2162 1 2163 (.iaload) := vm_dD b_L_law_20 51 rfl rfl
theorem d_L_law_2163 : vm_D q_L_law.2.1 2163 1 2164 (.aload_n 3) := vm_dD b_L_law_20 52 rfl rfl
theorem d_L_law_2164 : vm_D q_L_law.2.1 2164 3 2167 (.invokestatic 278) := vm_dD b_L_law_20 53 rfl rfl
theorem d_L_law_2167 : vm_D q_L_law.2.1 2167 2 2169 (.istore 5) := vm_dD b_L_law_20 54 rfl rfl
theorem d_L_law_2169 : vm_D q_L_law.2.1 2169 1 2170 (.aload_n 2) := vm_dD b_L_law_20 55 rfl rfl
theorem d_L_law_2170 : vm_D q_L_law.2.1 2170 1 2171 (.aload_n 0) := vm_dD b_L_law_20 56 rfl rfl
theorem d_L_law_2171 : vm_D q_L_law.2.1 2171 2 2173 (.iload 4) := vm_dD b_L_law_20 57 rfl rfl
theorem d_L_law_2173 : vm_D q_L_law.2.1 2173 1 2174 (.iconst 1) := vm_dD b_L_law_20 58 rfl rfl
theorem d_L_law_2174 : vm_D q_L_law.2.1 2174 1 2175 (.iadd) := vm_dD b_L_law_20 59 rfl rfl
theorem d_L_law_2175 : vm_D q_L_law.2.1 2175 1 2176 (.iaload) := vm_dD b_L_law_21 0 rfl rfl
theorem d_L_law_2176 : vm_D q_L_law.2.1 2176 1 2177 (.aload_n 0) := vm_dD b_L_law_21 1 rfl rfl
theorem d_L_law_2177 : vm_D q_L_law.2.1 2177 2 2179 (.iload 4) := vm_dD b_L_law_21 2 rfl rfl
theorem d_L_law_2179 : vm_D q_L_law.2.1 2179 1 2180 (.iconst 2) := vm_dD b_L_law_21 3 rfl rfl
theorem d_L_law_2180 : vm_D q_L_law.2.1 2180 1 2181 (.iadd) := vm_dD b_L_law_21 4 rfl rfl
theorem d_L_law_2181 : vm_D q_L_law.2.1 2181 1 2182 (.iaload) := vm_dD b_L_law_21 5 rfl rfl
theorem d_L_law_2182 : vm_D q_L_law.2.1 2182 3 2185 (.invokevirtual 280) := vm_dD b_L_law_21 6 rfl rfl
theorem d_L_law_2185 : vm_D q_L_law.2.1 2185 2 2187 (.istore 6) := vm_dD b_L_law_21 7 rfl rfl
theorem d_L_law_2187 : vm_D q_L_law.2.1 2187 1 2188 (.aload_n 2) := vm_dD b_L_law_21 8 rfl rfl
theorem d_L_law_2188 : vm_D q_L_law.2.1 2188 3 2191 (.invokevirtual 148) := vm_dD b_L_law_21 9 rfl rfl
theorem d_L_law_2191 : vm_D q_L_law.2.1 2191 2 2193 (.iload 5) := vm_dD b_L_law_21 10 rfl rfl
theorem d_L_law_2193 : vm_B q_L_law.2.1 2193 2196 2198 (fun o => .if_icmp .eq o) := ⟨5, vm_db b_L_law_21 (i := 11) rfl, rfl, by decide⟩
theorem d_L_law_2198 : vm_D q_L_law.2.1 2198 2 2200 (.iload 5) := vm_dD b_L_law_21 14 rfl rfl
theorem d_L_law_2200 : vm_B q_L_law.2.1 2200 2203 2215 (fun o => .ifCond .ne o) := ⟨15, vm_db b_L_law_21 (i := 15) rfl, rfl, by decide⟩
theorem d_L_law_2215 : ∃ off : Int, decode q_L_law.2.1 2215 = .ok (.goto off, 3) ∧ ((2215 : Nat) : Int) + off = ((2799 : Nat) : Int) := ⟨584, vm_db b_L_law_21 (i := 25) rfl, by decide⟩
theorem d_L_law_2203 : vm_D q_L_law.2.1 2203 1 2204 (.aload_n 3) := vm_dD b_L_law_21 16 rfl rfl
theorem d_L_law_2204 : vm_D q_L_law.2.1 2204 1 2205 (.iconst 0) := vm_dD b_L_law_21 17 rfl rfl
theorem d_L_law_2205 : vm_D q_L_law.2.1 2205 1 2206 (.laload) := vm_dD b_L_law_21 18 rfl rfl
theorem d_L_law_2206 : vm_D q_L_law.2.1 2206 2 2208 (.iload 6) := vm_dD b_L_law_21 19 rfl rfl
theorem d_L_law_2208 : vm_D q_L_law.2.1 2208 1 2209 (.i2l) := vm_dD b_L_law_21 20 rfl rfl
theorem d_L_law_2209 : vm_D q_L_law.2.1 2209 1 2210 (.lcmp) := vm_dD b_L_law_21 21 rfl rfl
theorem d_L_law_2210 : vm_B q_L_law.2.1 2210 2213 2215 (fun o => .ifCond .eq o) := ⟨5, vm_db b_L_law_21 (i := 22) rfl, rfl, by decide⟩
theorem d_L_law_2213 : vm_D q_L_law.2.1 2213 1 2214 (.iconst 0) := vm_dD b_L_law_21 23 rfl rfl
theorem d_L_law_2214 : vm_D q_L_law.2.1 2214 1 2215 (.ireturn) := vm_dD b_L_law_21 24 rfl rfl
theorem d_L_law_2196 : vm_D q_L_law.2.1 2196 1 2197 (.iconst 0) := vm_dD b_L_law_21 12 rfl rfl
theorem d_L_law_2197 : vm_D q_L_law.2.1 2197 1 2198 (.ireturn) := vm_dD b_L_law_21 13 rfl rfl
theorem d_L_law_2218 : vm_D q_L_law.2.1 2218 1 2219 (.aload_n 1) := vm_dD b_L_law_21 26 rfl rfl
theorem d_L_law_2219 : vm_D q_L_law.2.1 2219 3 2222 (.invokevirtual 281) := vm_dD b_L_law_21 27 rfl rfl
theorem d_L_law_2222 : vm_D q_L_law.2.1 2222 1 2223 (.aload_n 2) := vm_dD b_L_law_21 28 rfl rfl
theorem d_L_law_2223 : vm_D q_L_law.2.1 2223 3 2226 (.invokevirtual 284) := vm_dD b_L_law_21 29 rfl rfl
theorem d_L_law_2226 : vm_B q_L_law.2.1 2226 2229 2799 (fun o => .if_icmp .eq o) := ⟨573, vm_db b_L_law_21 (i := 30) rfl, rfl, by decide⟩
theorem d_L_law_2229 : vm_D q_L_law.2.1 2229 1 2230 (.iconst 0) := vm_dD b_L_law_21 31 rfl rfl
theorem d_L_law_2230 : vm_D q_L_law.2.1 2230 1 2231 (.ireturn) := vm_dD b_L_law_21 32 rfl rfl
theorem d_L_law_2231 : vm_D q_L_law.2.1 2231 1 2232 (.aload_n 1) := vm_dD b_L_law_21 33 rfl rfl
theorem d_L_law_2232 : vm_D q_L_law.2.1 2232 1 2233 (.aload_n 0) := vm_dD b_L_law_21 34 rfl rfl
theorem d_L_law_2233 : vm_D q_L_law.2.1 2233 2 2235 (.iload 4) := vm_dD b_L_law_21 35 rfl rfl
theorem d_L_law_2235 : vm_D q_L_law.2.1 2235 1 2236 (.iconst 1) := vm_dD b_L_law_21 36 rfl rfl
theorem d_L_law_2236 : vm_D q_L_law.2.1 2236 1 2237 (.iadd) := vm_dD b_L_law_21 37 rfl rfl
theorem d_L_law_2237 : vm_D q_L_law.2.1 2237 1 2238 (.iaload) := vm_dD b_L_law_21 38 rfl rfl
theorem d_L_law_2238 : vm_D q_L_law.2.1 2238 1 2239 (.aload_n 0) := vm_dD b_L_law_21 39 rfl rfl
theorem d_L_law_2239 : vm_D q_L_law.2.1 2239 2 2241 (.iload 4) := vm_dD b_L_law_21 40 rfl rfl
theorem d_L_law_2241 : vm_D q_L_law.2.1 2241 1 2242 (.iconst 2) := vm_dD b_L_law_21 41 rfl rfl
theorem d_L_law_2242 : vm_D q_L_law.2.1 2242 1 2243 (.iadd) := vm_dD b_L_law_21 42 rfl rfl
theorem d_L_law_2243 : vm_D q_L_law.2.1 2243 1 2244 (.iaload) := vm_dD b_L_law_21 43 rfl rfl
theorem d_L_law_2244 : vm_D q_L_law.2.1 2244 1 2245 (.aload_n 0) := vm_dD b_L_law_21 44 rfl rfl
theorem d_L_law_2245 : vm_D q_L_law.2.1 2245 2 2247 (.iload 4) := vm_dD b_L_law_21 45 rfl rfl
theorem d_L_law_2247 : vm_D q_L_law.2.1 2247 1 2248 (.iconst 3) := vm_dD b_L_law_21 46 rfl rfl
theorem d_L_law_2248 : vm_D q_L_law.2.1 2248 1 2249 (.iadd) := vm_dD b_L_law_21 47 rfl rfl
theorem d_L_law_2249 : vm_D q_L_law.2.1 2249 1 2250 (.iaload) := vm_dD b_L_law_21 48 rfl rfl
theorem d_L_law_2250 : vm_D q_L_law.2.1 2250 1 2251 (.aload_n 3) := vm_dD b_L_law_21 49 rfl rfl
theorem d_L_law_2251 : vm_D q_L_law.2.1 2251 3 2254 (.invokestatic 285) := vm_dD b_L_law_21 50 rfl rfl
theorem d_L_law_2254 : vm_D q_L_law.2.1 2254 2 2256 (.istore 5) := vm_dD b_L_law_21 51 rfl rfl
theorem d_L_law_2256 : vm_D q_L_law.2.1 2256 1 2257 (.aload_n 2) := vm_dD b_L_law_21 52 rfl rfl
theorem d_L_law_2257 : vm_D q_L_law.2.1 2257 1 2258 (.aload_n 0) := vm_dD b_L_law_21 53 rfl rfl
theorem d_L_law_2258 : vm_D q_L_law.2.1 2258 2 2260 (.iload 4) := vm_dD b_L_law_21 54 rfl rfl
theorem d_L_law_2260 : vm_D q_L_law.2.1 2260 1 2261 (.iconst 1) := vm_dD b_L_law_21 55 rfl rfl
theorem d_L_law_2261 : vm_D q_L_law.2.1 2261 1 2262 (.iadd) := vm_dD b_L_law_21 56 rfl rfl
theorem d_L_law_2262 : vm_D q_L_law.2.1 2262 1 2263 (.iaload) := vm_dD b_L_law_21 57 rfl rfl
theorem d_L_law_2263 : vm_D q_L_law.2.1 2263 1 2264 (.aload_n 0) := vm_dD b_L_law_21 58 rfl rfl
theorem d_L_law_2264 : vm_D q_L_law.2.1 2264 2 2266 (.iload 4) := vm_dD b_L_law_21 59 rfl rfl
theorem d_L_law_2266 : vm_D q_L_law.2.1 2266 1 2267 (.iconst 2) := vm_dD b_L_law_22 0 rfl rfl
theorem d_L_law_2267 : vm_D q_L_law.2.1 2267 1 2268 (.iadd) := vm_dD b_L_law_22 1 rfl rfl
theorem d_L_law_2268 : vm_D q_L_law.2.1 2268 1 2269 (.iaload) := vm_dD b_L_law_22 2 rfl rfl
theorem d_L_law_2269 : vm_D q_L_law.2.1 2269 1 2270 (.aload_n 0) := vm_dD b_L_law_22 3 rfl rfl
theorem d_L_law_2270 : vm_D q_L_law.2.1 2270 2 2272 (.iload 4) := vm_dD b_L_law_22 4 rfl rfl
theorem d_L_law_2272 : vm_D q_L_law.2.1 2272 1 2273 (.iconst 3) := vm_dD b_L_law_22 5 rfl rfl
theorem d_L_law_2273 : vm_D q_L_law.2.1 2273 1 2274 (.iadd) := vm_dD b_L_law_22 6 rfl rfl
theorem d_L_law_2274 : vm_D q_L_law.2.1 2274 1 2275 (.iaload) := vm_dD b_L_law_22 7 rfl rfl
theorem d_L_law_2275 : vm_D q_L_law.2.1 2275 3 2278 (.invokevirtual 287) := vm_dD b_L_law_22 8 rfl rfl
theorem d_L_law_2278 : vm_D q_L_law.2.1 2278 2 2280 (.istore 6) := vm_dD b_L_law_22 9 rfl rfl
theorem d_L_law_2280 : vm_D q_L_law.2.1 2280 1 2281 (.aload_n 2) := vm_dD b_L_law_22 10 rfl rfl
theorem d_L_law_2281 : vm_D q_L_law.2.1 2281 3 2284 (.invokevirtual 148) := vm_dD b_L_law_22 11 rfl rfl
theorem d_L_law_2284 : vm_D q_L_law.2.1 2284 2 2286 (.iload 5) := vm_dD b_L_law_22 12 rfl rfl
theorem d_L_law_2286 : vm_B q_L_law.2.1 2286 2289 2291 (fun o => .if_icmp .eq o) := ⟨5, vm_db b_L_law_22 (i := 13) rfl, rfl, by decide⟩
theorem d_L_law_2291 : vm_D q_L_law.2.1 2291 2 2293 (.iload 5) := vm_dD b_L_law_22 16 rfl rfl
theorem d_L_law_2293 : vm_B q_L_law.2.1 2293 2296 2308 (fun o => .ifCond .ne o) := ⟨15, vm_db b_L_law_22 (i := 17) rfl, rfl, by decide⟩
theorem d_L_law_2308 : ∃ off : Int, decode q_L_law.2.1 2308 = .ok (.goto off, 3) ∧ ((2308 : Nat) : Int) + off = ((2799 : Nat) : Int) := ⟨491, vm_db b_L_law_22 (i := 27) rfl, by decide⟩
theorem d_L_law_2296 : vm_D q_L_law.2.1 2296 1 2297 (.aload_n 3) := vm_dD b_L_law_22 18 rfl rfl
theorem d_L_law_2297 : vm_D q_L_law.2.1 2297 1 2298 (.iconst 0) := vm_dD b_L_law_22 19 rfl rfl
theorem d_L_law_2298 : vm_D q_L_law.2.1 2298 1 2299 (.laload) := vm_dD b_L_law_22 20 rfl rfl
theorem d_L_law_2299 : vm_D q_L_law.2.1 2299 2 2301 (.iload 6) := vm_dD b_L_law_22 21 rfl rfl
theorem d_L_law_2301 : vm_D q_L_law.2.1 2301 1 2302 (.i2l) := vm_dD b_L_law_22 22 rfl rfl
theorem d_L_law_2302 : vm_D q_L_law.2.1 2302 1 2303 (.lcmp) := vm_dD b_L_law_22 23 rfl rfl
theorem d_L_law_2303 : vm_B q_L_law.2.1 2303 2306 2308 (fun o => .ifCond .eq o) := ⟨5, vm_db b_L_law_22 (i := 24) rfl, rfl, by decide⟩
theorem d_L_law_2306 : vm_D q_L_law.2.1 2306 1 2307 (.iconst 0) := vm_dD b_L_law_22 25 rfl rfl
theorem d_L_law_2307 : vm_D q_L_law.2.1 2307 1 2308 (.ireturn) := vm_dD b_L_law_22 26 rfl rfl
theorem d_L_law_2289 : vm_D q_L_law.2.1 2289 1 2290 (.iconst 0) := vm_dD b_L_law_22 14 rfl rfl
theorem d_L_law_2290 : vm_D q_L_law.2.1 2290 1 2291 (.ireturn) := vm_dD b_L_law_22 15 rfl rfl
theorem d_L_law_2311 : vm_D q_L_law.2.1 2311 1 2312 (.aload_n 1) := vm_dD b_L_law_22 28 rfl rfl
theorem d_L_law_2312 : vm_D q_L_law.2.1 2312 1 2313 (.aload_n 0) := vm_dD b_L_law_22 29 rfl rfl
theorem d_L_law_2313 : vm_D q_L_law.2.1 2313 2 2315 (.iload 4) := vm_dD b_L_law_22 30 rfl rfl
theorem d_L_law_2315 : vm_D q_L_law.2.1 2315 1 2316 (.iconst 1) := vm_dD b_L_law_22 31 rfl rfl
theorem d_L_law_2316 : vm_D q_L_law.2.1 2316 1 2317 (.iadd) := vm_dD b_L_law_22 32 rfl rfl
theorem d_L_law_2317 : vm_D q_L_law.2.1 2317 1 2318 (.iaload) := vm_dD b_L_law_22 33 rfl rfl
theorem d_L_law_2318 : vm_D q_L_law.2.1 2318 1 2319 (.aload_n 0) := vm_dD b_L_law_22 34 rfl rfl
theorem d_L_law_2319 : vm_D q_L_law.2.1 2319 2 2321 (.iload 4) := vm_dD b_L_law_22 35 rfl rfl
theorem d_L_law_2321 : vm_D q_L_law.2.1 2321 1 2322 (.iconst 2) := vm_dD b_L_law_22 36 rfl rfl
theorem d_L_law_2322 : vm_D q_L_law.2.1 2322 1 2323 (.iadd) := vm_dD b_L_law_22 37 rfl rfl
theorem d_L_law_2323 : vm_D q_L_law.2.1 2323 1 2324 (.iaload) := vm_dD b_L_law_22 38 rfl rfl
theorem d_L_law_2324 : vm_B q_L_law.2.1 2324 2327 2331 (fun o => .ifCond .eq o) := ⟨7, vm_db b_L_law_22 (i := 39) rfl, rfl, by decide⟩
theorem d_L_law_2332 : vm_D q_L_law.2.1 2332 1 2333 (.aload_n 3) := vm_dD b_L_law_22 43 rfl rfl
theorem d_L_law_2333 : vm_D q_L_law.2.1 2333 3 2336 (.invokestatic 288) := vm_dD b_L_law_22 44 rfl rfl
theorem d_L_law_2336 : vm_D q_L_law.2.1 2336 2 2338 (.istore 5) := vm_dD b_L_law_22 45 rfl rfl
theorem d_L_law_2338 : vm_D q_L_law.2.1 2338 1 2339 (.aload_n 2) := vm_dD b_L_law_22 46 rfl rfl
theorem d_L_law_2339 : vm_D q_L_law.2.1 2339 1 2340 (.aload_n 0) := vm_dD b_L_law_22 47 rfl rfl
theorem d_L_law_2340 : vm_D q_L_law.2.1 2340 2 2342 (.iload 4) := vm_dD b_L_law_22 48 rfl rfl
theorem d_L_law_2342 : vm_D q_L_law.2.1 2342 1 2343 (.iconst 1) := vm_dD b_L_law_22 49 rfl rfl
theorem d_L_law_2343 : vm_D q_L_law.2.1 2343 1 2344 (.iadd) := vm_dD b_L_law_22 50 rfl rfl
theorem d_L_law_2344 : vm_D q_L_law.2.1 2344 1 2345 (.iaload) := vm_dD b_L_law_22 51 rfl rfl
theorem d_L_law_2345 : vm_D q_L_law.2.1 2345 1 2346 (.aload_n 0) := vm_dD b_L_law_22 52 rfl rfl
theorem d_L_law_2346 : vm_D q_L_law.2.1 2346 2 2348 (.iload 4) := vm_dD b_L_law_22 53 rfl rfl
theorem d_L_law_2348 : vm_D q_L_law.2.1 2348 1 2349 (.iconst 2) := vm_dD b_L_law_22 54 rfl rfl
theorem d_L_law_2349 : vm_D q_L_law.2.1 2349 1 2350 (.iadd) := vm_dD b_L_law_22 55 rfl rfl
theorem d_L_law_2350 : vm_D q_L_law.2.1 2350 1 2351 (.iaload) := vm_dD b_L_law_22 56 rfl rfl
theorem d_L_law_2351 : vm_B q_L_law.2.1 2351 2354 2358 (fun o => .ifCond .eq o) := ⟨7, vm_db b_L_law_22 (i := 57) rfl, rfl, by decide⟩
theorem d_L_law_2359 : vm_D q_L_law.2.1 2359 3 2362 (.invokevirtual 291) := vm_dD b_L_law_23 1 rfl rfl
theorem d_L_law_2362 : vm_D q_L_law.2.1 2362 2 2364 (.istore 6) := vm_dD b_L_law_23 2 rfl rfl
theorem d_L_law_2364 : vm_D q_L_law.2.1 2364 1 2365 (.aload_n 2) := vm_dD b_L_law_23 3 rfl rfl
theorem d_L_law_2365 : vm_D q_L_law.2.1 2365 3 2368 (.invokevirtual 148) := vm_dD b_L_law_23 4 rfl rfl
theorem d_L_law_2368 : vm_D q_L_law.2.1 2368 2 2370 (.iload 5) := vm_dD b_L_law_23 5 rfl rfl
theorem d_L_law_2370 : vm_B q_L_law.2.1 2370 2373 2375 (fun o => .if_icmp .eq o) := ⟨5, vm_db b_L_law_23 (i := 6) rfl, rfl, by decide⟩
theorem d_L_law_2375 : vm_D q_L_law.2.1 2375 2 2377 (.iload 5) := vm_dD b_L_law_23 9 rfl rfl
theorem d_L_law_2377 : vm_B q_L_law.2.1 2377 2380 2399 (fun o => .ifCond .ne o) := ⟨22, vm_db b_L_law_23 (i := 10) rfl, rfl, by decide⟩
theorem d_L_law_2399 : ∃ off : Int, decode q_L_law.2.1 2399 = .ok (.goto off, 3) ∧ ((2399 : Nat) : Int) + off = ((2799 : Nat) : Int) := ⟨400, vm_db b_L_law_23 (i := 23) rfl, by decide⟩
theorem d_L_law_2380 : vm_D q_L_law.2.1 2380 1 2381 (.aload_n 3) := vm_dD b_L_law_23 11 rfl rfl
theorem d_L_law_2381 : vm_D q_L_law.2.1 2381 1 2382 (.iconst 0) := vm_dD b_L_law_23 12 rfl rfl
theorem d_L_law_2382 : vm_D q_L_law.2.1 2382 1 2383 (.laload) := vm_dD b_L_law_23 13 rfl rfl
theorem d_L_law_2383 : vm_D q_L_law.2.1 2383 2 2385 (.iload 6) := vm_dD b_L_law_23 14 rfl rfl
theorem d_L_law_2385 : vm_B q_L_law.2.1 2385 2388 2392 (fun o => .ifCond .eq o) := ⟨7, vm_db b_L_law_23 (i := 15) rfl, rfl, by decide⟩
theorem d_L_law_2393 : vm_D q_L_law.2.1 2393 1 2394 (.lcmp) := vm_dD b_L_law_23 19 rfl rfl
theorem d_L_law_2394 : vm_B q_L_law.2.1 2394 2397 2399 (fun o => .ifCond .eq o) := ⟨5, vm_db b_L_law_23 (i := 20) rfl, rfl, by decide⟩
theorem d_L_law_2397 : vm_D q_L_law.2.1 2397 1 2398 (.iconst 0) := vm_dD b_L_law_23 21 rfl rfl
theorem d_L_law_2398 : vm_D q_L_law.2.1 2398 1 2399 (.ireturn) := vm_dD b_L_law_23 22 rfl rfl
theorem d_L_law_2392 : vm_D q_L_law.2.1 2392 1 2393 (.lconst 0) := vm_dD b_L_law_23 18 rfl rfl
theorem d_L_law_2388 : vm_D q_L_law.2.1 2388 1 2389 (.lconst 1) := vm_dD b_L_law_23 16 rfl rfl
theorem d_L_law_2389 : ∃ off : Int, decode q_L_law.2.1 2389 = .ok (.goto off, 3) ∧ ((2389 : Nat) : Int) + off = ((2393 : Nat) : Int) := ⟨4, vm_db b_L_law_23 (i := 17) rfl, by decide⟩
theorem d_L_law_2373 : vm_D q_L_law.2.1 2373 1 2374 (.iconst 0) := vm_dD b_L_law_23 7 rfl rfl
theorem d_L_law_2374 : vm_D q_L_law.2.1 2374 1 2375 (.ireturn) := vm_dD b_L_law_23 8 rfl rfl
theorem d_L_law_2358 : vm_D q_L_law.2.1 2358 1 2359 (.iconst 0) := vm_dD b_L_law_23 0 rfl rfl
theorem d_L_law_2354 : vm_D q_L_law.2.1 2354 1 2355 (.iconst 1) := vm_dD b_L_law_22 58 rfl rfl
theorem d_L_law_2355 : ∃ off : Int, decode q_L_law.2.1 2355 = .ok (.goto off, 3) ∧ ((2355 : Nat) : Int) + off = ((2359 : Nat) : Int) := ⟨4, vm_db b_L_law_22 (i := 59) rfl, by decide⟩
theorem d_L_law_2331 : vm_D q_L_law.2.1 2331 1 2332 (.iconst 0) := vm_dD b_L_law_22 42 rfl rfl
theorem d_L_law_2327 : vm_D q_L_law.2.1 2327 1 2328 (.iconst 1) := vm_dD b_L_law_22 40 rfl rfl
theorem d_L_law_2328 : ∃ off : Int, decode q_L_law.2.1 2328 = .ok (.goto off, 3) ∧ ((2328 : Nat) : Int) + off = ((2332 : Nat) : Int) := ⟨4, vm_db b_L_law_22 (i := 41) rfl, by decide⟩
theorem d_L_law_2402 : vm_D q_L_law.2.1 2402 1 2403 (.aload_n 1) := vm_dD b_L_law_23 24 rfl rfl
theorem d_L_law_2403 : vm_D q_L_law.2.1 2403 1 2404 (.aload_n 0) := vm_dD b_L_law_23 25 rfl rfl
theorem d_L_law_2404 : vm_D q_L_law.2.1 2404 2 2406 (.iload 4) := vm_dD b_L_law_23 26 rfl rfl
theorem d_L_law_2406 : vm_D q_L_law.2.1 2406 1 2407 (.iconst 1) := vm_dD b_L_law_23 27 rfl rfl
theorem d_L_law_2407 : vm_D q_L_law.2.1 2407 1 2408 (.iadd) := vm_dD b_L_law_23 28 rfl rfl
theorem d_L_law_2408 : vm_D q_L_law.2.1 2408 1 2409 (.iaload) := vm_dD b_L_law_23 29 rfl rfl
theorem d_L_law_2409 : vm_D q_L_law.2.1 2409 3 2412 (.invokevirtual 292) := vm_dD b_L_law_23 30 rfl rfl
theorem d_L_law_2412 : vm_D q_L_law.2.1 2412 1 2413 (.aload_n 2) := vm_dD b_L_law_23 31 rfl rfl
theorem d_L_law_2413 : vm_D q_L_law.2.1 2413 1 2414 (.aload_n 0) := vm_dD b_L_law_23 32 rfl rfl
theorem d_L_law_2414 : vm_D q_L_law.2.1 2414 2 2416 (.iload 4) := vm_dD b_L_law_23 33 rfl rfl
theorem d_L_law_2416 : vm_D q_L_law.2.1 2416 1 2417 (.iconst 1) := vm_dD b_L_law_23 34 rfl rfl
theorem d_L_law_2417 : vm_D q_L_law.2.1 2417 1 2418 (.iadd) := vm_dD b_L_law_23 35 rfl rfl
theorem d_L_law_2418 : vm_D q_L_law.2.1 2418 1 2419 (.iaload) := vm_dD b_L_law_23 36 rfl rfl
theorem d_L_law_2419 : vm_D q_L_law.2.1 2419 3 2422 (.invokevirtual 295) := vm_dD b_L_law_23 37 rfl rfl
theorem d_L_law_2422 : vm_B q_L_law.2.1 2422 2425 2799 (fun o => .if_icmp .eq o) := ⟨377, vm_db b_L_law_23 (i := 38) rfl, rfl, by decide⟩
theorem d_L_law_2425 : vm_D q_L_law.2.1 2425 1 2426 (.iconst 0) := vm_dD b_L_law_23 39 rfl rfl
theorem d_L_law_2426 : vm_D q_L_law.2.1 2426 1 2427 (.ireturn) := vm_dD b_L_law_23 40 rfl rfl
theorem d_L_law_2427 : vm_D q_L_law.2.1 2427 1 2428 (.aload_n 1) := vm_dD b_L_law_23 41 rfl rfl
theorem d_L_law_2428 : vm_D q_L_law.2.1 2428 3 2431 (.invokevirtual 296) := vm_dD b_L_law_23 42 rfl rfl
theorem d_L_law_2431 : vm_D q_L_law.2.1 2431 1 2432 (.aload_n 2) := vm_dD b_L_law_23 43 rfl rfl
theorem d_L_law_2432 : vm_D q_L_law.2.1 2432 3 2435 (.invokevirtual 299) := vm_dD b_L_law_23 44 rfl rfl
theorem d_L_law_2435 : vm_B q_L_law.2.1 2435 2438 2799 (fun o => .if_icmp .eq o) := ⟨364, vm_db b_L_law_23 (i := 45) rfl, rfl, by decide⟩
theorem d_L_law_2438 : vm_D q_L_law.2.1 2438 1 2439 (.iconst 0) := vm_dD b_L_law_23 46 rfl rfl
theorem d_L_law_2439 : vm_D q_L_law.2.1 2439 1 2440 (.ireturn) := vm_dD b_L_law_23 47 rfl rfl
theorem d_L_law_2440 : vm_D q_L_law.2.1 2440 1 2441 (.aload_n 1) := vm_dD b_L_law_23 48 rfl rfl
theorem d_L_law_2441 : vm_D q_L_law.2.1 2441 1 2442 (.aload_n 0) := vm_dD b_L_law_23 49 rfl rfl
theorem d_L_law_2442 : vm_D q_L_law.2.1 2442 2 2444 (.iload 4) := vm_dD b_L_law_23 50 rfl rfl
theorem d_L_law_2444 : vm_D q_L_law.2.1 2444 1 2445 (.iconst 1) := vm_dD b_L_law_23 51 rfl rfl
theorem d_L_law_2445 : vm_D q_L_law.2.1 2445 1 2446 (.iadd) := vm_dD b_L_law_23 52 rfl rfl
theorem d_L_law_2446 : vm_D q_L_law.2.1 2446 1 2447 (.iaload) := vm_dD b_L_law_23 53 rfl rfl
theorem d_L_law_2447 : vm_D q_L_law.2.1 2447 1 2448 (.aload_n 3) := vm_dD b_L_law_23 54 rfl rfl
theorem d_L_law_2448 : vm_D q_L_law.2.1 2448 3 2451 (.invokestatic 300) := vm_dD b_L_law_23 55 rfl rfl
theorem d_L_law_2451 : vm_D q_L_law.2.1 2451 2 2453 (.istore 5) := vm_dD b_L_law_23 56 rfl rfl
theorem d_L_law_2453 : vm_D q_L_law.2.1 2453 1 2454 (.aload_n 2) := vm_dD b_L_law_23 57 rfl rfl
theorem d_L_law_2454 : vm_D q_L_law.2.1 2454 1 2455 (.aload_n 0) := vm_dD b_L_law_23 58 rfl rfl
theorem d_L_law_2455 : vm_D q_L_law.2.1 2455 2 2457 (.iload 4) := vm_dD b_L_law_23 59 rfl rfl
theorem d_L_law_2457 : vm_D q_L_law.2.1 2457 1 2458 (.iconst 1) := vm_dD b_L_law_24 0 rfl rfl
theorem d_L_law_2458 : vm_D q_L_law.2.1 2458 1 2459 (.iadd) := vm_dD b_L_law_24 1 rfl rfl
theorem d_L_law_2459 : vm_D q_L_law.2.1 2459 1 2460 (.iaload) := vm_dD b_L_law_24 2 rfl rfl
theorem d_L_law_2460 : vm_D q_L_law.2.1 2460 3 2463 (.invokevirtual 302) := vm_dD b_L_law_24 3 rfl rfl
theorem d_L_law_2463 : vm_D q_L_law.2.1 2463 2 2465 (.istore 6) := vm_dD b_L_law_24 4 rfl rfl
theorem d_L_law_2465 : vm_D q_L_law.2.1 2465 1 2466 (.aload_n 2) := vm_dD b_L_law_24 5 rfl rfl
theorem d_L_law_2466 : vm_D q_L_law.2.1 2466 3 2469 (.invokevirtual 148) := vm_dD b_L_law_24 6 rfl rfl
theorem d_L_law_2469 : vm_D q_L_law.2.1 2469 2 2471 (.iload 5) := vm_dD b_L_law_24 7 rfl rfl
theorem d_L_law_2471 : vm_B q_L_law.2.1 2471 2474 2476 (fun o => .if_icmp .eq o) := ⟨5, vm_db b_L_law_24 (i := 8) rfl, rfl, by decide⟩
theorem d_L_law_2476 : vm_D q_L_law.2.1 2476 2 2478 (.iload 5) := vm_dD b_L_law_24 11 rfl rfl
theorem d_L_law_2478 : vm_B q_L_law.2.1 2478 2481 2493 (fun o => .ifCond .ne o) := ⟨15, vm_db b_L_law_24 (i := 12) rfl, rfl, by decide⟩
theorem d_L_law_2493 : ∃ off : Int, decode q_L_law.2.1 2493 = .ok (.goto off, 3) ∧ ((2493 : Nat) : Int) + off = ((2799 : Nat) : Int) := ⟨306, vm_db b_L_law_24 (i := 22) rfl, by decide⟩
theorem d_L_law_2481 : vm_D q_L_law.2.1 2481 1 2482 (.aload_n 3) := vm_dD b_L_law_24 13 rfl rfl
theorem d_L_law_2482 : vm_D q_L_law.2.1 2482 1 2483 (.iconst 0) := vm_dD b_L_law_24 14 rfl rfl
theorem d_L_law_2483 : vm_D q_L_law.2.1 2483 1 2484 (.laload) := vm_dD b_L_law_24 15 rfl rfl
theorem d_L_law_2484 : vm_D q_L_law.2.1 2484 2 2486 (.iload 6) := vm_dD b_L_law_24 16 rfl rfl
theorem d_L_law_2486 : vm_D q_L_law.2.1 2486 1 2487 (.i2l) := vm_dD b_L_law_24 17 rfl rfl
theorem d_L_law_2487 : vm_D q_L_law.2.1 2487 1 2488 (.lcmp) := vm_dD b_L_law_24 18 rfl rfl
theorem d_L_law_2488 : vm_B q_L_law.2.1 2488 2491 2493 (fun o => .ifCond .eq o) := ⟨5, vm_db b_L_law_24 (i := 19) rfl, rfl, by decide⟩
theorem d_L_law_2491 : vm_D q_L_law.2.1 2491 1 2492 (.iconst 0) := vm_dD b_L_law_24 20 rfl rfl
theorem d_L_law_2492 : vm_D q_L_law.2.1 2492 1 2493 (.ireturn) := vm_dD b_L_law_24 21 rfl rfl
theorem d_L_law_2474 : vm_D q_L_law.2.1 2474 1 2475 (.iconst 0) := vm_dD b_L_law_24 9 rfl rfl
theorem d_L_law_2475 : vm_D q_L_law.2.1 2475 1 2476 (.ireturn) := vm_dD b_L_law_24 10 rfl rfl
theorem d_L_law_2496 : vm_D q_L_law.2.1 2496 1 2497 (.aload_n 1) := vm_dD b_L_law_24 23 rfl rfl
theorem d_L_law_2497 : vm_D q_L_law.2.1 2497 1 2498 (.aload_n 0) := vm_dD b_L_law_24 24 rfl rfl
theorem d_L_law_2498 : vm_D q_L_law.2.1 2498 2 2500 (.iload 4) := vm_dD b_L_law_24 25 rfl rfl
theorem d_L_law_2500 : vm_D q_L_law.2.1 2500 1 2501 (.iconst 1) := vm_dD b_L_law_24 26 rfl rfl
theorem d_L_law_2501 : vm_D q_L_law.2.1 2501 1 2502 (.iadd) := vm_dD b_L_law_24 27 rfl rfl
theorem d_L_law_2502 : vm_D q_L_law.2.1 2502 1 2503 (.iaload) := vm_dD b_L_law_24 28 rfl rfl
theorem d_L_law_2503 : vm_D q_L_law.2.1 2503 1 2504 (.aload_n 0) := vm_dD b_L_law_24 29 rfl rfl
theorem d_L_law_2504 : vm_D q_L_law.2.1 2504 2 2506 (.iload 4) := vm_dD b_L_law_24 30 rfl rfl
theorem d_L_law_2506 : vm_D q_L_law.2.1 2506 1 2507 (.iconst 2) := vm_dD b_L_law_24 31 rfl rfl
theorem d_L_law_2507 : vm_D q_L_law.2.1 2507 1 2508 (.iadd) := vm_dD b_L_law_24 32 rfl rfl
theorem d_L_law_2508 : vm_D q_L_law.2.1 2508 1 2509 (.iaload) := vm_dD b_L_law_24 33 rfl rfl
theorem d_L_law_2509 : vm_D q_L_law.2.1 2509 1 2510 (.aload_n 0) := vm_dD b_L_law_24 34 rfl rfl
theorem d_L_law_2510 : vm_D q_L_law.2.1 2510 2 2512 (.iload 4) := vm_dD b_L_law_24 35 rfl rfl
theorem d_L_law_2512 : vm_D q_L_law.2.1 2512 1 2513 (.iconst 3) := vm_dD b_L_law_24 36 rfl rfl
theorem d_L_law_2513 : vm_D q_L_law.2.1 2513 1 2514 (.iadd) := vm_dD b_L_law_24 37 rfl rfl
theorem d_L_law_2514 : vm_D q_L_law.2.1 2514 1 2515 (.iaload) := vm_dD b_L_law_24 38 rfl rfl
theorem d_L_law_2515 : vm_D q_L_law.2.1 2515 1 2516 (.aload_n 3) := vm_dD b_L_law_24 39 rfl rfl
theorem d_L_law_2516 : vm_D q_L_law.2.1 2516 3 2519 (.invokestatic 303) := vm_dD b_L_law_24 40 rfl rfl
theorem d_L_law_2519 : vm_D q_L_law.2.1 2519 2 2521 (.istore 5) := vm_dD b_L_law_24 41 rfl rfl
theorem d_L_law_2521 : vm_D q_L_law.2.1 2521 1 2522 (.aload_n 2) := vm_dD b_L_law_24 42 rfl rfl
theorem d_L_law_2522 : vm_D q_L_law.2.1 2522 1 2523 (.aload_n 0) := vm_dD b_L_law_24 43 rfl rfl
theorem d_L_law_2523 : vm_D q_L_law.2.1 2523 2 2525 (.iload 4) := vm_dD b_L_law_24 44 rfl rfl
theorem d_L_law_2525 : vm_D q_L_law.2.1 2525 1 2526 (.iconst 1) := vm_dD b_L_law_24 45 rfl rfl
theorem d_L_law_2526 : vm_D q_L_law.2.1 2526 1 2527 (.iadd) := vm_dD b_L_law_24 46 rfl rfl
theorem d_L_law_2527 : vm_D q_L_law.2.1 2527 1 2528 (.iaload) := vm_dD b_L_law_24 47 rfl rfl
theorem d_L_law_2528 : vm_D q_L_law.2.1 2528 1 2529 (.aload_n 0) := vm_dD b_L_law_24 48 rfl rfl
theorem d_L_law_2529 : vm_D q_L_law.2.1 2529 2 2531 (.iload 4) := vm_dD b_L_law_24 49 rfl rfl
theorem d_L_law_2531 : vm_D q_L_law.2.1 2531 1 2532 (.iconst 2) := vm_dD b_L_law_24 50 rfl rfl
theorem d_L_law_2532 : vm_D q_L_law.2.1 2532 1 2533 (.iadd) := vm_dD b_L_law_24 51 rfl rfl
theorem d_L_law_2533 : vm_D q_L_law.2.1 2533 1 2534 (.iaload) := vm_dD b_L_law_24 52 rfl rfl
theorem d_L_law_2534 : vm_D q_L_law.2.1 2534 1 2535 (.aload_n 0) := vm_dD b_L_law_24 53 rfl rfl
theorem d_L_law_2535 : vm_D q_L_law.2.1 2535 2 2537 (.iload 4) := vm_dD b_L_law_24 54 rfl rfl
theorem d_L_law_2537 : vm_D q_L_law.2.1 2537 1 2538 (.iconst 3) := vm_dD b_L_law_24 55 rfl rfl
theorem d_L_law_2538 : vm_D q_L_law.2.1 2538 1 2539 (.iadd) := vm_dD b_L_law_24 56 rfl rfl
theorem d_L_law_2539 : vm_D q_L_law.2.1 2539 1 2540 (.iaload) := vm_dD b_L_law_24 57 rfl rfl
theorem d_L_law_2540 : vm_D q_L_law.2.1 2540 3 2543 (.invokevirtual 305) := vm_dD b_L_law_24 58 rfl rfl
theorem d_L_law_2543 : vm_D q_L_law.2.1 2543 2 2545 (.istore 6) := vm_dD b_L_law_24 59 rfl rfl
theorem d_L_law_2545 : vm_D q_L_law.2.1 2545 1 2546 (.aload_n 2) := vm_dD b_L_law_25 0 rfl rfl
theorem d_L_law_2546 : vm_D q_L_law.2.1 2546 3 2549 (.invokevirtual 148) := vm_dD b_L_law_25 1 rfl rfl
theorem d_L_law_2549 : vm_D q_L_law.2.1 2549 2 2551 (.iload 5) := vm_dD b_L_law_25 2 rfl rfl
theorem d_L_law_2551 : vm_B q_L_law.2.1 2551 2554 2556 (fun o => .if_icmp .eq o) := ⟨5, vm_db b_L_law_25 (i := 3) rfl, rfl, by decide⟩
theorem d_L_law_2556 : vm_D q_L_law.2.1 2556 2 2558 (.iload 5) := vm_dD b_L_law_25 6 rfl rfl
theorem d_L_law_2558 : vm_B q_L_law.2.1 2558 2561 2573 (fun o => .ifCond .ne o) := ⟨15, vm_db b_L_law_25 (i := 7) rfl, rfl, by decide⟩
theorem d_L_law_2573 : ∃ off : Int, decode q_L_law.2.1 2573 = .ok (.goto off, 3) ∧ ((2573 : Nat) : Int) + off = ((2799 : Nat) : Int) := ⟨226, vm_db b_L_law_25 (i := 17) rfl, by decide⟩
theorem d_L_law_2561 : vm_D q_L_law.2.1 2561 1 2562 (.aload_n 3) := vm_dD b_L_law_25 8 rfl rfl
theorem d_L_law_2562 : vm_D q_L_law.2.1 2562 1 2563 (.iconst 0) := vm_dD b_L_law_25 9 rfl rfl
theorem d_L_law_2563 : vm_D q_L_law.2.1 2563 1 2564 (.laload) := vm_dD b_L_law_25 10 rfl rfl
theorem d_L_law_2564 : vm_D q_L_law.2.1 2564 2 2566 (.iload 6) := vm_dD b_L_law_25 11 rfl rfl
theorem d_L_law_2566 : vm_D q_L_law.2.1 2566 1 2567 (.i2l) := vm_dD b_L_law_25 12 rfl rfl
theorem d_L_law_2567 : vm_D q_L_law.2.1 2567 1 2568 (.lcmp) := vm_dD b_L_law_25 13 rfl rfl
theorem d_L_law_2568 : vm_B q_L_law.2.1 2568 2571 2573 (fun o => .ifCond .eq o) := ⟨5, vm_db b_L_law_25 (i := 14) rfl, rfl, by decide⟩
theorem d_L_law_2571 : vm_D q_L_law.2.1 2571 1 2572 (.iconst 0) := vm_dD b_L_law_25 15 rfl rfl
theorem d_L_law_2572 : vm_D q_L_law.2.1 2572 1 2573 (.ireturn) := vm_dD b_L_law_25 16 rfl rfl
theorem d_L_law_2554 : vm_D q_L_law.2.1 2554 1 2555 (.iconst 0) := vm_dD b_L_law_25 4 rfl rfl
theorem d_L_law_2555 : vm_D q_L_law.2.1 2555 1 2556 (.ireturn) := vm_dD b_L_law_25 5 rfl rfl
theorem d_L_law_2576 : vm_D q_L_law.2.1 2576 1 2577 (.aload_n 1) := vm_dD b_L_law_25 18 rfl rfl
theorem d_L_law_2577 : vm_D q_L_law.2.1 2577 1 2578 (.aload_n 0) := vm_dD b_L_law_25 19 rfl rfl
theorem d_L_law_2578 : vm_D q_L_law.2.1 2578 2 2580 (.iload 4) := vm_dD b_L_law_25 20 rfl rfl
theorem d_L_law_2580 : vm_D q_L_law.2.1 2580 1 2581 (.iconst 1) := vm_dD b_L_law_25 21 rfl rfl
theorem d_L_law_2581 : vm_D q_L_law.2.1 2581 1 2582 (.iadd) := vm_dD b_L_law_25 22 rfl rfl
theorem d_L_law_2582 : vm_D q_L_law.2.1 2582 1 2583 (.iaload) := vm_dD b_L_law_25 23 rfl rfl
theorem d_L_law_2583 : vm_D q_L_law.2.1 2583 1 2584 (.aload_n 3) := vm_dD b_L_law_25 24 rfl rfl
theorem d_L_law_2584 : vm_D q_L_law.2.1 2584 3 2587 (.invokestatic 306) := vm_dD b_L_law_25 25 rfl rfl
theorem d_L_law_2587 : vm_D q_L_law.2.1 2587 2 2589 (.istore 5) := vm_dD b_L_law_25 26 rfl rfl
theorem d_L_law_2589 : vm_D q_L_law.2.1 2589 1 2590 (.aload_n 2) := vm_dD b_L_law_25 27 rfl rfl
theorem d_L_law_2590 : vm_D q_L_law.2.1 2590 1 2591 (.aload_n 0) := vm_dD b_L_law_25 28 rfl rfl
theorem d_L_law_2591 : vm_D q_L_law.2.1 2591 2 2593 (.iload 4) := vm_dD b_L_law_25 29 rfl rfl
theorem d_L_law_2593 : vm_D q_L_law.2.1 2593 1 2594 (.iconst 1) := vm_dD b_L_law_25 30 rfl rfl
theorem d_L_law_2594 : vm_D q_L_law.2.1 2594 1 2595 (.iadd) := vm_dD b_L_law_25 31 rfl rfl
theorem d_L_law_2595 : vm_D q_L_law.2.1 2595 1 2596 (.iaload) := vm_dD b_L_law_25 32 rfl rfl
theorem d_L_law_2596 : vm_D q_L_law.2.1 2596 3 2599 (.invokevirtual 308) := vm_dD b_L_law_25 33 rfl rfl
theorem d_L_law_2599 : vm_D q_L_law.2.1 2599 2 2601 (.lstore 6) := vm_dD b_L_law_25 34 rfl rfl
theorem d_L_law_2601 : vm_D q_L_law.2.1 2601 1 2602 (.aload_n 2) := vm_dD b_L_law_25 35 rfl rfl
theorem d_L_law_2602 : vm_D q_L_law.2.1 2602 3 2605 (.invokevirtual 148) := vm_dD b_L_law_25 36 rfl rfl
theorem d_L_law_2605 : vm_D q_L_law.2.1 2605 2 2607 (.iload 5) := vm_dD b_L_law_25 37 rfl rfl
theorem d_L_law_2607 : vm_B q_L_law.2.1 2607 2610 2612 (fun o => .if_icmp .eq o) := ⟨5, vm_db b_L_law_25 (i := 38) rfl, rfl, by decide⟩
theorem d_L_law_2612 : vm_D q_L_law.2.1 2612 2 2614 (.iload 5) := vm_dD b_L_law_25 41 rfl rfl
theorem d_L_law_2614 : vm_B q_L_law.2.1 2614 2617 2628 (fun o => .ifCond .ne o) := ⟨14, vm_db b_L_law_25 (i := 42) rfl, rfl, by decide⟩
theorem d_L_law_2628 : ∃ off : Int, decode q_L_law.2.1 2628 = .ok (.goto off, 3) ∧ ((2628 : Nat) : Int) + off = ((2799 : Nat) : Int) := ⟨171, vm_db b_L_law_25 (i := 51) rfl, by decide⟩
theorem d_L_law_2617 : vm_D q_L_law.2.1 2617 1 2618 (.aload_n 3) := vm_dD b_L_law_25 43 rfl rfl
theorem d_L_law_2618 : vm_D q_L_law.2.1 2618 1 2619 (.iconst 0) := vm_dD b_L_law_25 44 rfl rfl
theorem d_L_law_2619 : vm_D q_L_law.2.1 2619 1 2620 (.laload) := vm_dD b_L_law_25 45 rfl rfl
theorem d_L_law_2620 : vm_D q_L_law.2.1 2620 2 2622 (.lload 6) := vm_dD b_L_law_25 46 rfl rfl
theorem d_L_law_2622 : vm_D q_L_law.2.1 2622 1 2623 (.lcmp) := vm_dD b_L_law_25 47 rfl rfl
theorem d_L_law_2623 : vm_B q_L_law.2.1 2623 2626 2628 (fun o => .ifCond .eq o) := ⟨5, vm_db b_L_law_25 (i := 48) rfl, rfl, by decide⟩
theorem d_L_law_2626 : vm_D q_L_law.2.1 2626 1 2627 (.iconst 0) := vm_dD b_L_law_25 49 rfl rfl
theorem d_L_law_2627 : vm_D q_L_law.2.1 2627 1 2628 (.ireturn) := vm_dD b_L_law_25 50 rfl rfl
theorem d_L_law_2610 : vm_D q_L_law.2.1 2610 1 2611 (.iconst 0) := vm_dD b_L_law_25 39 rfl rfl
theorem d_L_law_2611 : vm_D q_L_law.2.1 2611 1 2612 (.ireturn) := vm_dD b_L_law_25 40 rfl rfl
theorem d_L_law_2631 : vm_D q_L_law.2.1 2631 1 2632 (.aload_n 1) := vm_dD b_L_law_25 52 rfl rfl
theorem d_L_law_2632 : vm_D q_L_law.2.1 2632 1 2633 (.aload_n 0) := vm_dD b_L_law_25 53 rfl rfl
theorem d_L_law_2633 : vm_D q_L_law.2.1 2633 2 2635 (.iload 4) := vm_dD b_L_law_25 54 rfl rfl
theorem d_L_law_2635 : vm_D q_L_law.2.1 2635 1 2636 (.iconst 1) := vm_dD b_L_law_25 55 rfl rfl
theorem d_L_law_2636 : vm_D q_L_law.2.1 2636 1 2637 (.iadd) := vm_dD b_L_law_25 56 rfl rfl
theorem d_L_law_2637 : vm_D q_L_law.2.1 2637 1 2638 (.iaload) := vm_dD b_L_law_25 57 rfl rfl
theorem d_L_law_2638 : vm_D q_L_law.2.1 2638 1 2639 (.aload_n 3) := vm_dD b_L_law_25 58 rfl rfl
theorem d_L_law_2639 : vm_D q_L_law.2.1 2639 3 2642 (.invokestatic 309) := vm_dD b_L_law_25 59 rfl rfl
theorem d_L_law_2642 : vm_D q_L_law.2.1 2642 2 2644 (.istore 5) := vm_dD b_L_law_26 0 rfl rfl
theorem d_L_law_2644 : vm_D q_L_law.2.1 2644 1 2645 (.aload_n 2) := vm_dD b_L_law_26 1 rfl rfl
theorem d_L_law_2645 : vm_D q_L_law.2.1 2645 1 2646 (.aload_n 0) := vm_dD b_L_law_26 2 rfl rfl
theorem d_L_law_2646 : vm_D q_L_law.2.1 2646 2 2648 (.iload 4) := vm_dD b_L_law_26 3 rfl rfl
theorem d_L_law_2648 : vm_D q_L_law.2.1 2648 1 2649 (.iconst 1) := vm_dD b_L_law_26 4 rfl rfl
theorem d_L_law_2649 : vm_D q_L_law.2.1 2649 1 2650 (.iadd) := vm_dD b_L_law_26 5 rfl rfl
theorem d_L_law_2650 : vm_D q_L_law.2.1 2650 1 2651 (.iaload) := vm_dD b_L_law_26 6 rfl rfl
theorem d_L_law_2651 : vm_D q_L_law.2.1 2651 3 2654 (.invokevirtual 311) := vm_dD b_L_law_26 7 rfl rfl
theorem d_L_law_2654 : vm_D q_L_law.2.1 2654 2 2656 (.istore 6) := vm_dD b_L_law_26 8 rfl rfl
theorem d_L_law_2656 : vm_D q_L_law.2.1 2656 1 2657 (.aload_n 2) := vm_dD b_L_law_26 9 rfl rfl
theorem d_L_law_2657 : vm_D q_L_law.2.1 2657 3 2660 (.invokevirtual 148) := vm_dD b_L_law_26 10 rfl rfl
theorem d_L_law_2660 : vm_D q_L_law.2.1 2660 2 2662 (.iload 5) := vm_dD b_L_law_26 11 rfl rfl
theorem d_L_law_2662 : vm_B q_L_law.2.1 2662 2665 2667 (fun o => .if_icmp .eq o) := ⟨5, vm_db b_L_law_26 (i := 12) rfl, rfl, by decide⟩
theorem d_L_law_2667 : vm_D q_L_law.2.1 2667 2 2669 (.iload 5) := vm_dD b_L_law_26 15 rfl rfl
theorem d_L_law_2669 : vm_B q_L_law.2.1 2669 2672 2691 (fun o => .ifCond .ne o) := ⟨22, vm_db b_L_law_26 (i := 16) rfl, rfl, by decide⟩
theorem d_L_law_2691 : ∃ off : Int, decode q_L_law.2.1 2691 = .ok (.goto off, 3) ∧ ((2691 : Nat) : Int) + off = ((2799 : Nat) : Int) := ⟨108, vm_db b_L_law_26 (i := 29) rfl, by decide⟩
theorem d_L_law_2672 : vm_D q_L_law.2.1 2672 1 2673 (.aload_n 3) := vm_dD b_L_law_26 17 rfl rfl
theorem d_L_law_2673 : vm_D q_L_law.2.1 2673 1 2674 (.iconst 0) := vm_dD b_L_law_26 18 rfl rfl
theorem d_L_law_2674 : vm_D q_L_law.2.1 2674 1 2675 (.laload) := vm_dD b_L_law_26 19 rfl rfl
theorem d_L_law_2675 : vm_D q_L_law.2.1 2675 2 2677 (.iload 6) := vm_dD b_L_law_26 20 rfl rfl
theorem d_L_law_2677 : vm_B q_L_law.2.1 2677 2680 2684 (fun o => .ifCond .eq o) := ⟨7, vm_db b_L_law_26 (i := 21) rfl, rfl, by decide⟩
theorem d_L_law_2685 : vm_D q_L_law.2.1 2685 1 2686 (.lcmp) := vm_dD b_L_law_26 25 rfl rfl
theorem d_L_law_2686 : vm_B q_L_law.2.1 2686 2689 2691 (fun o => .ifCond .eq o) := ⟨5, vm_db b_L_law_26 (i := 26) rfl, rfl, by decide⟩
theorem d_L_law_2689 : vm_D q_L_law.2.1 2689 1 2690 (.iconst 0) := vm_dD b_L_law_26 27 rfl rfl
theorem d_L_law_2690 : vm_D q_L_law.2.1 2690 1 2691 (.ireturn) := vm_dD b_L_law_26 28 rfl rfl
theorem d_L_law_2684 : vm_D q_L_law.2.1 2684 1 2685 (.lconst 0) := vm_dD b_L_law_26 24 rfl rfl
theorem d_L_law_2680 : vm_D q_L_law.2.1 2680 1 2681 (.lconst 1) := vm_dD b_L_law_26 22 rfl rfl
theorem d_L_law_2681 : ∃ off : Int, decode q_L_law.2.1 2681 = .ok (.goto off, 3) ∧ ((2681 : Nat) : Int) + off = ((2685 : Nat) : Int) := ⟨4, vm_db b_L_law_26 (i := 23) rfl, by decide⟩
theorem d_L_law_2665 : vm_D q_L_law.2.1 2665 1 2666 (.iconst 0) := vm_dD b_L_law_26 13 rfl rfl
theorem d_L_law_2666 : vm_D q_L_law.2.1 2666 1 2667 (.ireturn) := vm_dD b_L_law_26 14 rfl rfl
theorem d_L_law_2694 : vm_D q_L_law.2.1 2694 1 2695 (.aload_n 1) := vm_dD b_L_law_26 30 rfl rfl
theorem d_L_law_2695 : vm_D q_L_law.2.1 2695 1 2696 (.aload_n 0) := vm_dD b_L_law_26 31 rfl rfl
theorem d_L_law_2696 : vm_D q_L_law.2.1 2696 2 2698 (.iload 4) := vm_dD b_L_law_26 32 rfl rfl
theorem d_L_law_2698 : vm_D q_L_law.2.1 2698 1 2699 (.iconst 1) := vm_dD b_L_law_26 33 rfl rfl
theorem d_L_law_2699 : vm_D q_L_law.2.1 2699 1 2700 (.iadd) := vm_dD b_L_law_26 34 rfl rfl
theorem d_L_law_2700 : vm_D q_L_law.2.1 2700 1 2701 (.iaload) := vm_dD b_L_law_26 35 rfl rfl
theorem d_L_law_2701 : vm_D q_L_law.2.1 2701 1 2702 (.aload_n 0) := vm_dD b_L_law_26 36 rfl rfl
theorem d_L_law_2702 : vm_D q_L_law.2.1 2702 2 2704 (.iload 4) := vm_dD b_L_law_26 37 rfl rfl
theorem d_L_law_2704 : vm_D q_L_law.2.1 2704 1 2705 (.iconst 2) := vm_dD b_L_law_26 38 rfl rfl
theorem d_L_law_2705 : vm_D q_L_law.2.1 2705 1 2706 (.iadd) := vm_dD b_L_law_26 39 rfl rfl
theorem d_L_law_2706 : vm_D q_L_law.2.1 2706 1 2707 (.iaload) := vm_dD b_L_law_26 40 rfl rfl
theorem d_L_law_2707 : vm_D q_L_law.2.1 2707 1 2708 (.aload_n 0) := vm_dD b_L_law_26 41 rfl rfl
theorem d_L_law_2708 : vm_D q_L_law.2.1 2708 2 2710 (.iload 4) := vm_dD b_L_law_26 42 rfl rfl
theorem d_L_law_2710 : vm_D q_L_law.2.1 2710 1 2711 (.iconst 3) := vm_dD b_L_law_26 43 rfl rfl
theorem d_L_law_2711 : vm_D q_L_law.2.1 2711 1 2712 (.iadd) := vm_dD b_L_law_26 44 rfl rfl
theorem d_L_law_2712 : vm_D q_L_law.2.1 2712 1 2713 (.iaload) := vm_dD b_L_law_26 45 rfl rfl
theorem d_L_law_2713 : vm_D q_L_law.2.1 2713 1 2714 (.aload_n 3) := vm_dD b_L_law_26 46 rfl rfl
theorem d_L_law_2714 : vm_D q_L_law.2.1 2714 3 2717 (.invokestatic 312) := vm_dD b_L_law_26 47 rfl rfl
theorem d_L_law_2717 : vm_D q_L_law.2.1 2717 2 2719 (.istore 5) := vm_dD b_L_law_26 48 rfl rfl
theorem d_L_law_2719 : vm_D q_L_law.2.1 2719 1 2720 (.aload_n 2) := vm_dD b_L_law_26 49 rfl rfl
theorem d_L_law_2720 : vm_D q_L_law.2.1 2720 1 2721 (.aload_n 0) := vm_dD b_L_law_26 50 rfl rfl
theorem d_L_law_2721 : vm_D q_L_law.2.1 2721 2 2723 (.iload 4) := vm_dD b_L_law_26 51 rfl rfl
theorem d_L_law_2723 : vm_D q_L_law.2.1 2723 1 2724 (.iconst 1) := vm_dD b_L_law_26 52 rfl rfl
theorem d_L_law_2724 : vm_D q_L_law.2.1 2724 1 2725 (.iadd) := vm_dD b_L_law_26 53 rfl rfl
theorem d_L_law_2725 : vm_D q_L_law.2.1 2725 1 2726 (.iaload) := vm_dD b_L_law_26 54 rfl rfl
theorem d_L_law_2726 : vm_D q_L_law.2.1 2726 1 2727 (.aload_n 0) := vm_dD b_L_law_26 55 rfl rfl
theorem d_L_law_2727 : vm_D q_L_law.2.1 2727 2 2729 (.iload 4) := vm_dD b_L_law_26 56 rfl rfl
theorem d_L_law_2729 : vm_D q_L_law.2.1 2729 1 2730 (.iconst 2) := vm_dD b_L_law_26 57 rfl rfl
theorem d_L_law_2730 : vm_D q_L_law.2.1 2730 1 2731 (.iadd) := vm_dD b_L_law_26 58 rfl rfl
theorem d_L_law_2731 : vm_D q_L_law.2.1 2731 1 2732 (.iaload) := vm_dD b_L_law_26 59 rfl rfl
theorem d_L_law_2732 : vm_D q_L_law.2.1 2732 1 2733 (.aload_n 0) := vm_dD b_L_law_27 0 rfl rfl
theorem d_L_law_2733 : vm_D q_L_law.2.1 2733 2 2735 (.iload 4) := vm_dD b_L_law_27 1 rfl rfl
theorem d_L_law_2735 : vm_D q_L_law.2.1 2735 1 2736 (.iconst 3) := vm_dD b_L_law_27 2 rfl rfl
theorem d_L_law_2736 : vm_D q_L_law.2.1 2736 1 2737 (.iadd) := vm_dD b_L_law_27 3 rfl rfl
theorem d_L_law_2737 : vm_D q_L_law.2.1 2737 1 2738 (.iaload) := vm_dD b_L_law_27 4 rfl rfl
theorem d_L_law_2738 : vm_D q_L_law.2.1 2738 3 2741 (.invokevirtual 314) := vm_dD b_L_law_27 5 rfl rfl
theorem d_L_law_2741 : vm_D q_L_law.2.1 2741 2 2743 (.istore 6) := vm_dD b_L_law_27 6 rfl rfl
theorem d_L_law_2743 : vm_D q_L_law.2.1 2743 1 2744 (.aload_n 2) := vm_dD b_L_law_27 7 rfl rfl
theorem d_L_law_2744 : vm_D q_L_law.2.1 2744 3 2747 (.invokevirtual 148) := vm_dD b_L_law_27 8 rfl rfl
theorem d_L_law_2747 : vm_D q_L_law.2.1 2747 2 2749 (.iload 5) := vm_dD b_L_law_27 9 rfl rfl
theorem d_L_law_2749 : vm_B q_L_law.2.1 2749 2752 2754 (fun o => .if_icmp .eq o) := ⟨5, vm_db b_L_law_27 (i := 10) rfl, rfl, by decide⟩
theorem d_L_law_2754 : vm_D q_L_law.2.1 2754 2 2756 (.iload 5) := vm_dD b_L_law_27 13 rfl rfl
theorem d_L_law_2756 : vm_B q_L_law.2.1 2756 2759 2771 (fun o => .ifCond .ne o) := ⟨15, vm_db b_L_law_27 (i := 14) rfl, rfl, by decide⟩
theorem d_L_law_2771 : ∃ off : Int, decode q_L_law.2.1 2771 = .ok (.goto off, 3) ∧ ((2771 : Nat) : Int) + off = ((2799 : Nat) : Int) := ⟨28, vm_db b_L_law_27 (i := 24) rfl, by decide⟩
theorem d_L_law_2759 : vm_D q_L_law.2.1 2759 1 2760 (.aload_n 3) := vm_dD b_L_law_27 15 rfl rfl
theorem d_L_law_2760 : vm_D q_L_law.2.1 2760 1 2761 (.iconst 0) := vm_dD b_L_law_27 16 rfl rfl
theorem d_L_law_2761 : vm_D q_L_law.2.1 2761 1 2762 (.laload) := vm_dD b_L_law_27 17 rfl rfl
theorem d_L_law_2762 : vm_D q_L_law.2.1 2762 2 2764 (.iload 6) := vm_dD b_L_law_27 18 rfl rfl
theorem d_L_law_2764 : vm_D q_L_law.2.1 2764 1 2765 (.i2l) := vm_dD b_L_law_27 19 rfl rfl
theorem d_L_law_2765 : vm_D q_L_law.2.1 2765 1 2766 (.lcmp) := vm_dD b_L_law_27 20 rfl rfl
theorem d_L_law_2766 : vm_B q_L_law.2.1 2766 2769 2771 (fun o => .ifCond .eq o) := ⟨5, vm_db b_L_law_27 (i := 21) rfl, rfl, by decide⟩
theorem d_L_law_2769 : vm_D q_L_law.2.1 2769 1 2770 (.iconst 0) := vm_dD b_L_law_27 22 rfl rfl
theorem d_L_law_2770 : vm_D q_L_law.2.1 2770 1 2771 (.ireturn) := vm_dD b_L_law_27 23 rfl rfl
theorem d_L_law_2752 : vm_D q_L_law.2.1 2752 1 2753 (.iconst 0) := vm_dD b_L_law_27 11 rfl rfl
theorem d_L_law_2753 : vm_D q_L_law.2.1 2753 1 2754 (.ireturn) := vm_dD b_L_law_27 12 rfl rfl
theorem d_L_law_2774 : vm_D q_L_law.2.1 2774 1 2775 (.aload_n 1) := vm_dD b_L_law_27 25 rfl rfl
theorem d_L_law_2775 : vm_D q_L_law.2.1 2775 1 2776 (.aload_n 0) := vm_dD b_L_law_27 26 rfl rfl
theorem d_L_law_2776 : vm_D q_L_law.2.1 2776 2 2778 (.iload 4) := vm_dD b_L_law_27 27 rfl rfl
theorem d_L_law_2778 : vm_D q_L_law.2.1 2778 1 2779 (.iconst 1) := vm_dD b_L_law_27 28 rfl rfl
theorem d_L_law_2779 : vm_D q_L_law.2.1 2779 1 2780 (.iadd) := vm_dD b_L_law_27 29 rfl rfl
theorem d_L_law_2780 : vm_D q_L_law.2.1 2780 1 2781 (.iaload) := vm_dD b_L_law_27 30 rfl rfl
theorem d_L_law_2781 : vm_D q_L_law.2.1 2781 3 2784 (.invokevirtual 315) := vm_dD b_L_law_27 31 rfl rfl
theorem d_L_law_2784 : vm_D q_L_law.2.1 2784 1 2785 (.aload_n 2) := vm_dD b_L_law_27 32 rfl rfl
theorem d_L_law_2785 : vm_D q_L_law.2.1 2785 1 2786 (.aload_n 0) := vm_dD b_L_law_27 33 rfl rfl
theorem d_L_law_2786 : vm_D q_L_law.2.1 2786 2 2788 (.iload 4) := vm_dD b_L_law_27 34 rfl rfl
theorem d_L_law_2788 : vm_D q_L_law.2.1 2788 1 2789 (.iconst 1) := vm_dD b_L_law_27 35 rfl rfl
theorem d_L_law_2789 : vm_D q_L_law.2.1 2789 1 2790 (.iadd) := vm_dD b_L_law_27 36 rfl rfl
theorem d_L_law_2790 : vm_D q_L_law.2.1 2790 1 2791 (.iaload) := vm_dD b_L_law_27 37 rfl rfl
theorem d_L_law_2791 : vm_D q_L_law.2.1 2791 3 2794 (.invokevirtual 318) := vm_dD b_L_law_27 38 rfl rfl
theorem d_L_law_2794 : vm_B q_L_law.2.1 2794 2797 2799 (fun o => .if_icmp .eq o) := ⟨5, vm_db b_L_law_27 (i := 39) rfl, rfl, by decide⟩
theorem d_L_law_2797 : vm_D q_L_law.2.1 2797 1 2798 (.iconst 0) := vm_dD b_L_law_27 40 rfl rfl
theorem d_L_law_2798 : vm_D q_L_law.2.1 2798 1 2799 (.ireturn) := vm_dD b_L_law_27 41 rfl rfl
theorem d_L_law_2805 : vm_D q_L_law.2.1 2805 1 2806 (.iconst 1) := vm_dD b_L_law_27 44 rfl rfl
theorem d_L_law_2806 : vm_D q_L_law.2.1 2806 1 2807 (.ireturn) := vm_dD b_L_law_27 45 rfl rfl
