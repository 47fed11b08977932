/-! ===== THE LAW, FROM WHERE ITS OBJECTS STAND ===== -/
-- GlassHillLaw.law
def il332_0 : List (Nat × Instr × Nat) := [(0, .new 8, 3), (3, .dup, 1), (4, .invokespecial 114, 3), (7, .astore_n 1, 1), (8, .new 115, 3), (11, .dup, 1), (12, .invokespecial 117, 3), (15, .astore_n 2, 1), (16, .iconst 1, 1), (17, .newarray .long, 2), (19, .astore_n 3, 1), (20, .iconst 0, 1), (21, .istore 4, 2), (23, .iload 4, 2), (25, .aload_n 0, 1), (26, .arraylength, 1), (27, .bipush 6, 2), (29, .isub, 1), (30, .if_icmp .gt 2294, 3), (33, .aload_n 0, 1), (34, .iload 4, 2), (36, .iaload, 1), (37, .bipush 63, 2), (39, .iand, 1), (40, .tableswitch 2278 0 37 #[168, 241, 266, 310, 354, 367, 435, 503, 571, 639, 695, 763, 838, 894, 950, 1006, 1062, 1118, 1174, 1230, 1286, 1342, 1414, 1498, 1511, 1579, 1635, 1731, 1799, 1824, 1880, 1952, 2092, 2148, 2216, 2229, 2240, 2253], 168), (208, .aload_n 1, 1), (209, .aload_n 0, 1), (210, .iload 4, 2), (212, .iconst 1, 1), (213, .iadd, 1), (214, .iaload, 1), (215, .aload_n 0, 1), (216, .iload 4, 2), (218, .iconst 2, 1), (219, .iadd, 1), (220, .iaload, 1), (221, .aload_n 0, 1), (222, .iload 4, 2), (224, .iconst 3, 1), (225, .iadd, 1)]
theorem dc332_0 : dcs (mC 332) il332_0 := dc_of (by decide +kernel)
def il332_1 : List (Nat × Instr × Nat) := [(226, .iaload, 1), (227, .aload_n 0, 1), (228, .iload 4, 2), (230, .iconst 4, 1), (231, .iadd, 1), (232, .iaload, 1), (233, .aload_n 0, 1), (234, .iload 4, 2), (236, .iconst 5, 1), (237, .iadd, 1), (238, .iaload, 1), (239, .invokevirtual 118, 3), (242, .aload_n 2, 1), (243, .aload_n 0, 1), (244, .iload 4, 2), (246, .iconst 1, 1), (247, .iadd, 1), (248, .iaload, 1), (249, .aload_n 0, 1), (250, .iload 4, 2), (252, .iconst 2, 1), (253, .iadd, 1), (254, .iaload, 1), (255, .aload_n 0, 1), (256, .iload 4, 2), (258, .iconst 3, 1), (259, .iadd, 1), (260, .iaload, 1), (261, .aload_n 0, 1), (262, .iload 4, 2), (264, .iconst 4, 1), (265, .iadd, 1), (266, .iaload, 1), (267, .aload_n 0, 1), (268, .iload 4, 2), (270, .iconst 5, 1), (271, .iadd, 1), (272, .iaload, 1), (273, .invokevirtual 122, 3), (276, .if_icmp .eq 2042, 3)]
theorem dc332_1 : dcs (mC 332) il332_1 := dc_of (by decide +kernel)
def il332_2 : List (Nat × Instr × Nat) := [(279, .iconst 0, 1), (280, .ireturn, 1), (281, .aload_n 1, 1), (282, .aload_n 0, 1), (283, .iload 4, 2), (285, .iconst 1, 1), (286, .iadd, 1), (287, .iaload, 1), (288, .invokevirtual 123, 3), (291, .aload_n 2, 1), (292, .aload_n 0, 1), (293, .iload 4, 2), (295, .iconst 1, 1), (296, .iadd, 1), (297, .iaload, 1), (298, .invokevirtual 127, 3), (301, .if_icmp .eq 2017, 3), (304, .iconst 0, 1), (305, .ireturn, 1), (306, .aload_n 1, 1), (307, .aload_n 3, 1), (308, .invokestatic 128, 3), (311, .istore 5, 2), (313, .aload_n 2, 1), (314, .invokevirtual 133, 3), (317, .istore 6, 2), (319, .aload_n 2, 1), (320, .invokevirtual 134, 3), (323, .iload 5, 2), (325, .if_icmp .eq 5, 3), (328, .iconst 0, 1), (329, .ireturn, 1), (330, .iload 5, 2), (332, .ifCond .ne 15, 3), (335, .aload_n 3, 1), (336, .iconst 0, 1), (337, .laload, 1), (338, .iload 6, 2), (340, .i2l, 1), (341, .lcmp, 1)]
theorem dc332_2 : dcs (mC 332) il332_2 := dc_of (by decide +kernel)
def il332_3 : List (Nat × Instr × Nat) := [(342, .ifCond .eq 5, 3), (345, .iconst 0, 1), (346, .ireturn, 1), (347, .goto 1971, 3), (350, .aload_n 1, 1), (351, .aload_n 3, 1), (352, .invokestatic 137, 3), (355, .istore 5, 2), (357, .aload_n 2, 1), (358, .invokevirtual 139, 3), (361, .istore 6, 2), (363, .aload_n 2, 1), (364, .invokevirtual 134, 3), (367, .iload 5, 2), (369, .if_icmp .eq 5, 3), (372, .iconst 0, 1), (373, .ireturn, 1), (374, .iload 5, 2), (376, .ifCond .ne 15, 3), (379, .aload_n 3, 1), (380, .iconst 0, 1), (381, .laload, 1), (382, .iload 6, 2), (384, .i2l, 1), (385, .lcmp, 1), (386, .ifCond .eq 5, 3), (389, .iconst 0, 1), (390, .ireturn, 1), (391, .goto 1927, 3), (394, .aload_n 1, 1), (395, .invokevirtual 140, 3), (398, .aload_n 2, 1), (399, .invokevirtual 143, 3), (402, .if_icmp .eq 1916, 3), (405, .iconst 0, 1), (406, .ireturn, 1), (407, .aload_n 1, 1), (408, .aload_n 0, 1), (409, .iload 4, 2), (411, .iconst 1, 1)]
theorem dc332_3 : dcs (mC 332) il332_3 := dc_of (by decide +kernel)
def il332_4 : List (Nat × Instr × Nat) := [(412, .iadd, 1), (413, .iaload, 1), (414, .aload_n 0, 1), (415, .iload 4, 2), (417, .iconst 2, 1), (418, .iadd, 1), (419, .iaload, 1), (420, .aload_n 3, 1), (421, .invokestatic 144, 3), (424, .istore 5, 2), (426, .aload_n 2, 1), (427, .aload_n 0, 1), (428, .iload 4, 2), (430, .iconst 1, 1), (431, .iadd, 1), (432, .iaload, 1), (433, .aload_n 0, 1), (434, .iload 4, 2), (436, .iconst 2, 1), (437, .iadd, 1), (438, .iaload, 1), (439, .invokevirtual 147, 3), (442, .istore 6, 2), (444, .aload_n 2, 1), (445, .invokevirtual 134, 3), (448, .iload 5, 2), (450, .if_icmp .eq 5, 3), (453, .iconst 0, 1), (454, .ireturn, 1), (455, .iload 5, 2), (457, .ifCond .ne 15, 3), (460, .aload_n 3, 1), (461, .iconst 0, 1), (462, .laload, 1), (463, .iload 6, 2), (465, .i2l, 1), (466, .lcmp, 1), (467, .ifCond .eq 5, 3), (470, .iconst 0, 1), (471, .ireturn, 1)]
theorem dc332_4 : dcs (mC 332) il332_4 := dc_of (by decide +kernel)
def il332_5 : List (Nat × Instr × Nat) := [(472, .goto 1846, 3), (475, .aload_n 1, 1), (476, .aload_n 0, 1), (477, .iload 4, 2), (479, .iconst 1, 1), (480, .iadd, 1), (481, .iaload, 1), (482, .aload_n 0, 1), (483, .iload 4, 2), (485, .iconst 2, 1), (486, .iadd, 1), (487, .iaload, 1), (488, .aload_n 3, 1), (489, .invokestatic 148, 3), (492, .istore 5, 2), (494, .aload_n 2, 1), (495, .aload_n 0, 1), (496, .iload 4, 2), (498, .iconst 1, 1), (499, .iadd, 1), (500, .iaload, 1), (501, .aload_n 0, 1), (502, .iload 4, 2), (504, .iconst 2, 1), (505, .iadd, 1), (506, .iaload, 1), (507, .invokevirtual 150, 3), (510, .istore 6, 2), (512, .aload_n 2, 1), (513, .invokevirtual 134, 3), (516, .iload 5, 2), (518, .if_icmp .eq 5, 3), (521, .iconst 0, 1), (522, .ireturn, 1), (523, .iload 5, 2), (525, .ifCond .ne 15, 3), (528, .aload_n 3, 1), (529, .iconst 0, 1), (530, .laload, 1), (531, .iload 6, 2)]
theorem dc332_5 : dcs (mC 332) il332_5 := dc_of (by decide +kernel)
def il332_6 : List (Nat × Instr × Nat) := [(533, .i2l, 1), (534, .lcmp, 1), (535, .ifCond .eq 5, 3), (538, .iconst 0, 1), (539, .ireturn, 1), (540, .goto 1778, 3), (543, .aload_n 1, 1), (544, .aload_n 0, 1), (545, .iload 4, 2), (547, .iconst 1, 1), (548, .iadd, 1), (549, .iaload, 1), (550, .aload_n 0, 1), (551, .iload 4, 2), (553, .iconst 2, 1), (554, .iadd, 1), (555, .iaload, 1), (556, .aload_n 3, 1), (557, .invokestatic 151, 3), (560, .istore 5, 2), (562, .aload_n 2, 1), (563, .aload_n 0, 1), (564, .iload 4, 2), (566, .iconst 1, 1), (567, .iadd, 1), (568, .iaload, 1), (569, .aload_n 0, 1), (570, .iload 4, 2), (572, .iconst 2, 1), (573, .iadd, 1), (574, .iaload, 1), (575, .invokevirtual 153, 3), (578, .istore 6, 2), (580, .aload_n 2, 1), (581, .invokevirtual 134, 3), (584, .iload 5, 2), (586, .if_icmp .eq 5, 3), (589, .iconst 0, 1), (590, .ireturn, 1), (591, .iload 5, 2)]
theorem dc332_6 : dcs (mC 332) il332_6 := dc_of (by decide +kernel)
def il332_7 : List (Nat × Instr × Nat) := [(593, .ifCond .ne 15, 3), (596, .aload_n 3, 1), (597, .iconst 0, 1), (598, .laload, 1), (599, .iload 6, 2), (601, .i2l, 1), (602, .lcmp, 1), (603, .ifCond .eq 5, 3), (606, .iconst 0, 1), (607, .ireturn, 1), (608, .goto 1710, 3), (611, .aload_n 1, 1), (612, .aload_n 0, 1), (613, .iload 4, 2), (615, .iconst 1, 1), (616, .iadd, 1), (617, .iaload, 1), (618, .aload_n 0, 1), (619, .iload 4, 2), (621, .iconst 2, 1), (622, .iadd, 1), (623, .iaload, 1), (624, .aload_n 3, 1), (625, .invokestatic 154, 3), (628, .istore 5, 2), (630, .aload_n 2, 1), (631, .aload_n 0, 1), (632, .iload 4, 2), (634, .iconst 1, 1), (635, .iadd, 1), (636, .iaload, 1), (637, .aload_n 0, 1), (638, .iload 4, 2), (640, .iconst 2, 1), (641, .iadd, 1), (642, .iaload, 1), (643, .invokevirtual 156, 3), (646, .istore 6, 2), (648, .aload_n 2, 1), (649, .invokevirtual 134, 3)]
theorem dc332_7 : dcs (mC 332) il332_7 := dc_of (by decide +kernel)
def il332_8 : List (Nat × Instr × Nat) := [(652, .iload 5, 2), (654, .if_icmp .eq 5, 3), (657, .iconst 0, 1), (658, .ireturn, 1), (659, .iload 5, 2), (661, .ifCond .ne 15, 3), (664, .aload_n 3, 1), (665, .iconst 0, 1), (666, .laload, 1), (667, .iload 6, 2), (669, .i2l, 1), (670, .lcmp, 1), (671, .ifCond .eq 5, 3), (674, .iconst 0, 1), (675, .ireturn, 1), (676, .goto 1642, 3), (679, .aload_n 1, 1), (680, .aload_n 0, 1), (681, .iload 4, 2), (683, .iconst 1, 1), (684, .iadd, 1), (685, .iaload, 1), (686, .aload_n 3, 1), (687, .invokestatic 157, 3), (690, .istore 5, 2), (692, .aload_n 2, 1), (693, .aload_n 0, 1), (694, .iload 4, 2), (696, .iconst 1, 1), (697, .iadd, 1), (698, .iaload, 1), (699, .invokevirtual 160, 3), (702, .istore 6, 2), (704, .aload_n 2, 1), (705, .invokevirtual 134, 3), (708, .iload 5, 2), (710, .if_icmp .eq 5, 3), (713, .iconst 0, 1), (714, .ireturn, 1), (715, .iload 5, 2)]
theorem dc332_8 : dcs (mC 332) il332_8 := dc_of (by decide +kernel)
def il332_9 : List (Nat × Instr × Nat) := [(717, .ifCond .ne 15, 3), (720, .aload_n 3, 1), (721, .iconst 0, 1), (722, .laload, 1), (723, .iload 6, 2), (725, .i2l, 1), (726, .lcmp, 1), (727, .ifCond .eq 5, 3), (730, .iconst 0, 1), (731, .ireturn, 1), (732, .goto 1586, 3), (735, .aload_n 1, 1), (736, .aload_n 0, 1), (737, .iload 4, 2), (739, .iconst 1, 1), (740, .iadd, 1), (741, .iaload, 1), (742, .aload_n 0, 1), (743, .iload 4, 2), (745, .iconst 2, 1), (746, .iadd, 1), (747, .iaload, 1), (748, .aload_n 3, 1), (749, .invokestatic 161, 3), (752, .istore 5, 2), (754, .aload_n 2, 1), (755, .aload_n 0, 1), (756, .iload 4, 2), (758, .iconst 1, 1), (759, .iadd, 1), (760, .iaload, 1), (761, .aload_n 0, 1), (762, .iload 4, 2), (764, .iconst 2, 1), (765, .iadd, 1), (766, .iaload, 1), (767, .invokevirtual 163, 3), (770, .istore 6, 2), (772, .aload_n 2, 1), (773, .invokevirtual 134, 3)]
theorem dc332_9 : dcs (mC 332) il332_9 := dc_of (by decide +kernel)
def il332_10 : List (Nat × Instr × Nat) := [(776, .iload 5, 2), (778, .if_icmp .eq 5, 3), (781, .iconst 0, 1), (782, .ireturn, 1), (783, .iload 5, 2), (785, .ifCond .ne 15, 3), (788, .aload_n 3, 1), (789, .iconst 0, 1), (790, .laload, 1), (791, .iload 6, 2), (793, .i2l, 1), (794, .lcmp, 1), (795, .ifCond .eq 5, 3), (798, .iconst 0, 1), (799, .ireturn, 1), (800, .goto 1518, 3), (803, .aload_n 1, 1), (804, .aload_n 0, 1), (805, .iload 4, 2), (807, .iconst 1, 1), (808, .iadd, 1), (809, .iaload, 1), (810, .aload_n 0, 1), (811, .iload 4, 2), (813, .iconst 2, 1), (814, .iadd, 1), (815, .iaload, 1), (816, .aload_n 3, 1), (817, .invokestatic 164, 3), (820, .istore 5, 2), (822, .aload_n 2, 1), (823, .aload_n 0, 1), (824, .iload 4, 2), (826, .iconst 1, 1), (827, .iadd, 1), (828, .iaload, 1), (829, .aload_n 0, 1), (830, .iload 4, 2), (832, .iconst 2, 1), (833, .iadd, 1)]
theorem dc332_10 : dcs (mC 332) il332_10 := dc_of (by decide +kernel)
def il332_11 : List (Nat × Instr × Nat) := [(834, .iaload, 1), (835, .invokevirtual 166, 3), (838, .istore 6, 2), (840, .aload_n 2, 1), (841, .invokevirtual 134, 3), (844, .iload 5, 2), (846, .if_icmp .eq 5, 3), (849, .iconst 0, 1), (850, .ireturn, 1), (851, .iload 5, 2), (853, .ifCond .ne 22, 3), (856, .aload_n 3, 1), (857, .iconst 0, 1), (858, .laload, 1), (859, .iload 6, 2), (861, .ifCond .eq 7, 3), (864, .lconst 1, 1), (865, .goto 4, 3), (868, .lconst 0, 1), (869, .lcmp, 1), (870, .ifCond .eq 5, 3), (873, .iconst 0, 1), (874, .ireturn, 1), (875, .goto 1443, 3), (878, .aload_n 1, 1), (879, .aload_n 0, 1), (880, .iload 4, 2), (882, .iconst 1, 1), (883, .iadd, 1), (884, .iaload, 1), (885, .aload_n 3, 1), (886, .invokestatic 167, 3), (889, .istore 5, 2), (891, .aload_n 2, 1), (892, .aload_n 0, 1), (893, .iload 4, 2), (895, .iconst 1, 1), (896, .iadd, 1), (897, .iaload, 1), (898, .invokevirtual 169, 3)]
theorem dc332_11 : dcs (mC 332) il332_11 := dc_of (by decide +kernel)
def il332_12 : List (Nat × Instr × Nat) := [(901, .istore 6, 2), (903, .aload_n 2, 1), (904, .invokevirtual 134, 3), (907, .iload 5, 2), (909, .if_icmp .eq 5, 3), (912, .iconst 0, 1), (913, .ireturn, 1), (914, .iload 5, 2), (916, .ifCond .ne 15, 3), (919, .aload_n 3, 1), (920, .iconst 0, 1), (921, .laload, 1), (922, .iload 6, 2), (924, .i2l, 1), (925, .lcmp, 1), (926, .ifCond .eq 5, 3), (929, .iconst 0, 1), (930, .ireturn, 1), (931, .goto 1387, 3), (934, .aload_n 1, 1), (935, .aload_n 0, 1), (936, .iload 4, 2), (938, .iconst 1, 1), (939, .iadd, 1), (940, .iaload, 1), (941, .aload_n 3, 1), (942, .invokestatic 170, 3), (945, .istore 5, 2), (947, .aload_n 2, 1), (948, .aload_n 0, 1), (949, .iload 4, 2), (951, .iconst 1, 1), (952, .iadd, 1), (953, .iaload, 1), (954, .invokevirtual 172, 3), (957, .istore 6, 2), (959, .aload_n 2, 1), (960, .invokevirtual 134, 3), (963, .iload 5, 2), (965, .if_icmp .eq 5, 3)]
theorem dc332_12 : dcs (mC 332) il332_12 := dc_of (by decide +kernel)
def il332_13 : List (Nat × Instr × Nat) := [(968, .iconst 0, 1), (969, .ireturn, 1), (970, .iload 5, 2), (972, .ifCond .ne 15, 3), (975, .aload_n 3, 1), (976, .iconst 0, 1), (977, .laload, 1), (978, .iload 6, 2), (980, .i2l, 1), (981, .lcmp, 1), (982, .ifCond .eq 5, 3), (985, .iconst 0, 1), (986, .ireturn, 1), (987, .goto 1331, 3), (990, .aload_n 1, 1), (991, .aload_n 0, 1), (992, .iload 4, 2), (994, .iconst 1, 1), (995, .iadd, 1), (996, .iaload, 1), (997, .aload_n 3, 1), (998, .invokestatic 173, 3), (1001, .istore 5, 2), (1003, .aload_n 2, 1), (1004, .aload_n 0, 1), (1005, .iload 4, 2), (1007, .iconst 1, 1), (1008, .iadd, 1), (1009, .iaload, 1), (1010, .invokevirtual 175, 3), (1013, .istore 6, 2), (1015, .aload_n 2, 1), (1016, .invokevirtual 134, 3), (1019, .iload 5, 2), (1021, .if_icmp .eq 5, 3), (1024, .iconst 0, 1), (1025, .ireturn, 1), (1026, .iload 5, 2), (1028, .ifCond .ne 15, 3), (1031, .aload_n 3, 1)]
theorem dc332_13 : dcs (mC 332) il332_13 := dc_of (by decide +kernel)
def il332_14 : List (Nat × Instr × Nat) := [(1032, .iconst 0, 1), (1033, .laload, 1), (1034, .iload 6, 2), (1036, .i2l, 1), (1037, .lcmp, 1), (1038, .ifCond .eq 5, 3), (1041, .iconst 0, 1), (1042, .ireturn, 1), (1043, .goto 1275, 3), (1046, .aload_n 1, 1), (1047, .aload_n 0, 1), (1048, .iload 4, 2), (1050, .iconst 1, 1), (1051, .iadd, 1), (1052, .iaload, 1), (1053, .aload_n 3, 1), (1054, .invokestatic 176, 3), (1057, .istore 5, 2), (1059, .aload_n 2, 1), (1060, .aload_n 0, 1), (1061, .iload 4, 2), (1063, .iconst 1, 1), (1064, .iadd, 1), (1065, .iaload, 1), (1066, .invokevirtual 178, 3), (1069, .istore 6, 2), (1071, .aload_n 2, 1), (1072, .invokevirtual 134, 3), (1075, .iload 5, 2), (1077, .if_icmp .eq 5, 3), (1080, .iconst 0, 1), (1081, .ireturn, 1), (1082, .iload 5, 2), (1084, .ifCond .ne 15, 3), (1087, .aload_n 3, 1), (1088, .iconst 0, 1), (1089, .laload, 1), (1090, .iload 6, 2), (1092, .i2l, 1), (1093, .lcmp, 1)]
theorem dc332_14 : dcs (mC 332) il332_14 := dc_of (by decide +kernel)
def il332_15 : List (Nat × Instr × Nat) := [(1094, .ifCond .eq 5, 3), (1097, .iconst 0, 1), (1098, .ireturn, 1), (1099, .goto 1219, 3), (1102, .aload_n 1, 1), (1103, .aload_n 0, 1), (1104, .iload 4, 2), (1106, .iconst 1, 1), (1107, .iadd, 1), (1108, .iaload, 1), (1109, .aload_n 3, 1), (1110, .invokestatic 179, 3), (1113, .istore 5, 2), (1115, .aload_n 2, 1), (1116, .aload_n 0, 1), (1117, .iload 4, 2), (1119, .iconst 1, 1), (1120, .iadd, 1), (1121, .iaload, 1), (1122, .invokevirtual 181, 3), (1125, .istore 6, 2), (1127, .aload_n 2, 1), (1128, .invokevirtual 134, 3), (1131, .iload 5, 2), (1133, .if_icmp .eq 5, 3), (1136, .iconst 0, 1), (1137, .ireturn, 1), (1138, .iload 5, 2), (1140, .ifCond .ne 15, 3), (1143, .aload_n 3, 1), (1144, .iconst 0, 1), (1145, .laload, 1), (1146, .iload 6, 2), (1148, .i2l, 1), (1149, .lcmp, 1), (1150, .ifCond .eq 5, 3), (1153, .iconst 0, 1), (1154, .ireturn, 1), (1155, .goto 1163, 3), (1158, .aload_n 1, 1)]
theorem dc332_15 : dcs (mC 332) il332_15 := dc_of (by decide +kernel)
def il332_16 : List (Nat × Instr × Nat) := [(1159, .aload_n 0, 1), (1160, .iload 4, 2), (1162, .iconst 1, 1), (1163, .iadd, 1), (1164, .iaload, 1), (1165, .aload_n 3, 1), (1166, .invokestatic 182, 3), (1169, .istore 5, 2), (1171, .aload_n 2, 1), (1172, .aload_n 0, 1), (1173, .iload 4, 2), (1175, .iconst 1, 1), (1176, .iadd, 1), (1177, .iaload, 1), (1178, .invokevirtual 184, 3), (1181, .istore 6, 2), (1183, .aload_n 2, 1), (1184, .invokevirtual 134, 3), (1187, .iload 5, 2), (1189, .if_icmp .eq 5, 3), (1192, .iconst 0, 1), (1193, .ireturn, 1), (1194, .iload 5, 2), (1196, .ifCond .ne 15, 3), (1199, .aload_n 3, 1), (1200, .iconst 0, 1), (1201, .laload, 1), (1202, .iload 6, 2), (1204, .i2l, 1), (1205, .lcmp, 1), (1206, .ifCond .eq 5, 3), (1209, .iconst 0, 1), (1210, .ireturn, 1), (1211, .goto 1107, 3), (1214, .aload_n 1, 1), (1215, .aload_n 0, 1), (1216, .iload 4, 2), (1218, .iconst 1, 1), (1219, .iadd, 1), (1220, .iaload, 1)]
theorem dc332_16 : dcs (mC 332) il332_16 := dc_of (by decide +kernel)
def il332_17 : List (Nat × Instr × Nat) := [(1221, .aload_n 3, 1), (1222, .invokestatic 185, 3), (1225, .istore 5, 2), (1227, .aload_n 2, 1), (1228, .aload_n 0, 1), (1229, .iload 4, 2), (1231, .iconst 1, 1), (1232, .iadd, 1), (1233, .iaload, 1), (1234, .invokevirtual 187, 3), (1237, .istore 6, 2), (1239, .aload_n 2, 1), (1240, .invokevirtual 134, 3), (1243, .iload 5, 2), (1245, .if_icmp .eq 5, 3), (1248, .iconst 0, 1), (1249, .ireturn, 1), (1250, .iload 5, 2), (1252, .ifCond .ne 15, 3), (1255, .aload_n 3, 1), (1256, .iconst 0, 1), (1257, .laload, 1), (1258, .iload 6, 2), (1260, .i2l, 1), (1261, .lcmp, 1), (1262, .ifCond .eq 5, 3), (1265, .iconst 0, 1), (1266, .ireturn, 1), (1267, .goto 1051, 3), (1270, .aload_n 1, 1), (1271, .aload_n 0, 1), (1272, .iload 4, 2), (1274, .iconst 1, 1), (1275, .iadd, 1), (1276, .iaload, 1), (1277, .aload_n 3, 1), (1278, .invokestatic 188, 3), (1281, .istore 5, 2), (1283, .aload_n 2, 1), (1284, .aload_n 0, 1)]
theorem dc332_17 : dcs (mC 332) il332_17 := dc_of (by decide +kernel)
def il332_18 : List (Nat × Instr × Nat) := [(1285, .iload 4, 2), (1287, .iconst 1, 1), (1288, .iadd, 1), (1289, .iaload, 1), (1290, .invokevirtual 190, 3), (1293, .istore 6, 2), (1295, .aload_n 2, 1), (1296, .invokevirtual 134, 3), (1299, .iload 5, 2), (1301, .if_icmp .eq 5, 3), (1304, .iconst 0, 1), (1305, .ireturn, 1), (1306, .iload 5, 2), (1308, .ifCond .ne 15, 3), (1311, .aload_n 3, 1), (1312, .iconst 0, 1), (1313, .laload, 1), (1314, .iload 6, 2), (1316, .i2l, 1), (1317, .lcmp, 1), (1318, .ifCond .eq 5, 3), (1321, .iconst 0, 1), (1322, .ireturn, 1), (1323, .goto 995, 3), (1326, .aload_n 1, 1), (1327, .aload_n 0, 1), (1328, .iload 4, 2), (1330, .iconst 1, 1), (1331, .iadd, 1), (1332, .iaload, 1), (1333, .aload_n 3, 1), (1334, .invokestatic 191, 3), (1337, .istore 5, 2), (1339, .aload_n 2, 1), (1340, .aload_n 0, 1), (1341, .iload 4, 2), (1343, .iconst 1, 1), (1344, .iadd, 1), (1345, .iaload, 1), (1346, .invokevirtual 193, 3)]
theorem dc332_18 : dcs (mC 332) il332_18 := dc_of (by decide +kernel)
def il332_19 : List (Nat × Instr × Nat) := [(1349, .istore 6, 2), (1351, .aload_n 2, 1), (1352, .invokevirtual 134, 3), (1355, .iload 5, 2), (1357, .if_icmp .eq 5, 3), (1360, .iconst 0, 1), (1361, .ireturn, 1), (1362, .iload 5, 2), (1364, .ifCond .ne 15, 3), (1367, .aload_n 3, 1), (1368, .iconst 0, 1), (1369, .laload, 1), (1370, .iload 6, 2), (1372, .i2l, 1), (1373, .lcmp, 1), (1374, .ifCond .eq 5, 3), (1377, .iconst 0, 1), (1378, .ireturn, 1), (1379, .goto 939, 3), (1382, .aload_n 1, 1), (1383, .aload_n 0, 1), (1384, .iload 4, 2), (1386, .iconst 1, 1), (1387, .iadd, 1), (1388, .iaload, 1), (1389, .ifCond .eq 7, 3), (1392, .iconst 1, 1), (1393, .goto 4, 3), (1396, .iconst 0, 1), (1397, .aload_n 3, 1), (1398, .invokestatic 194, 3), (1401, .istore 5, 2), (1403, .aload_n 2, 1), (1404, .aload_n 0, 1), (1405, .iload 4, 2), (1407, .iconst 1, 1), (1408, .iadd, 1), (1409, .iaload, 1), (1410, .ifCond .eq 7, 3), (1413, .iconst 1, 1)]
theorem dc332_19 : dcs (mC 332) il332_19 := dc_of (by decide +kernel)
def il332_20 : List (Nat × Instr × Nat) := [(1414, .goto 4, 3), (1417, .iconst 0, 1), (1418, .invokevirtual 197, 3), (1421, .istore 6, 2), (1423, .aload_n 2, 1), (1424, .invokevirtual 134, 3), (1427, .iload 5, 2), (1429, .if_icmp .eq 5, 3), (1432, .iconst 0, 1), (1433, .ireturn, 1), (1434, .iload 5, 2), (1436, .ifCond .ne 15, 3), (1439, .aload_n 3, 1), (1440, .iconst 0, 1), (1441, .laload, 1), (1442, .iload 6, 2), (1444, .i2l, 1), (1445, .lcmp, 1), (1446, .ifCond .eq 5, 3), (1449, .iconst 0, 1), (1450, .ireturn, 1), (1451, .goto 867, 3), (1454, .aload_n 1, 1), (1455, .aload_n 0, 1), (1456, .iload 4, 2), (1458, .iconst 1, 1), (1459, .iadd, 1), (1460, .iaload, 1), (1461, .aload_n 0, 1), (1462, .iload 4, 2), (1464, .iconst 2, 1), (1465, .iadd, 1), (1466, .iaload, 1), (1467, .ifCond .eq 7, 3), (1470, .iconst 1, 1), (1471, .goto 4, 3), (1474, .iconst 0, 1), (1475, .aload_n 3, 1), (1476, .invokestatic 198, 3), (1479, .istore 5, 2)]
theorem dc332_20 : dcs (mC 332) il332_20 := dc_of (by decide +kernel)
def il332_21 : List (Nat × Instr × Nat) := [(1481, .aload_n 2, 1), (1482, .aload_n 0, 1), (1483, .iload 4, 2), (1485, .iconst 1, 1), (1486, .iadd, 1), (1487, .iaload, 1), (1488, .aload_n 0, 1), (1489, .iload 4, 2), (1491, .iconst 2, 1), (1492, .iadd, 1), (1493, .iaload, 1), (1494, .ifCond .eq 7, 3), (1497, .iconst 1, 1), (1498, .goto 4, 3), (1501, .iconst 0, 1), (1502, .invokevirtual 201, 3), (1505, .istore 6, 2), (1507, .aload_n 2, 1), (1508, .invokevirtual 134, 3), (1511, .iload 5, 2), (1513, .if_icmp .eq 5, 3), (1516, .iconst 0, 1), (1517, .ireturn, 1), (1518, .iload 5, 2), (1520, .ifCond .ne 15, 3), (1523, .aload_n 3, 1), (1524, .iconst 0, 1), (1525, .laload, 1), (1526, .iload 6, 2), (1528, .i2l, 1), (1529, .lcmp, 1), (1530, .ifCond .eq 5, 3), (1533, .iconst 0, 1), (1534, .ireturn, 1), (1535, .goto 783, 3), (1538, .aload_n 1, 1), (1539, .invokevirtual 202, 3), (1542, .aload_n 2, 1), (1543, .invokevirtual 205, 3), (1546, .if_icmp .eq 772, 3)]
theorem dc332_21 : dcs (mC 332) il332_21 := dc_of (by decide +kernel)
def il332_22 : List (Nat × Instr × Nat) := [(1549, .iconst 0, 1), (1550, .ireturn, 1), (1551, .aload_n 1, 1), (1552, .aload_n 0, 1), (1553, .iload 4, 2), (1555, .iconst 1, 1), (1556, .iadd, 1), (1557, .iaload, 1), (1558, .aload_n 0, 1), (1559, .iload 4, 2), (1561, .iconst 2, 1), (1562, .iadd, 1), (1563, .iaload, 1), (1564, .aload_n 3, 1), (1565, .invokestatic 206, 3), (1568, .istore 5, 2), (1570, .aload_n 2, 1), (1571, .aload_n 0, 1), (1572, .iload 4, 2), (1574, .iconst 1, 1), (1575, .iadd, 1), (1576, .iaload, 1), (1577, .aload_n 0, 1), (1578, .iload 4, 2), (1580, .iconst 2, 1), (1581, .iadd, 1), (1582, .iaload, 1), (1583, .invokevirtual 208, 3), (1586, .istore 6, 2), (1588, .aload_n 2, 1), (1589, .invokevirtual 134, 3), (1592, .iload 5, 2), (1594, .if_icmp .eq 5, 3), (1597, .iconst 0, 1), (1598, .ireturn, 1), (1599, .iload 5, 2), (1601, .ifCond .ne 15, 3), (1604, .aload_n 3, 1), (1605, .iconst 0, 1), (1606, .laload, 1)]
theorem dc332_22 : dcs (mC 332) il332_22 := dc_of (by decide +kernel)
def il332_23 : List (Nat × Instr × Nat) := [(1607, .iload 6, 2), (1609, .i2l, 1), (1610, .lcmp, 1), (1611, .ifCond .eq 5, 3), (1614, .iconst 0, 1), (1615, .ireturn, 1), (1616, .goto 702, 3), (1619, .aload_n 1, 1), (1620, .aload_n 0, 1), (1621, .iload 4, 2), (1623, .iconst 1, 1), (1624, .iadd, 1), (1625, .iaload, 1), (1626, .aload_n 3, 1), (1627, .invokestatic 209, 3), (1630, .istore 5, 2), (1632, .aload_n 2, 1), (1633, .aload_n 0, 1), (1634, .iload 4, 2), (1636, .iconst 1, 1), (1637, .iadd, 1), (1638, .iaload, 1), (1639, .invokevirtual 211, 3), (1642, .istore 6, 2), (1644, .aload_n 2, 1), (1645, .invokevirtual 134, 3), (1648, .iload 5, 2), (1650, .if_icmp .eq 5, 3), (1653, .iconst 0, 1), (1654, .ireturn, 1), (1655, .iload 5, 2), (1657, .ifCond .ne 15, 3), (1660, .aload_n 3, 1), (1661, .iconst 0, 1), (1662, .laload, 1), (1663, .iload 6, 2), (1665, .i2l, 1), (1666, .lcmp, 1), (1667, .ifCond .eq 5, 3), (1670, .iconst 0, 1)]
theorem dc332_23 : dcs (mC 332) il332_23 := dc_of (by decide +kernel)
def il332_24 : List (Nat × Instr × Nat) := [(1671, .ireturn, 1), (1672, .goto 646, 3), (1675, .aload_n 1, 1), (1676, .aload_n 0, 1), (1677, .iload 4, 2), (1679, .iconst 1, 1), (1680, .iadd, 1), (1681, .iaload, 1), (1682, .aload_n 0, 1), (1683, .iload 4, 2), (1685, .iconst 2, 1), (1686, .iadd, 1), (1687, .iaload, 1), (1688, .aload_n 0, 1), (1689, .iload 4, 2), (1691, .iconst 3, 1), (1692, .iadd, 1), (1693, .iaload, 1), (1694, .ifCond .eq 7, 3), (1697, .iconst 1, 1), (1698, .goto 4, 3), (1701, .iconst 0, 1), (1702, .aload_n 3, 1), (1703, .invokestatic 212, 3), (1706, .istore 5, 2), (1708, .aload_n 2, 1), (1709, .aload_n 0, 1), (1710, .iload 4, 2), (1712, .iconst 1, 1), (1713, .iadd, 1), (1714, .iaload, 1), (1715, .aload_n 0, 1), (1716, .iload 4, 2), (1718, .iconst 2, 1), (1719, .iadd, 1), (1720, .iaload, 1), (1721, .aload_n 0, 1), (1722, .iload 4, 2), (1724, .iconst 3, 1), (1725, .iadd, 1)]
theorem dc332_24 : dcs (mC 332) il332_24 := dc_of (by decide +kernel)
def il332_25 : List (Nat × Instr × Nat) := [(1726, .iaload, 1), (1727, .ifCond .eq 7, 3), (1730, .iconst 1, 1), (1731, .goto 4, 3), (1734, .iconst 0, 1), (1735, .invokevirtual 215, 3), (1738, .istore 6, 2), (1740, .aload_n 2, 1), (1741, .invokevirtual 134, 3), (1744, .iload 5, 2), (1746, .if_icmp .eq 5, 3), (1749, .iconst 0, 1), (1750, .ireturn, 1), (1751, .iload 5, 2), (1753, .ifCond .ne 15, 3), (1756, .aload_n 3, 1), (1757, .iconst 0, 1), (1758, .laload, 1), (1759, .iload 6, 2), (1761, .i2l, 1), (1762, .lcmp, 1), (1763, .ifCond .eq 5, 3), (1766, .iconst 0, 1), (1767, .ireturn, 1), (1768, .goto 550, 3), (1771, .aload_n 1, 1), (1772, .aload_n 0, 1), (1773, .iload 4, 2), (1775, .iconst 1, 1), (1776, .iadd, 1), (1777, .iaload, 1), (1778, .aload_n 0, 1), (1779, .iload 4, 2), (1781, .iconst 2, 1), (1782, .iadd, 1), (1783, .iaload, 1), (1784, .aload_n 3, 1), (1785, .invokestatic 216, 3), (1788, .istore 5, 2), (1790, .aload_n 2, 1)]
theorem dc332_25 : dcs (mC 332) il332_25 := dc_of (by decide +kernel)
def il332_26 : List (Nat × Instr × Nat) := [(1791, .aload_n 0, 1), (1792, .iload 4, 2), (1794, .iconst 1, 1), (1795, .iadd, 1), (1796, .iaload, 1), (1797, .aload_n 0, 1), (1798, .iload 4, 2), (1800, .iconst 2, 1), (1801, .iadd, 1), (1802, .iaload, 1), (1803, .invokevirtual 218, 3), (1806, .istore 6, 2), (1808, .aload_n 2, 1), (1809, .invokevirtual 134, 3), (1812, .iload 5, 2), (1814, .if_icmp .eq 5, 3), (1817, .iconst 0, 1), (1818, .ireturn, 1), (1819, .iload 5, 2), (1821, .ifCond .ne 15, 3), (1824, .aload_n 3, 1), (1825, .iconst 0, 1), (1826, .laload, 1), (1827, .iload 6, 2), (1829, .i2l, 1), (1830, .lcmp, 1), (1831, .ifCond .eq 5, 3), (1834, .iconst 0, 1), (1835, .ireturn, 1), (1836, .goto 482, 3), (1839, .aload_n 1, 1), (1840, .aload_n 0, 1), (1841, .iload 4, 2), (1843, .iconst 1, 1), (1844, .iadd, 1), (1845, .iaload, 1), (1846, .invokevirtual 219, 3), (1849, .aload_n 2, 1), (1850, .aload_n 0, 1), (1851, .iload 4, 2)]
theorem dc332_26 : dcs (mC 332) il332_26 := dc_of (by decide +kernel)
def il332_27 : List (Nat × Instr × Nat) := [(1853, .iconst 1, 1), (1854, .iadd, 1), (1855, .iaload, 1), (1856, .invokevirtual 222, 3), (1859, .if_icmp .eq 459, 3), (1862, .iconst 0, 1), (1863, .ireturn, 1), (1864, .aload_n 1, 1), (1865, .aload_n 0, 1), (1866, .iload 4, 2), (1868, .iconst 1, 1), (1869, .iadd, 1), (1870, .iaload, 1), (1871, .aload_n 3, 1), (1872, .invokestatic 223, 3), (1875, .istore 5, 2), (1877, .aload_n 2, 1), (1878, .aload_n 0, 1), (1879, .iload 4, 2), (1881, .iconst 1, 1), (1882, .iadd, 1), (1883, .iaload, 1), (1884, .invokevirtual 225, 3), (1887, .istore 6, 2), (1889, .aload_n 2, 1), (1890, .invokevirtual 134, 3), (1893, .iload 5, 2), (1895, .if_icmp .eq 5, 3), (1898, .iconst 0, 1), (1899, .ireturn, 1), (1900, .iload 5, 2), (1902, .ifCond .ne 15, 3), (1905, .aload_n 3, 1), (1906, .iconst 0, 1), (1907, .laload, 1), (1908, .iload 6, 2), (1910, .i2l, 1), (1911, .lcmp, 1), (1912, .ifCond .eq 5, 3), (1915, .iconst 0, 1)]
theorem dc332_27 : dcs (mC 332) il332_27 := dc_of (by decide +kernel)
def il332_28 : List (Nat × Instr × Nat) := [(1916, .ireturn, 1), (1917, .goto 401, 3), (1920, .aload_n 1, 1), (1921, .aload_n 0, 1), (1922, .iload 4, 2), (1924, .iconst 1, 1), (1925, .iadd, 1), (1926, .iaload, 1), (1927, .ifCond .eq 7, 3), (1930, .iconst 1, 1), (1931, .goto 4, 3), (1934, .iconst 0, 1), (1935, .aload_n 3, 1), (1936, .invokestatic 226, 3), (1939, .istore 5, 2), (1941, .aload_n 2, 1), (1942, .aload_n 0, 1), (1943, .iload 4, 2), (1945, .iconst 1, 1), (1946, .iadd, 1), (1947, .iaload, 1), (1948, .ifCond .eq 7, 3), (1951, .iconst 1, 1), (1952, .goto 4, 3), (1955, .iconst 0, 1), (1956, .invokevirtual 228, 3), (1959, .istore 6, 2), (1961, .aload_n 2, 1), (1962, .invokevirtual 134, 3), (1965, .iload 5, 2), (1967, .if_icmp .eq 5, 3), (1970, .iconst 0, 1), (1971, .ireturn, 1), (1972, .iload 5, 2), (1974, .ifCond .ne 15, 3), (1977, .aload_n 3, 1), (1978, .iconst 0, 1), (1979, .laload, 1), (1980, .iload 6, 2), (1982, .i2l, 1)]
theorem dc332_28 : dcs (mC 332) il332_28 := dc_of (by decide +kernel)
def il332_29 : List (Nat × Instr × Nat) := [(1983, .lcmp, 1), (1984, .ifCond .eq 5, 3), (1987, .iconst 0, 1), (1988, .ireturn, 1), (1989, .goto 329, 3), (1992, .aload_n 1, 1), (1993, .aload_n 0, 1), (1994, .iload 4, 2), (1996, .iconst 1, 1), (1997, .iadd, 1), (1998, .iaload, 1), (1999, .aload_n 0, 1), (2000, .iload 4, 2), (2002, .iconst 2, 1), (2003, .iadd, 1), (2004, .iaload, 1), (2005, .aload_n 0, 1), (2006, .iload 4, 2), (2008, .iconst 3, 1), (2009, .iadd, 1), (2010, .iaload, 1), (2011, .i2l, 1), (2012, .bipush 32, 2), (2014, .lshl, 1), (2015, .aload_n 0, 1), (2016, .iload 4, 2), (2018, .iconst 4, 1), (2019, .iadd, 1), (2020, .iaload, 1), (2021, .i2l, 1), (2022, .ldc2_w 229, 3), (2025, .land, 1), (2026, .lor, 1), (2027, .aload_n 0, 1), (2028, .iload 4, 2), (2030, .iconst 5, 1), (2031, .iadd, 1), (2032, .iaload, 1), (2033, .ifCond .eq 7, 3), (2036, .iconst 1, 1)]
theorem dc332_29 : dcs (mC 332) il332_29 := dc_of (by decide +kernel)
def il332_30 : List (Nat × Instr × Nat) := [(2037, .goto 4, 3), (2040, .iconst 0, 1), (2041, .aload_n 3, 1), (2042, .invokestatic 231, 3), (2045, .istore 5, 2), (2047, .aload_n 2, 1), (2048, .aload_n 0, 1), (2049, .iload 4, 2), (2051, .iconst 1, 1), (2052, .iadd, 1), (2053, .iaload, 1), (2054, .aload_n 0, 1), (2055, .iload 4, 2), (2057, .iconst 2, 1), (2058, .iadd, 1), (2059, .iaload, 1), (2060, .aload_n 0, 1), (2061, .iload 4, 2), (2063, .iconst 3, 1), (2064, .iadd, 1), (2065, .iaload, 1), (2066, .i2l, 1), (2067, .bipush 32, 2), (2069, .lshl, 1), (2070, .aload_n 0, 1), (2071, .iload 4, 2), (2073, .iconst 4, 1), (2074, .iadd, 1), (2075, .iaload, 1), (2076, .i2l, 1), (2077, .ldc2_w 229, 3), (2080, .land, 1), (2081, .lor, 1), (2082, .aload_n 0, 1), (2083, .iload 4, 2), (2085, .iconst 5, 1), (2086, .iadd, 1), (2087, .iaload, 1), (2088, .ifCond .eq 7, 3), (2091, .iconst 1, 1)]
theorem dc332_30 : dcs (mC 332) il332_30 := dc_of (by decide +kernel)
def il332_31 : List (Nat × Instr × Nat) := [(2092, .goto 4, 3), (2095, .iconst 0, 1), (2096, .invokevirtual 234, 3), (2099, .istore 6, 2), (2101, .aload_n 2, 1), (2102, .invokevirtual 134, 3), (2105, .iload 5, 2), (2107, .if_icmp .eq 5, 3), (2110, .iconst 0, 1), (2111, .ireturn, 1), (2112, .iload 5, 2), (2114, .ifCond .ne 15, 3), (2117, .aload_n 3, 1), (2118, .iconst 0, 1), (2119, .laload, 1), (2120, .iload 6, 2), (2122, .i2l, 1), (2123, .lcmp, 1), (2124, .ifCond .eq 5, 3), (2127, .iconst 0, 1), (2128, .ireturn, 1), (2129, .goto 189, 3), (2132, .aload_n 1, 1), (2133, .aload_n 0, 1), (2134, .iload 4, 2), (2136, .iconst 1, 1), (2137, .iadd, 1), (2138, .iaload, 1), (2139, .aload_n 3, 1), (2140, .invokestatic 235, 3), (2143, .istore 5, 2), (2145, .aload_n 2, 1), (2146, .aload_n 0, 1), (2147, .iload 4, 2), (2149, .iconst 1, 1), (2150, .iadd, 1), (2151, .iaload, 1), (2152, .invokevirtual 237, 3), (2155, .istore 6, 2), (2157, .aload_n 2, 1)]
theorem dc332_31 : dcs (mC 332) il332_31 := dc_of (by decide +kernel)
def il332_32 : List (Nat × Instr × Nat) := [(2158, .invokevirtual 134, 3), (2161, .iload 5, 2), (2163, .if_icmp .eq 5, 3), (2166, .iconst 0, 1), (2167, .ireturn, 1), (2168, .iload 5, 2), (2170, .ifCond .ne 15, 3), (2173, .aload_n 3, 1), (2174, .iconst 0, 1), (2175, .laload, 1), (2176, .iload 6, 2), (2178, .i2l, 1), (2179, .lcmp, 1), (2180, .ifCond .eq 5, 3), (2183, .iconst 0, 1), (2184, .ireturn, 1), (2185, .goto 133, 3), (2188, .aload_n 1, 1), (2189, .aload_n 0, 1), (2190, .iload 4, 2), (2192, .iconst 1, 1), (2193, .iadd, 1), (2194, .iaload, 1), (2195, .aload_n 0, 1), (2196, .iload 4, 2), (2198, .iconst 2, 1), (2199, .iadd, 1), (2200, .iaload, 1), (2201, .aload_n 3, 1), (2202, .invokestatic 238, 3), (2205, .istore 5, 2), (2207, .aload_n 2, 1), (2208, .aload_n 0, 1), (2209, .iload 4, 2), (2211, .iconst 1, 1), (2212, .iadd, 1), (2213, .iaload, 1), (2214, .aload_n 0, 1), (2215, .iload 4, 2), (2217, .iconst 2, 1)]
theorem dc332_32 : dcs (mC 332) il332_32 := dc_of (by decide +kernel)
def il332_33 : List (Nat × Instr × Nat) := [(2218, .iadd, 1), (2219, .iaload, 1), (2220, .invokevirtual 240, 3), (2223, .istore 6, 2), (2225, .aload_n 2, 1), (2226, .invokevirtual 134, 3), (2229, .iload 5, 2), (2231, .if_icmp .eq 5, 3), (2234, .iconst 0, 1), (2235, .ireturn, 1), (2236, .iload 5, 2), (2238, .ifCond .ne 15, 3), (2241, .aload_n 3, 1), (2242, .iconst 0, 1), (2243, .laload, 1), (2244, .iload 6, 2), (2246, .i2l, 1), (2247, .lcmp, 1), (2248, .ifCond .eq 5, 3), (2251, .iconst 0, 1), (2252, .ireturn, 1), (2253, .goto 65, 3), (2256, .aload_n 1, 1), (2257, .invokevirtual 241, 3), (2260, .aload_n 2, 1), (2261, .invokevirtual 245, 3), (2264, .if_icmp .eq 54, 3), (2267, .iconst 0, 1), (2268, .ireturn, 1), (2269, .aload_n 1, 1), (2270, .invokevirtual 246, 3), (2273, .aload_n 2, 1), (2274, .invokevirtual 249, 3), (2277, .goto 41, 3), (2280, .aload_n 1, 1), (2281, .invokevirtual 250, 3), (2284, .aload_n 2, 1), (2285, .invokevirtual 253, 3), (2288, .if_icmp .eq 30, 3), (2291, .iconst 0, 1)]
theorem dc332_33 : dcs (mC 332) il332_33 := dc_of (by decide +kernel)
def il332_34 : List (Nat × Instr × Nat) := [(2292, .ireturn, 1), (2293, .aload_n 1, 1), (2294, .aload_n 0, 1), (2295, .iload 4, 2), (2297, .iconst 1, 1), (2298, .iadd, 1), (2299, .iaload, 1), (2300, .invokevirtual 254, 3), (2303, .aload_n 2, 1), (2304, .aload_n 0, 1), (2305, .iload 4, 2), (2307, .iconst 1, 1), (2308, .iadd, 1), (2309, .iaload, 1), (2310, .invokevirtual 257, 3), (2313, .if_icmp .eq 5, 3), (2316, .iconst 0, 1), (2317, .ireturn, 1), (2318, .iinc 4 6, 3), (2321, .goto (-2298), 3), (2324, .iconst 1, 1), (2325, .ireturn, 1)]
theorem dc332_34 : dcs (mC 332) il332_34 := dc_of (by decide +kernel)
def drv_main_J208 (Z : Nat × (Nat → Int))  (Kb : Int → MM → OR) (v4 : Int) (M : MM) : OR :=
  (bif inB (v4 + 1) Z.1 then (bif inB (v4 + 2) Z.1 then (bif inB (v4 + 3) Z.1 then (bif inB (v4 + 4) Z.1 then (bif inB (v4 + 5) Z.1 then (bI (gh_feed (Z.2 ((v4 + 1)).toNat) (Z.2 ((v4 + 2)).toNat) (Z.2 ((v4 + 3)).toNat) (Z.2 ((v4 + 4)).toNat) (Z.2 ((v4 + 5)).toNat) M) fun z_4 M_3 => (bif inB (v4 + 1) Z.1 then (bif inB (v4 + 2) Z.1 then (bif inB (v4 + 3) Z.1 then (bif inB (v4 + 4) Z.1 then (bif inB (v4 + 5) Z.1 then (bI (mo_feed (Z.2 ((v4 + 1)).toNat) (Z.2 ((v4 + 2)).toNat) (Z.2 ((v4 + 3)).toNat) (Z.2 ((v4 + 4)).toNat) (Z.2 ((v4 + 5)).toNat) M_3) fun z_7 M_6 => (bif cmpB .eq z_4 z_7 then (Kb (v4 + 6) M_6) else some (rI 0, M_6))) else none) else none) else none) else none) else none)) else none) else none) else none) else none) else none)
set_option maxRecDepth 4000 in
theorem drv_main_J208_ok {Z : Nat × (Nat → Int)} {d : Nat} (hd : 52 ≤ d) (hZ : Z.1 < 2147483648)  {Kb : Int → MM → OR} {res : AR × MM} (kb : ∀ (x4 : Int) (M : MM) (j5 j6 : AV), Kb x4 M = some res → EX Z d 332 23 [vR E0, vR 0, vR 165, vR 181, vI x4, j5, j6] [] M res) : ∀ (v4 : Int) (M : MM) (j5 j6 : AV), drv_main_J208 Z  Kb v4 M = some res → EX Z d 332 208 [vR E0, vR 0, vR 165, vR 181, vI v4, j5, j6] [] M res := by
  obtain ⟨e9, rfl⟩ : ∃ e9, d = e9 + 1 := ⟨d - 1, by omega⟩
  intro v4 M j5 j6 hf
  unfold drv_main_J208 at hf
  refine ex_pu (ls' := [vR E0, vR 0, vR 165, vR 181, vI v4, j5, j6]) (st' := [vR 0]) (dg dc332_0 25 rfl) rfl rfl ?_
  refine ex_pu (ls' := [vR E0, vR 0, vR 165, vR 181, vI v4, j5, j6]) (st' := [vR E0, vR 0]) (dg dc332_0 26 rfl) rfl rfl ?_
  refine ex_pu (ls' := [vR E0, vR 0, vR 165, vR 181, vI v4, j5, j6]) (st' := [vI v4, vR E0, vR 0]) (dg dc332_0 27 rfl) rfl rfl ?_
  refine ex_pu (ls' := [vR E0, vR 0, vR 165, vR 181, vI v4, j5, j6]) (st' := [vI 1, vI v4, vR E0, vR 0]) (dg dc332_0 28 rfl) rfl rfl ?_
  refine ex_pu (ls' := [vR E0, vR 0, vR 165, vR 181, vI v4, j5, j6]) (st' := [vI (v4 + 1), vR E0, vR 0]) (dg dc332_0 29 rfl) rfl rfl ?_
  refine ex_ialdS (dg dc332_0 30 rfl) hZ hf (fun _ hf => ?_)
  refine ex_pu (ls' := [vR E0, vR 0, vR 165, vR 181, vI v4, j5, j6]) (st' := [vR E0, vI (Z.2 ((v4 + 1)).toNat), vR 0]) (dg dc332_0 31 rfl) rfl rfl ?_
  refine ex_pu (ls' := [vR E0, vR 0, vR 165, vR 181, vI v4, j5, j6]) (st' := [vI v4, vR E0, vI (Z.2 ((v4 + 1)).toNat), vR 0]) (dg dc332_0 32 rfl) rfl rfl ?_
  refine ex_pu (ls' := [vR E0, vR 0, vR 165, vR 181, vI v4, j5, j6]) (st' := [vI 2, vI v4, vR E0, vI (Z.2 ((v4 + 1)).toNat), vR 0]) (dg dc332_0 33 rfl) rfl rfl ?_
  refine ex_pu (ls' := [vR E0, vR 0, vR 165, vR 181, vI v4, j5, j6]) (st' := [vI (v4 + 2), vR E0, vI (Z.2 ((v4 + 1)).toNat), vR 0]) (dg dc332_0 34 rfl) rfl rfl ?_
  refine ex_ialdS (dg dc332_0 35 rfl) hZ hf (fun _ hf => ?_)
  refine ex_pu (ls' := [vR E0, vR 0, vR 165, vR 181, vI v4, j5, j6]) (st' := [vR E0, vI (Z.2 ((v4 + 2)).toNat), vI (Z.2 ((v4 + 1)).toNat), vR 0]) (dg dc332_0 36 rfl) rfl rfl ?_
  refine ex_pu (ls' := [vR E0, vR 0, vR 165, vR 181, vI v4, j5, j6]) (st' := [vI v4, vR E0, vI (Z.2 ((v4 + 2)).toNat), vI (Z.2 ((v4 + 1)).toNat), vR 0]) (dg dc332_0 37 rfl) rfl rfl ?_
  refine ex_pu (ls' := [vR E0, vR 0, vR 165, vR 181, vI v4, j5, j6]) (st' := [vI 3, vI v4, vR E0, vI (Z.2 ((v4 + 2)).toNat), vI (Z.2 ((v4 + 1)).toNat), vR 0]) (dg dc332_0 38 rfl) rfl rfl ?_
  refine ex_pu (ls' := [vR E0, vR 0, vR 165, vR 181, vI v4, j5, j6]) (st' := [vI (v4 + 3), vR E0, vI (Z.2 ((v4 + 2)).toNat), vI (Z.2 ((v4 + 1)).toNat), vR 0]) (dg dc332_0 39 rfl) rfl rfl ?_
  refine ex_ialdS (dg dc332_1 0 rfl) hZ hf (fun _ hf => ?_)
  refine ex_pu (ls' := [vR E0, vR 0, vR 165, vR 181, vI v4, j5, j6]) (st' := [vR E0, vI (Z.2 ((v4 + 3)).toNat), vI (Z.2 ((v4 + 2)).toNat), vI (Z.2 ((v4 + 1)).toNat), vR 0]) (dg dc332_1 1 rfl) rfl rfl ?_
  refine ex_pu (ls' := [vR E0, vR 0, vR 165, vR 181, vI v4, j5, j6]) (st' := [vI v4, vR E0, vI (Z.2 ((v4 + 3)).toNat), vI (Z.2 ((v4 + 2)).toNat), vI (Z.2 ((v4 + 1)).toNat), vR 0]) (dg dc332_1 2 rfl) rfl rfl ?_
  refine ex_pu (ls' := [vR E0, vR 0, vR 165, vR 181, vI v4, j5, j6]) (st' := [vI 4, vI v4, vR E0, vI (Z.2 ((v4 + 3)).toNat), vI (Z.2 ((v4 + 2)).toNat), vI (Z.2 ((v4 + 1)).toNat), vR 0]) (dg dc332_1 3 rfl) rfl rfl ?_
  refine ex_pu (ls' := [vR E0, vR 0, vR 165, vR 181, vI v4, j5, j6]) (st' := [vI (v4 + 4), vR E0, vI (Z.2 ((v4 + 3)).toNat), vI (Z.2 ((v4 + 2)).toNat), vI (Z.2 ((v4 + 1)).toNat), vR 0]) (dg dc332_1 4 rfl) rfl rfl ?_
  refine ex_ialdS (dg dc332_1 5 rfl) hZ hf (fun _ hf => ?_)
  refine ex_pu (ls' := [vR E0, vR 0, vR 165, vR 181, vI v4, j5, j6]) (st' := [vR E0, vI (Z.2 ((v4 + 4)).toNat), vI (Z.2 ((v4 + 3)).toNat), vI (Z.2 ((v4 + 2)).toNat), vI (Z.2 ((v4 + 1)).toNat), vR 0]) (dg dc332_1 6 rfl) rfl rfl ?_
  refine ex_pu (ls' := [vR E0, vR 0, vR 165, vR 181, vI v4, j5, j6]) (st' := [vI v4, vR E0, vI (Z.2 ((v4 + 4)).toNat), vI (Z.2 ((v4 + 3)).toNat), vI (Z.2 ((v4 + 2)).toNat), vI (Z.2 ((v4 + 1)).toNat), vR 0]) (dg dc332_1 7 rfl) rfl rfl ?_
  refine ex_pu (ls' := [vR E0, vR 0, vR 165, vR 181, vI v4, j5, j6]) (st' := [vI 5, vI v4, vR E0, vI (Z.2 ((v4 + 4)).toNat), vI (Z.2 ((v4 + 3)).toNat), vI (Z.2 ((v4 + 2)).toNat), vI (Z.2 ((v4 + 1)).toNat), vR 0]) (dg dc332_1 8 rfl) rfl rfl ?_
  refine ex_pu (ls' := [vR E0, vR 0, vR 165, vR 181, vI v4, j5, j6]) (st' := [vI (v4 + 5), vR E0, vI (Z.2 ((v4 + 4)).toNat), vI (Z.2 ((v4 + 3)).toNat), vI (Z.2 ((v4 + 2)).toNat), vI (Z.2 ((v4 + 1)).toNat), vR 0]) (dg dc332_1 9 rfl) rfl rfl ?_
  refine ex_ialdS (dg dc332_1 10 rfl) hZ hf (fun _ hf => ?_)
  refine ex_cI (vs := [vR 0, vI (Z.2 ((v4 + 1)).toNat), vI (Z.2 ((v4 + 2)).toNat), vI (Z.2 ((v4 + 3)).toNat), vI (Z.2 ((v4 + 4)).toNat), vI (Z.2 ((v4 + 5)).toNat)]) (st' := []) (F := (gh_feed (Z.2 ((v4 + 1)).toNat) (Z.2 ((v4 + 2)).toNat) (Z.2 ((v4 + 3)).toNat) (Z.2 ((v4 + 4)).toNat) (Z.2 ((v4 + 5)).toNat) M)) (Or.inr (Or.inl ⟨rfl, (dg dc332_1 11 rfl)⟩)) rfl rfl (rk1 (LOC.st (Nat.le_of_ble_eq_true rfl) rfl) rfl) rfl (fun _ r9 => gh_feed_ok (Z := Z) (d := e9) (by omega)  r9) hf (fun z_4 M_3 he_2 hf => ?_)
  refine ex_pu (ls' := [vR E0, vR 0, vR 165, vR 181, vI v4, j5, j6]) (st' := [vR 165, vI z_4]) (dg dc332_1 12 rfl) rfl rfl ?_
  refine ex_pu (ls' := [vR E0, vR 0, vR 165, vR 181, vI v4, j5, j6]) (st' := [vR E0, vR 165, vI z_4]) (dg dc332_1 13 rfl) rfl rfl ?_
  refine ex_pu (ls' := [vR E0, vR 0, vR 165, vR 181, vI v4, j5, j6]) (st' := [vI v4, vR E0, vR 165, vI z_4]) (dg dc332_1 14 rfl) rfl rfl ?_
  refine ex_pu (ls' := [vR E0, vR 0, vR 165, vR 181, vI v4, j5, j6]) (st' := [vI 1, vI v4, vR E0, vR 165, vI z_4]) (dg dc332_1 15 rfl) rfl rfl ?_
  refine ex_pu (ls' := [vR E0, vR 0, vR 165, vR 181, vI v4, j5, j6]) (st' := [vI (v4 + 1), vR E0, vR 165, vI z_4]) (dg dc332_1 16 rfl) rfl rfl ?_
  refine ex_ialdS (dg dc332_1 17 rfl) hZ hf (fun _ hf => ?_)
  refine ex_pu (ls' := [vR E0, vR 0, vR 165, vR 181, vI v4, j5, j6]) (st' := [vR E0, vI (Z.2 ((v4 + 1)).toNat), vR 165, vI z_4]) (dg dc332_1 18 rfl) rfl rfl ?_
  refine ex_pu (ls' := [vR E0, vR 0, vR 165, vR 181, vI v4, j5, j6]) (st' := [vI v4, vR E0, vI (Z.2 ((v4 + 1)).toNat), vR 165, vI z_4]) (dg dc332_1 19 rfl) rfl rfl ?_
  refine ex_pu (ls' := [vR E0, vR 0, vR 165, vR 181, vI v4, j5, j6]) (st' := [vI 2, vI v4, vR E0, vI (Z.2 ((v4 + 1)).toNat), vR 165, vI z_4]) (dg dc332_1 20 rfl) rfl rfl ?_
  refine ex_pu (ls' := [vR E0, vR 0, vR 165, vR 181, vI v4, j5, j6]) (st' := [vI (v4 + 2), vR E0, vI (Z.2 ((v4 + 1)).toNat), vR 165, vI z_4]) (dg dc332_1 21 rfl) rfl rfl ?_
  refine ex_ialdS (dg dc332_1 22 rfl) hZ hf (fun _ hf => ?_)
  refine ex_pu (ls' := [vR E0, vR 0, vR 165, vR 181, vI v4, j5, j6]) (st' := [vR E0, vI (Z.2 ((v4 + 2)).toNat), vI (Z.2 ((v4 + 1)).toNat), vR 165, vI z_4]) (dg dc332_1 23 rfl) rfl rfl ?_
  refine ex_pu (ls' := [vR E0, vR 0, vR 165, vR 181, vI v4, j5, j6]) (st' := [vI v4, vR E0, vI (Z.2 ((v4 + 2)).toNat), vI (Z.2 ((v4 + 1)).toNat), vR 165, vI z_4]) (dg dc332_1 24 rfl) rfl rfl ?_
  refine ex_pu (ls' := [vR E0, vR 0, vR 165, vR 181, vI v4, j5, j6]) (st' := [vI 3, vI v4, vR E0, vI (Z.2 ((v4 + 2)).toNat), vI (Z.2 ((v4 + 1)).toNat), vR 165, vI z_4]) (dg dc332_1 25 rfl) rfl rfl ?_
  refine ex_pu (ls' := [vR E0, vR 0, vR 165, vR 181, vI v4, j5, j6]) (st' := [vI (v4 + 3), vR E0, vI (Z.2 ((v4 + 2)).toNat), vI (Z.2 ((v4 + 1)).toNat), vR 165, vI z_4]) (dg dc332_1 26 rfl) rfl rfl ?_
  refine ex_ialdS (dg dc332_1 27 rfl) hZ hf (fun _ hf => ?_)
  refine ex_pu (ls' := [vR E0, vR 0, vR 165, vR 181, vI v4, j5, j6]) (st' := [vR E0, vI (Z.2 ((v4 + 3)).toNat), vI (Z.2 ((v4 + 2)).toNat), vI (Z.2 ((v4 + 1)).toNat), vR 165, vI z_4]) (dg dc332_1 28 rfl) rfl rfl ?_
  refine ex_pu (ls' := [vR E0, vR 0, vR 165, vR 181, vI v4, j5, j6]) (st' := [vI v4, vR E0, vI (Z.2 ((v4 + 3)).toNat), vI (Z.2 ((v4 + 2)).toNat), vI (Z.2 ((v4 + 1)).toNat), vR 165, vI z_4]) (dg dc332_1 29 rfl) rfl rfl ?_
  refine ex_pu (ls' := [vR E0, vR 0, vR 165, vR 181, vI v4, j5, j6]) (st' := [vI 4, vI v4, vR E0, vI (Z.2 ((v4 + 3)).toNat), vI (Z.2 ((v4 + 2)).toNat), vI (Z.2 ((v4 + 1)).toNat), vR 165, vI z_4]) (dg dc332_1 30 rfl) rfl rfl ?_
  refine ex_pu (ls' := [vR E0, vR 0, vR 165, vR 181, vI v4, j5, j6]) (st' := [vI (v4 + 4), vR E0, vI (Z.2 ((v4 + 3)).toNat), vI (Z.2 ((v4 + 2)).toNat), vI (Z.2 ((v4 + 1)).toNat), vR 165, vI z_4]) (dg dc332_1 31 rfl) rfl rfl ?_
  refine ex_ialdS (dg dc332_1 32 rfl) hZ hf (fun _ hf => ?_)
  refine ex_pu (ls' := [vR E0, vR 0, vR 165, vR 181, vI v4, j5, j6]) (st' := [vR E0, vI (Z.2 ((v4 + 4)).toNat), vI (Z.2 ((v4 + 3)).toNat), vI (Z.2 ((v4 + 2)).toNat), vI (Z.2 ((v4 + 1)).toNat), vR 165, vI z_4]) (dg dc332_1 33 rfl) rfl rfl ?_
  refine ex_pu (ls' := [vR E0, vR 0, vR 165, vR 181, vI v4, j5, j6]) (st' := [vI v4, vR E0, vI (Z.2 ((v4 + 4)).toNat), vI (Z.2 ((v4 + 3)).toNat), vI (Z.2 ((v4 + 2)).toNat), vI (Z.2 ((v4 + 1)).toNat), vR 165, vI z_4]) (dg dc332_1 34 rfl) rfl rfl ?_
  refine ex_pu (ls' := [vR E0, vR 0, vR 165, vR 181, vI v4, j5, j6]) (st' := [vI 5, vI v4, vR E0, vI (Z.2 ((v4 + 4)).toNat), vI (Z.2 ((v4 + 3)).toNat), vI (Z.2 ((v4 + 2)).toNat), vI (Z.2 ((v4 + 1)).toNat), vR 165, vI z_4]) (dg dc332_1 35 rfl) rfl rfl ?_
  refine ex_pu (ls' := [vR E0, vR 0, vR 165, vR 181, vI v4, j5, j6]) (st' := [vI (v4 + 5), vR E0, vI (Z.2 ((v4 + 4)).toNat), vI (Z.2 ((v4 + 3)).toNat), vI (Z.2 ((v4 + 2)).toNat), vI (Z.2 ((v4 + 1)).toNat), vR 165, vI z_4]) (dg dc332_1 36 rfl) rfl rfl ?_
  refine ex_ialdS (dg dc332_1 37 rfl) hZ hf (fun _ hf => ?_)
  refine ex_cI (vs := [vR 165, vI (Z.2 ((v4 + 1)).toNat), vI (Z.2 ((v4 + 2)).toNat), vI (Z.2 ((v4 + 3)).toNat), vI (Z.2 ((v4 + 4)).toNat), vI (Z.2 ((v4 + 5)).toNat)]) (st' := [vI z_4]) (F := (mo_feed (Z.2 ((v4 + 1)).toNat) (Z.2 ((v4 + 2)).toNat) (Z.2 ((v4 + 3)).toNat) (Z.2 ((v4 + 4)).toNat) (Z.2 ((v4 + 5)).toNat) M_3)) (Or.inr (Or.inl ⟨rfl, (dg dc332_1 38 rfl)⟩)) rfl rfl (rk1 (LOC.st (Nat.le_of_ble_eq_true rfl) rfl) rfl) rfl (fun _ r9 => mo_feed_ok (Z := Z) (d := e9) (by omega)  r9) hf (fun z_7 M_6 he_5 hf => ?_)
  refine ex_icmp (t := 2318) (dg dc332_1 39 rfl) rfl hf (fun _ hf => ?_) (fun _ hf => ?_)
  · refine ex_pu (ls' := [vR E0, vR 0, vR 165, vR 181, vI (v4 + 6), j5, j6]) (st' := []) (dg dc332_34 18 rfl) rfl rfl ?_
    refine ex_goto (t := 23) (dg dc332_34 19 rfl) rfl rfl ?_
    exact kb (v4 + 6) M_6 _ _ hf
  · refine ex_pu (ls' := [vR E0, vR 0, vR 165, vR 181, vI v4, j5, j6]) (st' := [vI 0]) (dg dc332_2 0 rfl) rfl rfl ?_
    exact ex_ire (dg dc332_2 1 rfl) rfl hf
def drv_main_J281 (Z : Nat × (Nat → Int))  (Kb : Int → MM → OR) (v4 : Int) (M : MM) : OR :=
  (bif inB (v4 + 1) Z.1 then (bI (gh_end (Z.2 ((v4 + 1)).toNat) M) fun z_11 M_10 => (bif inB (v4 + 1) Z.1 then (bI (mo_end (Z.2 ((v4 + 1)).toNat) M_10) fun z_14 M_13 => (bif cmpB .eq z_11 z_14 then (Kb (v4 + 6) M_13) else some (rI 0, M_13))) else none)) else none)
set_option maxRecDepth 4000 in
theorem drv_main_J281_ok {Z : Nat × (Nat → Int)} {d : Nat} (hd : 52 ≤ d) (hZ : Z.1 < 2147483648)  {Kb : Int → MM → OR} {res : AR × MM} (kb : ∀ (x4 : Int) (M : MM) (j5 j6 : AV), Kb x4 M = some res → EX Z d 332 23 [vR E0, vR 0, vR 165, vR 181, vI x4, j5, j6] [] M res) : ∀ (v4 : Int) (M : MM) (j5 j6 : AV), drv_main_J281 Z  Kb v4 M = some res → EX Z d 332 281 [vR E0, vR 0, vR 165, vR 181, vI v4, j5, j6] [] M res := by
  obtain ⟨e9, rfl⟩ : ∃ e9, d = e9 + 1 := ⟨d - 1, by omega⟩
  intro v4 M j5 j6 hf
  unfold drv_main_J281 at hf
  refine ex_pu (ls' := [vR E0, vR 0, vR 165, vR 181, vI v4, j5, j6]) (st' := [vR 0]) (dg dc332_2 2 rfl) rfl rfl ?_
  refine ex_pu (ls' := [vR E0, vR 0, vR 165, vR 181, vI v4, j5, j6]) (st' := [vR E0, vR 0]) (dg dc332_2 3 rfl) rfl rfl ?_
  refine ex_pu (ls' := [vR E0, vR 0, vR 165, vR 181, vI v4, j5, j6]) (st' := [vI v4, vR E0, vR 0]) (dg dc332_2 4 rfl) rfl rfl ?_
  refine ex_pu (ls' := [vR E0, vR 0, vR 165, vR 181, vI v4, j5, j6]) (st' := [vI 1, vI v4, vR E0, vR 0]) (dg dc332_2 5 rfl) rfl rfl ?_
  refine ex_pu (ls' := [vR E0, vR 0, vR 165, vR 181, vI v4, j5, j6]) (st' := [vI (v4 + 1), vR E0, vR 0]) (dg dc332_2 6 rfl) rfl rfl ?_
  refine ex_ialdS (dg dc332_2 7 rfl) hZ hf (fun _ hf => ?_)
  refine ex_cI (vs := [vR 0, vI (Z.2 ((v4 + 1)).toNat)]) (st' := []) (F := (gh_end (Z.2 ((v4 + 1)).toNat) M)) (Or.inr (Or.inl ⟨rfl, (dg dc332_2 8 rfl)⟩)) rfl rfl (rk1 (LOC.st (Nat.le_of_ble_eq_true rfl) rfl) rfl) rfl (fun _ r9 => gh_end_ok (Z := Z) (d := e9) (by omega)  r9) hf (fun z_11 M_10 he_9 hf => ?_)
  refine ex_pu (ls' := [vR E0, vR 0, vR 165, vR 181, vI v4, j5, j6]) (st' := [vR 165, vI z_11]) (dg dc332_2 9 rfl) rfl rfl ?_
  refine ex_pu (ls' := [vR E0, vR 0, vR 165, vR 181, vI v4, j5, j6]) (st' := [vR E0, vR 165, vI z_11]) (dg dc332_2 10 rfl) rfl rfl ?_
  refine ex_pu (ls' := [vR E0, vR 0, vR 165, vR 181, vI v4, j5, j6]) (st' := [vI v4, vR E0, vR 165, vI z_11]) (dg dc332_2 11 rfl) rfl rfl ?_
  refine ex_pu (ls' := [vR E0, vR 0, vR 165, vR 181, vI v4, j5, j6]) (st' := [vI 1, vI v4, vR E0, vR 165, vI z_11]) (dg dc332_2 12 rfl) rfl rfl ?_
  refine ex_pu (ls' := [vR E0, vR 0, vR 165, vR 181, vI v4, j5, j6]) (st' := [vI (v4 + 1), vR E0, vR 165, vI z_11]) (dg dc332_2 13 rfl) rfl rfl ?_
  refine ex_ialdS (dg dc332_2 14 rfl) hZ hf (fun _ hf => ?_)
  refine ex_cI (vs := [vR 165, vI (Z.2 ((v4 + 1)).toNat)]) (st' := [vI z_11]) (F := (mo_end (Z.2 ((v4 + 1)).toNat) M_10)) (Or.inr (Or.inl ⟨rfl, (dg dc332_2 15 rfl)⟩)) rfl rfl (rk1 (LOC.st (Nat.le_of_ble_eq_true rfl) rfl) rfl) rfl (fun _ r9 => mo_end_ok (Z := Z) (d := e9) (by omega)  r9) hf (fun z_14 M_13 he_12 hf => ?_)
  refine ex_icmp (t := 2318) (dg dc332_2 16 rfl) rfl hf (fun _ hf => ?_) (fun _ hf => ?_)
  · refine ex_pu (ls' := [vR E0, vR 0, vR 165, vR 181, vI (v4 + 6), j5, j6]) (st' := []) (dg dc332_34 18 rfl) rfl rfl ?_
    refine ex_goto (t := 23) (dg dc332_34 19 rfl) rfl rfl ?_
    exact kb (v4 + 6) M_13 _ _ hf
  · refine ex_pu (ls' := [vR E0, vR 0, vR 165, vR 181, vI v4, j5, j6]) (st' := [vI 0]) (dg dc332_2 17 rfl) rfl rfl ?_
    exact ex_ire (dg dc332_2 18 rfl) rfl hf
def drv_main_J306 (Z : Nat × (Nat → Int))  (Kb : Int → MM → OR) (v4 : Int) (M : MM) : OR :=
  (bI (drv_tale  M) fun z_18 M_17 => (bI (mo_tale  M_17) fun z_21 M_20 => (bI (mo_thrown  M_20) fun z_24 M_23 => (bif cmpB .eq z_24 z_18 then (bif cmpB .ne z_18 0 then (Kb (v4 + 6) M_23) else (bif inB 0 1 then (bif cmpB .eq (lCmp (M_23 181 0) (w32 z_21)) 0 then (Kb (v4 + 6) M_23) else some (rI 0, M_23)) else none)) else some (rI 0, M_23)))))
set_option maxRecDepth 4000 in
theorem drv_main_J306_ok {Z : Nat × (Nat → Int)} {d : Nat} (hd : 52 ≤ d) (hZ : Z.1 < 2147483648)  {Kb : Int → MM → OR} {res : AR × MM} (kb : ∀ (x4 : Int) (M : MM) (j5 j6 : AV), Kb x4 M = some res → EX Z d 332 23 [vR E0, vR 0, vR 165, vR 181, vI x4, j5, j6] [] M res) : ∀ (v4 : Int) (M : MM) (j5 j6 : AV), drv_main_J306 Z  Kb v4 M = some res → EX Z d 332 306 [vR E0, vR 0, vR 165, vR 181, vI v4, j5, j6] [] M res := by
  obtain ⟨e9, rfl⟩ : ∃ e9, d = e9 + 1 := ⟨d - 1, by omega⟩
  intro v4 M j5 j6 hf
  unfold drv_main_J306 at hf
  refine ex_pu (ls' := [vR E0, vR 0, vR 165, vR 181, vI v4, j5, j6]) (st' := [vR 0]) (dg dc332_2 19 rfl) rfl rfl ?_
  refine ex_pu (ls' := [vR E0, vR 0, vR 165, vR 181, vI v4, j5, j6]) (st' := [vR 181, vR 0]) (dg dc332_2 20 rfl) rfl rfl ?_
  refine ex_cI (vs := [vR 0, vR 181]) (st' := []) (F := (drv_tale  M)) (Or.inl ⟨rfl, (dg dc332_2 21 rfl)⟩) rfl rfl (Or.inl rfl) rfl (fun _ r9 => drv_tale_ok (Z := Z) (d := e9) (by omega)  r9) hf (fun z_18 M_17 he_16 hf => ?_)
  refine ex_pu (ls' := [vR E0, vR 0, vR 165, vR 181, vI v4, vI z_18, j6]) (st' := []) (dg dc332_2 22 rfl) rfl rfl ?_
  refine ex_pu (ls' := [vR E0, vR 0, vR 165, vR 181, vI v4, vI z_18, j6]) (st' := [vR 165]) (dg dc332_2 23 rfl) rfl rfl ?_
  refine ex_cI (vs := [vR 165]) (st' := []) (F := (mo_tale  M_17)) (Or.inr (Or.inl ⟨rfl, (dg dc332_2 24 rfl)⟩)) rfl rfl (rk1 (LOC.st (Nat.le_of_ble_eq_true rfl) rfl) rfl) rfl (fun _ r9 => mo_tale_ok (Z := Z) (d := e9) (by omega)  r9) hf (fun z_21 M_20 he_19 hf => ?_)
  refine ex_pu (ls' := [vR E0, vR 0, vR 165, vR 181, vI v4, vI z_18, vI z_21]) (st' := []) (dg dc332_2 25 rfl) rfl rfl ?_
  refine ex_pu (ls' := [vR E0, vR 0, vR 165, vR 181, vI v4, vI z_18, vI z_21]) (st' := [vR 165]) (dg dc332_2 26 rfl) rfl rfl ?_
  refine ex_cI (vs := [vR 165]) (st' := []) (F := (mo_thrown  M_20)) (Or.inr (Or.inl ⟨rfl, (dg dc332_2 27 rfl)⟩)) rfl rfl (rk1 (LOC.st (Nat.le_of_ble_eq_true rfl) rfl) rfl) rfl (fun _ r9 => mo_thrown_ok (Z := Z) (d := e9) (by omega)  r9) hf (fun z_24 M_23 he_22 hf => ?_)
  refine ex_pu (ls' := [vR E0, vR 0, vR 165, vR 181, vI v4, vI z_18, vI z_21]) (st' := [vI z_18, vI z_24]) (dg dc332_2 28 rfl) rfl rfl ?_
  refine ex_icmp (t := 330) (dg dc332_2 29 rfl) rfl hf (fun _ hf => ?_) (fun _ hf => ?_)
  · refine ex_pu (ls' := [vR E0, vR 0, vR 165, vR 181, vI v4, vI z_18, vI z_21]) (st' := [vI z_18]) (dg dc332_2 32 rfl) rfl rfl ?_
    refine ex_if (t := 347) (dg dc332_2 33 rfl) rfl hf (fun _ hf => ?_) (fun _ hf => ?_)
    · refine ex_goto (t := 2318) (dg dc332_3 3 rfl) rfl rfl ?_
      refine ex_pu (ls' := [vR E0, vR 0, vR 165, vR 181, vI (v4 + 6), vI z_18, vI z_21]) (st' := []) (dg dc332_34 18 rfl) rfl rfl ?_
      refine ex_goto (t := 23) (dg dc332_34 19 rfl) rfl rfl ?_
      exact kb (v4 + 6) M_23 _ _ hf
    · refine ex_pu (ls' := [vR E0, vR 0, vR 165, vR 181, vI v4, vI z_18, vI z_21]) (st' := [vR 181]) (dg dc332_2 34 rfl) rfl rfl ?_
      refine ex_pu (ls' := [vR E0, vR 0, vR 165, vR 181, vI v4, vI z_18, vI z_21]) (st' := [vI 0, vR 181]) (dg dc332_2 35 rfl) rfl rfl ?_
      refine ex_lald (dg dc332_2 36 rfl) (LOC.st (Nat.le_of_ble_eq_true rfl) rfl) rfl hf (fun _ hf => ?_)
      refine ex_pu (ls' := [vR E0, vR 0, vR 165, vR 181, vI v4, vI z_18, vI z_21]) (st' := [vI z_21, vJ (M_23 181 0)]) (dg dc332_2 37 rfl) rfl rfl ?_
      refine ex_pu (ls' := [vR E0, vR 0, vR 165, vR 181, vI v4, vI z_18, vI z_21]) (st' := [vJ (w32 z_21), vJ (M_23 181 0)]) (dg dc332_2 38 rfl) rfl rfl ?_
      refine ex_pu (ls' := [vR E0, vR 0, vR 165, vR 181, vI v4, vI z_18, vI z_21]) (st' := [vI (lCmp (M_23 181 0) (w32 z_21))]) (dg dc332_2 39 rfl) rfl rfl ?_
      refine ex_if (t := 347) (dg dc332_3 0 rfl) rfl hf (fun _ hf => ?_) (fun _ hf => ?_)
      · refine ex_goto (t := 2318) (dg dc332_3 3 rfl) rfl rfl ?_
        refine ex_pu (ls' := [vR E0, vR 0, vR 165, vR 181, vI (v4 + 6), vI z_18, vI z_21]) (st' := []) (dg dc332_34 18 rfl) rfl rfl ?_
        refine ex_goto (t := 23) (dg dc332_34 19 rfl) rfl rfl ?_
        exact kb (v4 + 6) M_23 _ _ hf
      · refine ex_pu (ls' := [vR E0, vR 0, vR 165, vR 181, vI v4, vI z_18, vI z_21]) (st' := [vI 0]) (dg dc332_3 1 rfl) rfl rfl ?_
        exact ex_ire (dg dc332_3 2 rfl) rfl hf
  · refine ex_pu (ls' := [vR E0, vR 0, vR 165, vR 181, vI v4, vI z_18, vI z_21]) (st' := [vI 0]) (dg dc332_2 30 rfl) rfl rfl ?_
    exact ex_ire (dg dc332_2 31 rfl) rfl hf
def drv_main_J350 (Z : Nat × (Nat → Int))  (Kb : Int → MM → OR) (v4 : Int) (M : MM) : OR :=
  (bI (drv_law  M) fun z_28 M_27 => (bI (mo_law  M_27) fun z_31 M_30 => (bI (mo_thrown  M_30) fun z_34 M_33 => (bif cmpB .eq z_34 z_28 then (bif cmpB .ne z_28 0 then (Kb (v4 + 6) M_33) else (bif inB 0 1 then (bif cmpB .eq (lCmp (M_33 181 0) (w32 z_31)) 0 then (Kb (v4 + 6) M_33) else some (rI 0, M_33)) else none)) else some (rI 0, M_33)))))
set_option maxRecDepth 4000 in
theorem drv_main_J350_ok {Z : Nat × (Nat → Int)} {d : Nat} (hd : 52 ≤ d) (hZ : Z.1 < 2147483648)  {Kb : Int → MM → OR} {res : AR × MM} (kb : ∀ (x4 : Int) (M : MM) (j5 j6 : AV), Kb x4 M = some res → EX Z d 332 23 [vR E0, vR 0, vR 165, vR 181, vI x4, j5, j6] [] M res) : ∀ (v4 : Int) (M : MM) (j5 j6 : AV), drv_main_J350 Z  Kb v4 M = some res → EX Z d 332 350 [vR E0, vR 0, vR 165, vR 181, vI v4, j5, j6] [] M res := by
  obtain ⟨e9, rfl⟩ : ∃ e9, d = e9 + 1 := ⟨d - 1, by omega⟩
  intro v4 M j5 j6 hf
  unfold drv_main_J350 at hf
  refine ex_pu (ls' := [vR E0, vR 0, vR 165, vR 181, vI v4, j5, j6]) (st' := [vR 0]) (dg dc332_3 4 rfl) rfl rfl ?_
  refine ex_pu (ls' := [vR E0, vR 0, vR 165, vR 181, vI v4, j5, j6]) (st' := [vR 181, vR 0]) (dg dc332_3 5 rfl) rfl rfl ?_
  refine ex_cI (vs := [vR 0, vR 181]) (st' := []) (F := (drv_law  M)) (Or.inl ⟨rfl, (dg dc332_3 6 rfl)⟩) rfl rfl (Or.inl rfl) rfl (fun _ r9 => drv_law_ok (Z := Z) (d := e9) (by omega)  r9) hf (fun z_28 M_27 he_26 hf => ?_)
  refine ex_pu (ls' := [vR E0, vR 0, vR 165, vR 181, vI v4, vI z_28, j6]) (st' := []) (dg dc332_3 7 rfl) rfl rfl ?_
  refine ex_pu (ls' := [vR E0, vR 0, vR 165, vR 181, vI v4, vI z_28, j6]) (st' := [vR 165]) (dg dc332_3 8 rfl) rfl rfl ?_
  refine ex_cI (vs := [vR 165]) (st' := []) (F := (mo_law  M_27)) (Or.inr (Or.inl ⟨rfl, (dg dc332_3 9 rfl)⟩)) rfl rfl (rk1 (LOC.st (Nat.le_of_ble_eq_true rfl) rfl) rfl) rfl (fun _ r9 => mo_law_ok (Z := Z) (d := e9) (by omega)  r9) hf (fun z_31 M_30 he_29 hf => ?_)
  refine ex_pu (ls' := [vR E0, vR 0, vR 165, vR 181, vI v4, vI z_28, vI z_31]) (st' := []) (dg dc332_3 10 rfl) rfl rfl ?_
  refine ex_pu (ls' := [vR E0, vR 0, vR 165, vR 181, vI v4, vI z_28, vI z_31]) (st' := [vR 165]) (dg dc332_3 11 rfl) rfl rfl ?_
  refine ex_cI (vs := [vR 165]) (st' := []) (F := (mo_thrown  M_30)) (Or.inr (Or.inl ⟨rfl, (dg dc332_3 12 rfl)⟩)) rfl rfl (rk1 (LOC.st (Nat.le_of_ble_eq_true rfl) rfl) rfl) rfl (fun _ r9 => mo_thrown_ok (Z := Z) (d := e9) (by omega)  r9) hf (fun z_34 M_33 he_32 hf => ?_)
  refine ex_pu (ls' := [vR E0, vR 0, vR 165, vR 181, vI v4, vI z_28, vI z_31]) (st' := [vI z_28, vI z_34]) (dg dc332_3 13 rfl) rfl rfl ?_
  refine ex_icmp (t := 374) (dg dc332_3 14 rfl) rfl hf (fun _ hf => ?_) (fun _ hf => ?_)
  · refine ex_pu (ls' := [vR E0, vR 0, vR 165, vR 181, vI v4, vI z_28, vI z_31]) (st' := [vI z_28]) (dg dc332_3 17 rfl) rfl rfl ?_
    refine ex_if (t := 391) (dg dc332_3 18 rfl) rfl hf (fun _ hf => ?_) (fun _ hf => ?_)
    · refine ex_goto (t := 2318) (dg dc332_3 28 rfl) rfl rfl ?_
      refine ex_pu (ls' := [vR E0, vR 0, vR 165, vR 181, vI (v4 + 6), vI z_28, vI z_31]) (st' := []) (dg dc332_34 18 rfl) rfl rfl ?_
      refine ex_goto (t := 23) (dg dc332_34 19 rfl) rfl rfl ?_
      exact kb (v4 + 6) M_33 _ _ hf
    · refine ex_pu (ls' := [vR E0, vR 0, vR 165, vR 181, vI v4, vI z_28, vI z_31]) (st' := [vR 181]) (dg dc332_3 19 rfl) rfl rfl ?_
      refine ex_pu (ls' := [vR E0, vR 0, vR 165, vR 181, vI v4, vI z_28, vI z_31]) (st' := [vI 0, vR 181]) (dg dc332_3 20 rfl) rfl rfl ?_
      refine ex_lald (dg dc332_3 21 rfl) (LOC.st (Nat.le_of_ble_eq_true rfl) rfl) rfl hf (fun _ hf => ?_)
      refine ex_pu (ls' := [vR E0, vR 0, vR 165, vR 181, vI v4, vI z_28, vI z_31]) (st' := [vI z_31, vJ (M_33 181 0)]) (dg dc332_3 22 rfl) rfl rfl ?_
      refine ex_pu (ls' := [vR E0, vR 0, vR 165, vR 181, vI v4, vI z_28, vI z_31]) (st' := [vJ (w32 z_31), vJ (M_33 181 0)]) (dg dc332_3 23 rfl) rfl rfl ?_
      refine ex_pu (ls' := [vR E0, vR 0, vR 165, vR 181, vI v4, vI z_28, vI z_31]) (st' := [vI (lCmp (M_33 181 0) (w32 z_31))]) (dg dc332_3 24 rfl) rfl rfl ?_
      refine ex_if (t := 391) (dg dc332_3 25 rfl) rfl hf (fun _ hf => ?_) (fun _ hf => ?_)
      · refine ex_goto (t := 2318) (dg dc332_3 28 rfl) rfl rfl ?_
        refine ex_pu (ls' := [vR E0, vR 0, vR 165, vR 181, vI (v4 + 6), vI z_28, vI z_31]) (st' := []) (dg dc332_34 18 rfl) rfl rfl ?_
        refine ex_goto (t := 23) (dg dc332_34 19 rfl) rfl rfl ?_
        exact kb (v4 + 6) M_33 _ _ hf
      · refine ex_pu (ls' := [vR E0, vR 0, vR 165, vR 181, vI v4, vI z_28, vI z_31]) (st' := [vI 0]) (dg dc332_3 26 rfl) rfl rfl ?_
        exact ex_ire (dg dc332_3 27 rfl) rfl hf
  · refine ex_pu (ls' := [vR E0, vR 0, vR 165, vR 181, vI v4, vI z_28, vI z_31]) (st' := [vI 0]) (dg dc332_3 15 rfl) rfl rfl ?_
    exact ex_ire (dg dc332_3 16 rfl) rfl hf
def drv_main_J394 (Z : Nat × (Nat → Int))  (Kb : Int → MM → OR) (v4 : Int) (M : MM) : OR :=
  (bI (gh_fault  M) fun z_38 M_37 => (bI (mo_fault  M_37) fun z_41 M_40 => (bif cmpB .eq z_38 z_41 then (Kb (v4 + 6) M_40) else some (rI 0, M_40))))
set_option maxRecDepth 4000 in
theorem drv_main_J394_ok {Z : Nat × (Nat → Int)} {d : Nat} (hd : 52 ≤ d) (hZ : Z.1 < 2147483648)  {Kb : Int → MM → OR} {res : AR × MM} (kb : ∀ (x4 : Int) (M : MM) (j5 j6 : AV), Kb x4 M = some res → EX Z d 332 23 [vR E0, vR 0, vR 165, vR 181, vI x4, j5, j6] [] M res) : ∀ (v4 : Int) (M : MM) (j5 j6 : AV), drv_main_J394 Z  Kb v4 M = some res → EX Z d 332 394 [vR E0, vR 0, vR 165, vR 181, vI v4, j5, j6] [] M res := by
  obtain ⟨e9, rfl⟩ : ∃ e9, d = e9 + 1 := ⟨d - 1, by omega⟩
  intro v4 M j5 j6 hf
  unfold drv_main_J394 at hf
  refine ex_pu (ls' := [vR E0, vR 0, vR 165, vR 181, vI v4, j5, j6]) (st' := [vR 0]) (dg dc332_3 29 rfl) rfl rfl ?_
  refine ex_cI (vs := [vR 0]) (st' := []) (F := (gh_fault  M)) (Or.inr (Or.inl ⟨rfl, (dg dc332_3 30 rfl)⟩)) rfl rfl (rk1 (LOC.st (Nat.le_of_ble_eq_true rfl) rfl) rfl) rfl (fun _ r9 => gh_fault_ok (Z := Z) (d := e9) (by omega)  r9) hf (fun z_38 M_37 he_36 hf => ?_)
  refine ex_pu (ls' := [vR E0, vR 0, vR 165, vR 181, vI v4, j5, j6]) (st' := [vR 165, vI z_38]) (dg dc332_3 31 rfl) rfl rfl ?_
  refine ex_cI (vs := [vR 165]) (st' := [vI z_38]) (F := (mo_fault  M_37)) (Or.inr (Or.inl ⟨rfl, (dg dc332_3 32 rfl)⟩)) rfl rfl (rk1 (LOC.st (Nat.le_of_ble_eq_true rfl) rfl) rfl) rfl (fun _ r9 => mo_fault_ok (Z := Z) (d := e9) (by omega)  r9) hf (fun z_41 M_40 he_39 hf => ?_)
  refine ex_icmp (t := 2318) (dg dc332_3 33 rfl) rfl hf (fun _ hf => ?_) (fun _ hf => ?_)
  · refine ex_pu (ls' := [vR E0, vR 0, vR 165, vR 181, vI (v4 + 6), j5, j6]) (st' := []) (dg dc332_34 18 rfl) rfl rfl ?_
    refine ex_goto (t := 23) (dg dc332_34 19 rfl) rfl rfl ?_
    exact kb (v4 + 6) M_40 _ _ hf
  · refine ex_pu (ls' := [vR E0, vR 0, vR 165, vR 181, vI v4, j5, j6]) (st' := [vI 0]) (dg dc332_3 34 rfl) rfl rfl ?_
    exact ex_ire (dg dc332_3 35 rfl) rfl hf
def drv_main_J407 (Z : Nat × (Nat → Int))  (Kb : Int → MM → OR) (v4 : Int) (M : MM) : OR :=
  (bif inB (v4 + 1) Z.1 then (bif inB (v4 + 2) Z.1 then (bI (drv_place (Z.2 ((v4 + 1)).toNat) (Z.2 ((v4 + 2)).toNat) M) fun z_45 M_44 => (bif inB (v4 + 1) Z.1 then (bif inB (v4 + 2) Z.1 then (bI (mo_place (Z.2 ((v4 + 1)).toNat) (Z.2 ((v4 + 2)).toNat) M_44) fun z_48 M_47 => (bI (mo_thrown  M_47) fun z_51 M_50 => (bif cmpB .eq z_51 z_45 then (bif cmpB .ne z_45 0 then (Kb (v4 + 6) M_50) else (bif inB 0 1 then (bif cmpB .eq (lCmp (M_50 181 0) (w32 z_48)) 0 then (Kb (v4 + 6) M_50) else some (rI 0, M_50)) else none)) else some (rI 0, M_50)))) else none) else none)) else none) else none)
set_option maxRecDepth 4000 in
theorem drv_main_J407_ok {Z : Nat × (Nat → Int)} {d : Nat} (hd : 52 ≤ d) (hZ : Z.1 < 2147483648)  {Kb : Int → MM → OR} {res : AR × MM} (kb : ∀ (x4 : Int) (M : MM) (j5 j6 : AV), Kb x4 M = some res → EX Z d 332 23 [vR E0, vR 0, vR 165, vR 181, vI x4, j5, j6] [] M res) : ∀ (v4 : Int) (M : MM) (j5 j6 : AV), drv_main_J407 Z  Kb v4 M = some res → EX Z d 332 407 [vR E0, vR 0, vR 165, vR 181, vI v4, j5, j6] [] M res := by
  obtain ⟨e9, rfl⟩ : ∃ e9, d = e9 + 1 := ⟨d - 1, by omega⟩
  intro v4 M j5 j6 hf
  unfold drv_main_J407 at hf
  refine ex_pu (ls' := [vR E0, vR 0, vR 165, vR 181, vI v4, j5, j6]) (st' := [vR 0]) (dg dc332_3 36 rfl) rfl rfl ?_
  refine ex_pu (ls' := [vR E0, vR 0, vR 165, vR 181, vI v4, j5, j6]) (st' := [vR E0, vR 0]) (dg dc332_3 37 rfl) rfl rfl ?_
  refine ex_pu (ls' := [vR E0, vR 0, vR 165, vR 181, vI v4, j5, j6]) (st' := [vI v4, vR E0, vR 0]) (dg dc332_3 38 rfl) rfl rfl ?_
  refine ex_pu (ls' := [vR E0, vR 0, vR 165, vR 181, vI v4, j5, j6]) (st' := [vI 1, vI v4, vR E0, vR 0]) (dg dc332_3 39 rfl) rfl rfl ?_
  refine ex_pu (ls' := [vR E0, vR 0, vR 165, vR 181, vI v4, j5, j6]) (st' := [vI (v4 + 1), vR E0, vR 0]) (dg dc332_4 0 rfl) rfl rfl ?_
  refine ex_ialdS (dg dc332_4 1 rfl) hZ hf (fun _ hf => ?_)
  refine ex_pu (ls' := [vR E0, vR 0, vR 165, vR 181, vI v4, j5, j6]) (st' := [vR E0, vI (Z.2 ((v4 + 1)).toNat), vR 0]) (dg dc332_4 2 rfl) rfl rfl ?_
  refine ex_pu (ls' := [vR E0, vR 0, vR 165, vR 181, vI v4, j5, j6]) (st' := [vI v4, vR E0, vI (Z.2 ((v4 + 1)).toNat), vR 0]) (dg dc332_4 3 rfl) rfl rfl ?_
  refine ex_pu (ls' := [vR E0, vR 0, vR 165, vR 181, vI v4, j5, j6]) (st' := [vI 2, vI v4, vR E0, vI (Z.2 ((v4 + 1)).toNat), vR 0]) (dg dc332_4 4 rfl) rfl rfl ?_
  refine ex_pu (ls' := [vR E0, vR 0, vR 165, vR 181, vI v4, j5, j6]) (st' := [vI (v4 + 2), vR E0, vI (Z.2 ((v4 + 1)).toNat), vR 0]) (dg dc332_4 5 rfl) rfl rfl ?_
  refine ex_ialdS (dg dc332_4 6 rfl) hZ hf (fun _ hf => ?_)
  refine ex_pu (ls' := [vR E0, vR 0, vR 165, vR 181, vI v4, j5, j6]) (st' := [vR 181, vI (Z.2 ((v4 + 2)).toNat), vI (Z.2 ((v4 + 1)).toNat), vR 0]) (dg dc332_4 7 rfl) rfl rfl ?_
  refine ex_cI (vs := [vR 0, vI (Z.2 ((v4 + 1)).toNat), vI (Z.2 ((v4 + 2)).toNat), vR 181]) (st' := []) (F := (drv_place (Z.2 ((v4 + 1)).toNat) (Z.2 ((v4 + 2)).toNat) M)) (Or.inl ⟨rfl, (dg dc332_4 8 rfl)⟩) rfl rfl (Or.inl rfl) rfl (fun _ r9 => drv_place_ok (Z := Z) (d := e9) (by omega)  r9) hf (fun z_45 M_44 he_43 hf => ?_)
  refine ex_pu (ls' := [vR E0, vR 0, vR 165, vR 181, vI v4, vI z_45, j6]) (st' := []) (dg dc332_4 9 rfl) rfl rfl ?_
  refine ex_pu (ls' := [vR E0, vR 0, vR 165, vR 181, vI v4, vI z_45, j6]) (st' := [vR 165]) (dg dc332_4 10 rfl) rfl rfl ?_
  refine ex_pu (ls' := [vR E0, vR 0, vR 165, vR 181, vI v4, vI z_45, j6]) (st' := [vR E0, vR 165]) (dg dc332_4 11 rfl) rfl rfl ?_
  refine ex_pu (ls' := [vR E0, vR 0, vR 165, vR 181, vI v4, vI z_45, j6]) (st' := [vI v4, vR E0, vR 165]) (dg dc332_4 12 rfl) rfl rfl ?_
  refine ex_pu (ls' := [vR E0, vR 0, vR 165, vR 181, vI v4, vI z_45, j6]) (st' := [vI 1, vI v4, vR E0, vR 165]) (dg dc332_4 13 rfl) rfl rfl ?_
  refine ex_pu (ls' := [vR E0, vR 0, vR 165, vR 181, vI v4, vI z_45, j6]) (st' := [vI (v4 + 1), vR E0, vR 165]) (dg dc332_4 14 rfl) rfl rfl ?_
  refine ex_ialdS (dg dc332_4 15 rfl) hZ hf (fun _ hf => ?_)
  refine ex_pu (ls' := [vR E0, vR 0, vR 165, vR 181, vI v4, vI z_45, j6]) (st' := [vR E0, vI (Z.2 ((v4 + 1)).toNat), vR 165]) (dg dc332_4 16 rfl) rfl rfl ?_
  refine ex_pu (ls' := [vR E0, vR 0, vR 165, vR 181, vI v4, vI z_45, j6]) (st' := [vI v4, vR E0, vI (Z.2 ((v4 + 1)).toNat), vR 165]) (dg dc332_4 17 rfl) rfl rfl ?_
  refine ex_pu (ls' := [vR E0, vR 0, vR 165, vR 181, vI v4, vI z_45, j6]) (st' := [vI 2, vI v4, vR E0, vI (Z.2 ((v4 + 1)).toNat), vR 165]) (dg dc332_4 18 rfl) rfl rfl ?_
  refine ex_pu (ls' := [vR E0, vR 0, vR 165, vR 181, vI v4, vI z_45, j6]) (st' := [vI (v4 + 2), vR E0, vI (Z.2 ((v4 + 1)).toNat), vR 165]) (dg dc332_4 19 rfl) rfl rfl ?_
  refine ex_ialdS (dg dc332_4 20 rfl) hZ hf (fun _ hf => ?_)
  refine ex_cI (vs := [vR 165, vI (Z.2 ((v4 + 1)).toNat), vI (Z.2 ((v4 + 2)).toNat)]) (st' := []) (F := (mo_place (Z.2 ((v4 + 1)).toNat) (Z.2 ((v4 + 2)).toNat) M_44)) (Or.inr (Or.inl ⟨rfl, (dg dc332_4 21 rfl)⟩)) rfl rfl (rk1 (LOC.st (Nat.le_of_ble_eq_true rfl) rfl) rfl) rfl (fun _ r9 => mo_place_ok (Z := Z) (d := e9) (by omega)  r9) hf (fun z_48 M_47 he_46 hf => ?_)
  refine ex_pu (ls' := [vR E0, vR 0, vR 165, vR 181, vI v4, vI z_45, vI z_48]) (st' := []) (dg dc332_4 22 rfl) rfl rfl ?_
  refine ex_pu (ls' := [vR E0, vR 0, vR 165, vR 181, vI v4, vI z_45, vI z_48]) (st' := [vR 165]) (dg dc332_4 23 rfl) rfl rfl ?_
  refine ex_cI (vs := [vR 165]) (st' := []) (F := (mo_thrown  M_47)) (Or.inr (Or.inl ⟨rfl, (dg dc332_4 24 rfl)⟩)) rfl rfl (rk1 (LOC.st (Nat.le_of_ble_eq_true rfl) rfl) rfl) rfl (fun _ r9 => mo_thrown_ok (Z := Z) (d := e9) (by omega)  r9) hf (fun z_51 M_50 he_49 hf => ?_)
  refine ex_pu (ls' := [vR E0, vR 0, vR 165, vR 181, vI v4, vI z_45, vI z_48]) (st' := [vI z_45, vI z_51]) (dg dc332_4 25 rfl) rfl rfl ?_
  refine ex_icmp (t := 455) (dg dc332_4 26 rfl) rfl hf (fun _ hf => ?_) (fun _ hf => ?_)
  · refine ex_pu (ls' := [vR E0, vR 0, vR 165, vR 181, vI v4, vI z_45, vI z_48]) (st' := [vI z_45]) (dg dc332_4 29 rfl) rfl rfl ?_
    refine ex_if (t := 472) (dg dc332_4 30 rfl) rfl hf (fun _ hf => ?_) (fun _ hf => ?_)
    · refine ex_goto (t := 2318) (dg dc332_5 0 rfl) rfl rfl ?_
      refine ex_pu (ls' := [vR E0, vR 0, vR 165, vR 181, vI (v4 + 6), vI z_45, vI z_48]) (st' := []) (dg dc332_34 18 rfl) rfl rfl ?_
      refine ex_goto (t := 23) (dg dc332_34 19 rfl) rfl rfl ?_
      exact kb (v4 + 6) M_50 _ _ hf
    · refine ex_pu (ls' := [vR E0, vR 0, vR 165, vR 181, vI v4, vI z_45, vI z_48]) (st' := [vR 181]) (dg dc332_4 31 rfl) rfl rfl ?_
      refine ex_pu (ls' := [vR E0, vR 0, vR 165, vR 181, vI v4, vI z_45, vI z_48]) (st' := [vI 0, vR 181]) (dg dc332_4 32 rfl) rfl rfl ?_
      refine ex_lald (dg dc332_4 33 rfl) (LOC.st (Nat.le_of_ble_eq_true rfl) rfl) rfl hf (fun _ hf => ?_)
      refine ex_pu (ls' := [vR E0, vR 0, vR 165, vR 181, vI v4, vI z_45, vI z_48]) (st' := [vI z_48, vJ (M_50 181 0)]) (dg dc332_4 34 rfl) rfl rfl ?_
      refine ex_pu (ls' := [vR E0, vR 0, vR 165, vR 181, vI v4, vI z_45, vI z_48]) (st' := [vJ (w32 z_48), vJ (M_50 181 0)]) (dg dc332_4 35 rfl) rfl rfl ?_
      refine ex_pu (ls' := [vR E0, vR 0, vR 165, vR 181, vI v4, vI z_45, vI z_48]) (st' := [vI (lCmp (M_50 181 0) (w32 z_48))]) (dg dc332_4 36 rfl) rfl rfl ?_
      refine ex_if (t := 472) (dg dc332_4 37 rfl) rfl hf (fun _ hf => ?_) (fun _ hf => ?_)
      · refine ex_goto (t := 2318) (dg dc332_5 0 rfl) rfl rfl ?_
        refine ex_pu (ls' := [vR E0, vR 0, vR 165, vR 181, vI (v4 + 6), vI z_45, vI z_48]) (st' := []) (dg dc332_34 18 rfl) rfl rfl ?_
        refine ex_goto (t := 23) (dg dc332_34 19 rfl) rfl rfl ?_
        exact kb (v4 + 6) M_50 _ _ hf
      · refine ex_pu (ls' := [vR E0, vR 0, vR 165, vR 181, vI v4, vI z_45, vI z_48]) (st' := [vI 0]) (dg dc332_4 38 rfl) rfl rfl ?_
        exact ex_ire (dg dc332_4 39 rfl) rfl hf
  · refine ex_pu (ls' := [vR E0, vR 0, vR 165, vR 181, vI v4, vI z_45, vI z_48]) (st' := [vI 0]) (dg dc332_4 27 rfl) rfl rfl ?_
    exact ex_ire (dg dc332_4 28 rfl) rfl hf
def drv_main_J475 (Z : Nat × (Nat → Int))  (Kb : Int → MM → OR) (v4 : Int) (M : MM) : OR :=
  (bif inB (v4 + 1) Z.1 then (bif inB (v4 + 2) Z.1 then (bI (drv_thing (Z.2 ((v4 + 1)).toNat) (Z.2 ((v4 + 2)).toNat) M) fun z_55 M_54 => (bif inB (v4 + 1) Z.1 then (bif inB (v4 + 2) Z.1 then (bI (mo_thing (Z.2 ((v4 + 1)).toNat) (Z.2 ((v4 + 2)).toNat) M_54) fun z_58 M_57 => (bI (mo_thrown  M_57) fun z_61 M_60 => (bif cmpB .eq z_61 z_55 then (bif cmpB .ne z_55 0 then (Kb (v4 + 6) M_60) else (bif inB 0 1 then (bif cmpB .eq (lCmp (M_60 181 0) (w32 z_58)) 0 then (Kb (v4 + 6) M_60) else some (rI 0, M_60)) else none)) else some (rI 0, M_60)))) else none) else none)) else none) else none)
set_option maxRecDepth 4000 in
theorem drv_main_J475_ok {Z : Nat × (Nat → Int)} {d : Nat} (hd : 52 ≤ d) (hZ : Z.1 < 2147483648)  {Kb : Int → MM → OR} {res : AR × MM} (kb : ∀ (x4 : Int) (M : MM) (j5 j6 : AV), Kb x4 M = some res → EX Z d 332 23 [vR E0, vR 0, vR 165, vR 181, vI x4, j5, j6] [] M res) : ∀ (v4 : Int) (M : MM) (j5 j6 : AV), drv_main_J475 Z  Kb v4 M = some res → EX Z d 332 475 [vR E0, vR 0, vR 165, vR 181, vI v4, j5, j6] [] M res := by
  obtain ⟨e9, rfl⟩ : ∃ e9, d = e9 + 1 := ⟨d - 1, by omega⟩
  intro v4 M j5 j6 hf
  unfold drv_main_J475 at hf
  refine ex_pu (ls' := [vR E0, vR 0, vR 165, vR 181, vI v4, j5, j6]) (st' := [vR 0]) (dg dc332_5 1 rfl) rfl rfl ?_
  refine ex_pu (ls' := [vR E0, vR 0, vR 165, vR 181, vI v4, j5, j6]) (st' := [vR E0, vR 0]) (dg dc332_5 2 rfl) rfl rfl ?_
  refine ex_pu (ls' := [vR E0, vR 0, vR 165, vR 181, vI v4, j5, j6]) (st' := [vI v4, vR E0, vR 0]) (dg dc332_5 3 rfl) rfl rfl ?_
  refine ex_pu (ls' := [vR E0, vR 0, vR 165, vR 181, vI v4, j5, j6]) (st' := [vI 1, vI v4, vR E0, vR 0]) (dg dc332_5 4 rfl) rfl rfl ?_
  refine ex_pu (ls' := [vR E0, vR 0, vR 165, vR 181, vI v4, j5, j6]) (st' := [vI (v4 + 1), vR E0, vR 0]) (dg dc332_5 5 rfl) rfl rfl ?_
  refine ex_ialdS (dg dc332_5 6 rfl) hZ hf (fun _ hf => ?_)
  refine ex_pu (ls' := [vR E0, vR 0, vR 165, vR 181, vI v4, j5, j6]) (st' := [vR E0, vI (Z.2 ((v4 + 1)).toNat), vR 0]) (dg dc332_5 7 rfl) rfl rfl ?_
  refine ex_pu (ls' := [vR E0, vR 0, vR 165, vR 181, vI v4, j5, j6]) (st' := [vI v4, vR E0, vI (Z.2 ((v4 + 1)).toNat), vR 0]) (dg dc332_5 8 rfl) rfl rfl ?_
  refine ex_pu (ls' := [vR E0, vR 0, vR 165, vR 181, vI v4, j5, j6]) (st' := [vI 2, vI v4, vR E0, vI (Z.2 ((v4 + 1)).toNat), vR 0]) (dg dc332_5 9 rfl) rfl rfl ?_
  refine ex_pu (ls' := [vR E0, vR 0, vR 165, vR 181, vI v4, j5, j6]) (st' := [vI (v4 + 2), vR E0, vI (Z.2 ((v4 + 1)).toNat), vR 0]) (dg dc332_5 10 rfl) rfl rfl ?_
  refine ex_ialdS (dg dc332_5 11 rfl) hZ hf (fun _ hf => ?_)
  refine ex_pu (ls' := [vR E0, vR 0, vR 165, vR 181, vI v4, j5, j6]) (st' := [vR 181, vI (Z.2 ((v4 + 2)).toNat), vI (Z.2 ((v4 + 1)).toNat), vR 0]) (dg dc332_5 12 rfl) rfl rfl ?_
  refine ex_cI (vs := [vR 0, vI (Z.2 ((v4 + 1)).toNat), vI (Z.2 ((v4 + 2)).toNat), vR 181]) (st' := []) (F := (drv_thing (Z.2 ((v4 + 1)).toNat) (Z.2 ((v4 + 2)).toNat) M)) (Or.inl ⟨rfl, (dg dc332_5 13 rfl)⟩) rfl rfl (Or.inl rfl) rfl (fun _ r9 => drv_thing_ok (Z := Z) (d := e9) (by omega)  r9) hf (fun z_55 M_54 he_53 hf => ?_)
  refine ex_pu (ls' := [vR E0, vR 0, vR 165, vR 181, vI v4, vI z_55, j6]) (st' := []) (dg dc332_5 14 rfl) rfl rfl ?_
  refine ex_pu (ls' := [vR E0, vR 0, vR 165, vR 181, vI v4, vI z_55, j6]) (st' := [vR 165]) (dg dc332_5 15 rfl) rfl rfl ?_
  refine ex_pu (ls' := [vR E0, vR 0, vR 165, vR 181, vI v4, vI z_55, j6]) (st' := [vR E0, vR 165]) (dg dc332_5 16 rfl) rfl rfl ?_
  refine ex_pu (ls' := [vR E0, vR 0, vR 165, vR 181, vI v4, vI z_55, j6]) (st' := [vI v4, vR E0, vR 165]) (dg dc332_5 17 rfl) rfl rfl ?_
  refine ex_pu (ls' := [vR E0, vR 0, vR 165, vR 181, vI v4, vI z_55, j6]) (st' := [vI 1, vI v4, vR E0, vR 165]) (dg dc332_5 18 rfl) rfl rfl ?_
  refine ex_pu (ls' := [vR E0, vR 0, vR 165, vR 181, vI v4, vI z_55, j6]) (st' := [vI (v4 + 1), vR E0, vR 165]) (dg dc332_5 19 rfl) rfl rfl ?_
  refine ex_ialdS (dg dc332_5 20 rfl) hZ hf (fun _ hf => ?_)
  refine ex_pu (ls' := [vR E0, vR 0, vR 165, vR 181, vI v4, vI z_55, j6]) (st' := [vR E0, vI (Z.2 ((v4 + 1)).toNat), vR 165]) (dg dc332_5 21 rfl) rfl rfl ?_
  refine ex_pu (ls' := [vR E0, vR 0, vR 165, vR 181, vI v4, vI z_55, j6]) (st' := [vI v4, vR E0, vI (Z.2 ((v4 + 1)).toNat), vR 165]) (dg dc332_5 22 rfl) rfl rfl ?_
  refine ex_pu (ls' := [vR E0, vR 0, vR 165, vR 181, vI v4, vI z_55, j6]) (st' := [vI 2, vI v4, vR E0, vI (Z.2 ((v4 + 1)).toNat), vR 165]) (dg dc332_5 23 rfl) rfl rfl ?_
  refine ex_pu (ls' := [vR E0, vR 0, vR 165, vR 181, vI v4, vI z_55, j6]) (st' := [vI (v4 + 2), vR E0, vI (Z.2 ((v4 + 1)).toNat), vR 165]) (dg dc332_5 24 rfl) rfl rfl ?_
  refine ex_ialdS (dg dc332_5 25 rfl) hZ hf (fun _ hf => ?_)
  refine ex_cI (vs := [vR 165, vI (Z.2 ((v4 + 1)).toNat), vI (Z.2 ((v4 + 2)).toNat)]) (st' := []) (F := (mo_thing (Z.2 ((v4 + 1)).toNat) (Z.2 ((v4 + 2)).toNat) M_54)) (Or.inr (Or.inl ⟨rfl, (dg dc332_5 26 rfl)⟩)) rfl rfl (rk1 (LOC.st (Nat.le_of_ble_eq_true rfl) rfl) rfl) rfl (fun _ r9 => mo_thing_ok (Z := Z) (d := e9) (by omega)  r9) hf (fun z_58 M_57 he_56 hf => ?_)
  refine ex_pu (ls' := [vR E0, vR 0, vR 165, vR 181, vI v4, vI z_55, vI z_58]) (st' := []) (dg dc332_5 27 rfl) rfl rfl ?_
  refine ex_pu (ls' := [vR E0, vR 0, vR 165, vR 181, vI v4, vI z_55, vI z_58]) (st' := [vR 165]) (dg dc332_5 28 rfl) rfl rfl ?_
  refine ex_cI (vs := [vR 165]) (st' := []) (F := (mo_thrown  M_57)) (Or.inr (Or.inl ⟨rfl, (dg dc332_5 29 rfl)⟩)) rfl rfl (rk1 (LOC.st (Nat.le_of_ble_eq_true rfl) rfl) rfl) rfl (fun _ r9 => mo_thrown_ok (Z := Z) (d := e9) (by omega)  r9) hf (fun z_61 M_60 he_59 hf => ?_)
  refine ex_pu (ls' := [vR E0, vR 0, vR 165, vR 181, vI v4, vI z_55, vI z_58]) (st' := [vI z_55, vI z_61]) (dg dc332_5 30 rfl) rfl rfl ?_
  refine ex_icmp (t := 523) (dg dc332_5 31 rfl) rfl hf (fun _ hf => ?_) (fun _ hf => ?_)
  · refine ex_pu (ls' := [vR E0, vR 0, vR 165, vR 181, vI v4, vI z_55, vI z_58]) (st' := [vI z_55]) (dg dc332_5 34 rfl) rfl rfl ?_
    refine ex_if (t := 540) (dg dc332_5 35 rfl) rfl hf (fun _ hf => ?_) (fun _ hf => ?_)
    · refine ex_goto (t := 2318) (dg dc332_6 5 rfl) rfl rfl ?_
      refine ex_pu (ls' := [vR E0, vR 0, vR 165, vR 181, vI (v4 + 6), vI z_55, vI z_58]) (st' := []) (dg dc332_34 18 rfl) rfl rfl ?_
      refine ex_goto (t := 23) (dg dc332_34 19 rfl) rfl rfl ?_
      exact kb (v4 + 6) M_60 _ _ hf
    · refine ex_pu (ls' := [vR E0, vR 0, vR 165, vR 181, vI v4, vI z_55, vI z_58]) (st' := [vR 181]) (dg dc332_5 36 rfl) rfl rfl ?_
      refine ex_pu (ls' := [vR E0, vR 0, vR 165, vR 181, vI v4, vI z_55, vI z_58]) (st' := [vI 0, vR 181]) (dg dc332_5 37 rfl) rfl rfl ?_
      refine ex_lald (dg dc332_5 38 rfl) (LOC.st (Nat.le_of_ble_eq_true rfl) rfl) rfl hf (fun _ hf => ?_)
      refine ex_pu (ls' := [vR E0, vR 0, vR 165, vR 181, vI v4, vI z_55, vI z_58]) (st' := [vI z_58, vJ (M_60 181 0)]) (dg dc332_5 39 rfl) rfl rfl ?_
      refine ex_pu (ls' := [vR E0, vR 0, vR 165, vR 181, vI v4, vI z_55, vI z_58]) (st' := [vJ (w32 z_58), vJ (M_60 181 0)]) (dg dc332_6 0 rfl) rfl rfl ?_
      refine ex_pu (ls' := [vR E0, vR 0, vR 165, vR 181, vI v4, vI z_55, vI z_58]) (st' := [vI (lCmp (M_60 181 0) (w32 z_58))]) (dg dc332_6 1 rfl) rfl rfl ?_
      refine ex_if (t := 540) (dg dc332_6 2 rfl) rfl hf (fun _ hf => ?_) (fun _ hf => ?_)
      · refine ex_goto (t := 2318) (dg dc332_6 5 rfl) rfl rfl ?_
        refine ex_pu (ls' := [vR E0, vR 0, vR 165, vR 181, vI (v4 + 6), vI z_55, vI z_58]) (st' := []) (dg dc332_34 18 rfl) rfl rfl ?_
        refine ex_goto (t := 23) (dg dc332_34 19 rfl) rfl rfl ?_
        exact kb (v4 + 6) M_60 _ _ hf
      · refine ex_pu (ls' := [vR E0, vR 0, vR 165, vR 181, vI v4, vI z_55, vI z_58]) (st' := [vI 0]) (dg dc332_6 3 rfl) rfl rfl ?_
        exact ex_ire (dg dc332_6 4 rfl) rfl hf
  · refine ex_pu (ls' := [vR E0, vR 0, vR 165, vR 181, vI v4, vI z_55, vI z_58]) (st' := [vI 0]) (dg dc332_5 32 rfl) rfl rfl ?_
    exact ex_ire (dg dc332_5 33 rfl) rfl hf
def drv_main_J543 (Z : Nat × (Nat → Int))  (Kb : Int → MM → OR) (v4 : Int) (M : MM) : OR :=
  (bif inB (v4 + 1) Z.1 then (bif inB (v4 + 2) Z.1 then (bI (drv_road (Z.2 ((v4 + 1)).toNat) (Z.2 ((v4 + 2)).toNat) M) fun z_65 M_64 => (bif inB (v4 + 1) Z.1 then (bif inB (v4 + 2) Z.1 then (bI (mo_road (Z.2 ((v4 + 1)).toNat) (Z.2 ((v4 + 2)).toNat) M_64) fun z_68 M_67 => (bI (mo_thrown  M_67) fun z_71 M_70 => (bif cmpB .eq z_71 z_65 then (bif cmpB .ne z_65 0 then (Kb (v4 + 6) M_70) else (bif inB 0 1 then (bif cmpB .eq (lCmp (M_70 181 0) (w32 z_68)) 0 then (Kb (v4 + 6) M_70) else some (rI 0, M_70)) else none)) else some (rI 0, M_70)))) else none) else none)) else none) else none)
set_option maxRecDepth 4000 in
theorem drv_main_J543_ok {Z : Nat × (Nat → Int)} {d : Nat} (hd : 52 ≤ d) (hZ : Z.1 < 2147483648)  {Kb : Int → MM → OR} {res : AR × MM} (kb : ∀ (x4 : Int) (M : MM) (j5 j6 : AV), Kb x4 M = some res → EX Z d 332 23 [vR E0, vR 0, vR 165, vR 181, vI x4, j5, j6] [] M res) : ∀ (v4 : Int) (M : MM) (j5 j6 : AV), drv_main_J543 Z  Kb v4 M = some res → EX Z d 332 543 [vR E0, vR 0, vR 165, vR 181, vI v4, j5, j6] [] M res := by
  obtain ⟨e9, rfl⟩ : ∃ e9, d = e9 + 1 := ⟨d - 1, by omega⟩
  intro v4 M j5 j6 hf
  unfold drv_main_J543 at hf
  refine ex_pu (ls' := [vR E0, vR 0, vR 165, vR 181, vI v4, j5, j6]) (st' := [vR 0]) (dg dc332_6 6 rfl) rfl rfl ?_
  refine ex_pu (ls' := [vR E0, vR 0, vR 165, vR 181, vI v4, j5, j6]) (st' := [vR E0, vR 0]) (dg dc332_6 7 rfl) rfl rfl ?_
  refine ex_pu (ls' := [vR E0, vR 0, vR 165, vR 181, vI v4, j5, j6]) (st' := [vI v4, vR E0, vR 0]) (dg dc332_6 8 rfl) rfl rfl ?_
  refine ex_pu (ls' := [vR E0, vR 0, vR 165, vR 181, vI v4, j5, j6]) (st' := [vI 1, vI v4, vR E0, vR 0]) (dg dc332_6 9 rfl) rfl rfl ?_
  refine ex_pu (ls' := [vR E0, vR 0, vR 165, vR 181, vI v4, j5, j6]) (st' := [vI (v4 + 1), vR E0, vR 0]) (dg dc332_6 10 rfl) rfl rfl ?_
  refine ex_ialdS (dg dc332_6 11 rfl) hZ hf (fun _ hf => ?_)
  refine ex_pu (ls' := [vR E0, vR 0, vR 165, vR 181, vI v4, j5, j6]) (st' := [vR E0, vI (Z.2 ((v4 + 1)).toNat), vR 0]) (dg dc332_6 12 rfl) rfl rfl ?_
  refine ex_pu (ls' := [vR E0, vR 0, vR 165, vR 181, vI v4, j5, j6]) (st' := [vI v4, vR E0, vI (Z.2 ((v4 + 1)).toNat), vR 0]) (dg dc332_6 13 rfl) rfl rfl ?_
  refine ex_pu (ls' := [vR E0, vR 0, vR 165, vR 181, vI v4, j5, j6]) (st' := [vI 2, vI v4, vR E0, vI (Z.2 ((v4 + 1)).toNat), vR 0]) (dg dc332_6 14 rfl) rfl rfl ?_
  refine ex_pu (ls' := [vR E0, vR 0, vR 165, vR 181, vI v4, j5, j6]) (st' := [vI (v4 + 2), vR E0, vI (Z.2 ((v4 + 1)).toNat), vR 0]) (dg dc332_6 15 rfl) rfl rfl ?_
  refine ex_ialdS (dg dc332_6 16 rfl) hZ hf (fun _ hf => ?_)
  refine ex_pu (ls' := [vR E0, vR 0, vR 165, vR 181, vI v4, j5, j6]) (st' := [vR 181, vI (Z.2 ((v4 + 2)).toNat), vI (Z.2 ((v4 + 1)).toNat), vR 0]) (dg dc332_6 17 rfl) rfl rfl ?_
  refine ex_cI (vs := [vR 0, vI (Z.2 ((v4 + 1)).toNat), vI (Z.2 ((v4 + 2)).toNat), vR 181]) (st' := []) (F := (drv_road (Z.2 ((v4 + 1)).toNat) (Z.2 ((v4 + 2)).toNat) M)) (Or.inl ⟨rfl, (dg dc332_6 18 rfl)⟩) rfl rfl (Or.inl rfl) rfl (fun _ r9 => drv_road_ok (Z := Z) (d := e9) (by omega)  r9) hf (fun z_65 M_64 he_63 hf => ?_)
  refine ex_pu (ls' := [vR E0, vR 0, vR 165, vR 181, vI v4, vI z_65, j6]) (st' := []) (dg dc332_6 19 rfl) rfl rfl ?_
  refine ex_pu (ls' := [vR E0, vR 0, vR 165, vR 181, vI v4, vI z_65, j6]) (st' := [vR 165]) (dg dc332_6 20 rfl) rfl rfl ?_
  refine ex_pu (ls' := [vR E0, vR 0, vR 165, vR 181, vI v4, vI z_65, j6]) (st' := [vR E0, vR 165]) (dg dc332_6 21 rfl) rfl rfl ?_
  refine ex_pu (ls' := [vR E0, vR 0, vR 165, vR 181, vI v4, vI z_65, j6]) (st' := [vI v4, vR E0, vR 165]) (dg dc332_6 22 rfl) rfl rfl ?_
  refine ex_pu (ls' := [vR E0, vR 0, vR 165, vR 181, vI v4, vI z_65, j6]) (st' := [vI 1, vI v4, vR E0, vR 165]) (dg dc332_6 23 rfl) rfl rfl ?_
  refine ex_pu (ls' := [vR E0, vR 0, vR 165, vR 181, vI v4, vI z_65, j6]) (st' := [vI (v4 + 1), vR E0, vR 165]) (dg dc332_6 24 rfl) rfl rfl ?_
  refine ex_ialdS (dg dc332_6 25 rfl) hZ hf (fun _ hf => ?_)
  refine ex_pu (ls' := [vR E0, vR 0, vR 165, vR 181, vI v4, vI z_65, j6]) (st' := [vR E0, vI (Z.2 ((v4 + 1)).toNat), vR 165]) (dg dc332_6 26 rfl) rfl rfl ?_
  refine ex_pu (ls' := [vR E0, vR 0, vR 165, vR 181, vI v4, vI z_65, j6]) (st' := [vI v4, vR E0, vI (Z.2 ((v4 + 1)).toNat), vR 165]) (dg dc332_6 27 rfl) rfl rfl ?_
  refine ex_pu (ls' := [vR E0, vR 0, vR 165, vR 181, vI v4, vI z_65, j6]) (st' := [vI 2, vI v4, vR E0, vI (Z.2 ((v4 + 1)).toNat), vR 165]) (dg dc332_6 28 rfl) rfl rfl ?_
  refine ex_pu (ls' := [vR E0, vR 0, vR 165, vR 181, vI v4, vI z_65, j6]) (st' := [vI (v4 + 2), vR E0, vI (Z.2 ((v4 + 1)).toNat), vR 165]) (dg dc332_6 29 rfl) rfl rfl ?_
  refine ex_ialdS (dg dc332_6 30 rfl) hZ hf (fun _ hf => ?_)
  refine ex_cI (vs := [vR 165, vI (Z.2 ((v4 + 1)).toNat), vI (Z.2 ((v4 + 2)).toNat)]) (st' := []) (F := (mo_road (Z.2 ((v4 + 1)).toNat) (Z.2 ((v4 + 2)).toNat) M_64)) (Or.inr (Or.inl ⟨rfl, (dg dc332_6 31 rfl)⟩)) rfl rfl (rk1 (LOC.st (Nat.le_of_ble_eq_true rfl) rfl) rfl) rfl (fun _ r9 => mo_road_ok (Z := Z) (d := e9) (by omega)  r9) hf (fun z_68 M_67 he_66 hf => ?_)
  refine ex_pu (ls' := [vR E0, vR 0, vR 165, vR 181, vI v4, vI z_65, vI z_68]) (st' := []) (dg dc332_6 32 rfl) rfl rfl ?_
  refine ex_pu (ls' := [vR E0, vR 0, vR 165, vR 181, vI v4, vI z_65, vI z_68]) (st' := [vR 165]) (dg dc332_6 33 rfl) rfl rfl ?_
  refine ex_cI (vs := [vR 165]) (st' := []) (F := (mo_thrown  M_67)) (Or.inr (Or.inl ⟨rfl, (dg dc332_6 34 rfl)⟩)) rfl rfl (rk1 (LOC.st (Nat.le_of_ble_eq_true rfl) rfl) rfl) rfl (fun _ r9 => mo_thrown_ok (Z := Z) (d := e9) (by omega)  r9) hf (fun z_71 M_70 he_69 hf => ?_)
  refine ex_pu (ls' := [vR E0, vR 0, vR 165, vR 181, vI v4, vI z_65, vI z_68]) (st' := [vI z_65, vI z_71]) (dg dc332_6 35 rfl) rfl rfl ?_
  refine ex_icmp (t := 591) (dg dc332_6 36 rfl) rfl hf (fun _ hf => ?_) (fun _ hf => ?_)
  · refine ex_pu (ls' := [vR E0, vR 0, vR 165, vR 181, vI v4, vI z_65, vI z_68]) (st' := [vI z_65]) (dg dc332_6 39 rfl) rfl rfl ?_
    refine ex_if (t := 608) (dg dc332_7 0 rfl) rfl hf (fun _ hf => ?_) (fun _ hf => ?_)
    · refine ex_goto (t := 2318) (dg dc332_7 10 rfl) rfl rfl ?_
      refine ex_pu (ls' := [vR E0, vR 0, vR 165, vR 181, vI (v4 + 6), vI z_65, vI z_68]) (st' := []) (dg dc332_34 18 rfl) rfl rfl ?_
      refine ex_goto (t := 23) (dg dc332_34 19 rfl) rfl rfl ?_
      exact kb (v4 + 6) M_70 _ _ hf
    · refine ex_pu (ls' := [vR E0, vR 0, vR 165, vR 181, vI v4, vI z_65, vI z_68]) (st' := [vR 181]) (dg dc332_7 1 rfl) rfl rfl ?_
      refine ex_pu (ls' := [vR E0, vR 0, vR 165, vR 181, vI v4, vI z_65, vI z_68]) (st' := [vI 0, vR 181]) (dg dc332_7 2 rfl) rfl rfl ?_
      refine ex_lald (dg dc332_7 3 rfl) (LOC.st (Nat.le_of_ble_eq_true rfl) rfl) rfl hf (fun _ hf => ?_)
      refine ex_pu (ls' := [vR E0, vR 0, vR 165, vR 181, vI v4, vI z_65, vI z_68]) (st' := [vI z_68, vJ (M_70 181 0)]) (dg dc332_7 4 rfl) rfl rfl ?_
      refine ex_pu (ls' := [vR E0, vR 0, vR 165, vR 181, vI v4, vI z_65, vI z_68]) (st' := [vJ (w32 z_68), vJ (M_70 181 0)]) (dg dc332_7 5 rfl) rfl rfl ?_
      refine ex_pu (ls' := [vR E0, vR 0, vR 165, vR 181, vI v4, vI z_65, vI z_68]) (st' := [vI (lCmp (M_70 181 0) (w32 z_68))]) (dg dc332_7 6 rfl) rfl rfl ?_
      refine ex_if (t := 608) (dg dc332_7 7 rfl) rfl hf (fun _ hf => ?_) (fun _ hf => ?_)
      · refine ex_goto (t := 2318) (dg dc332_7 10 rfl) rfl rfl ?_
        refine ex_pu (ls' := [vR E0, vR 0, vR 165, vR 181, vI (v4 + 6), vI z_65, vI z_68]) (st' := []) (dg dc332_34 18 rfl) rfl rfl ?_
        refine ex_goto (t := 23) (dg dc332_34 19 rfl) rfl rfl ?_
        exact kb (v4 + 6) M_70 _ _ hf
      · refine ex_pu (ls' := [vR E0, vR 0, vR 165, vR 181, vI v4, vI z_65, vI z_68]) (st' := [vI 0]) (dg dc332_7 8 rfl) rfl rfl ?_
        exact ex_ire (dg dc332_7 9 rfl) rfl hf
  · refine ex_pu (ls' := [vR E0, vR 0, vR 165, vR 181, vI v4, vI z_65, vI z_68]) (st' := [vI 0]) (dg dc332_6 37 rfl) rfl rfl ?_
    exact ex_ire (dg dc332_6 38 rfl) rfl hf
def drv_main_J611 (Z : Nat × (Nat → Int))  (Kb : Int → MM → OR) (v4 : Int) (M : MM) : OR :=
  (bif inB (v4 + 1) Z.1 then (bif inB (v4 + 2) Z.1 then (bI (drv_brother (Z.2 ((v4 + 1)).toNat) (Z.2 ((v4 + 2)).toNat) M) fun z_75 M_74 => (bif inB (v4 + 1) Z.1 then (bif inB (v4 + 2) Z.1 then (bI (mo_brother (Z.2 ((v4 + 1)).toNat) (Z.2 ((v4 + 2)).toNat) M_74) fun z_78 M_77 => (bI (mo_thrown  M_77) fun z_81 M_80 => (bif cmpB .eq z_81 z_75 then (bif cmpB .ne z_75 0 then (Kb (v4 + 6) M_80) else (bif inB 0 1 then (bif cmpB .eq (lCmp (M_80 181 0) (w32 z_78)) 0 then (Kb (v4 + 6) M_80) else some (rI 0, M_80)) else none)) else some (rI 0, M_80)))) else none) else none)) else none) else none)
set_option maxRecDepth 4000 in
theorem drv_main_J611_ok {Z : Nat × (Nat → Int)} {d : Nat} (hd : 52 ≤ d) (hZ : Z.1 < 2147483648)  {Kb : Int → MM → OR} {res : AR × MM} (kb : ∀ (x4 : Int) (M : MM) (j5 j6 : AV), Kb x4 M = some res → EX Z d 332 23 [vR E0, vR 0, vR 165, vR 181, vI x4, j5, j6] [] M res) : ∀ (v4 : Int) (M : MM) (j5 j6 : AV), drv_main_J611 Z  Kb v4 M = some res → EX Z d 332 611 [vR E0, vR 0, vR 165, vR 181, vI v4, j5, j6] [] M res := by
  obtain ⟨e9, rfl⟩ : ∃ e9, d = e9 + 1 := ⟨d - 1, by omega⟩
  intro v4 M j5 j6 hf
  unfold drv_main_J611 at hf
  refine ex_pu (ls' := [vR E0, vR 0, vR 165, vR 181, vI v4, j5, j6]) (st' := [vR 0]) (dg dc332_7 11 rfl) rfl rfl ?_
  refine ex_pu (ls' := [vR E0, vR 0, vR 165, vR 181, vI v4, j5, j6]) (st' := [vR E0, vR 0]) (dg dc332_7 12 rfl) rfl rfl ?_
  refine ex_pu (ls' := [vR E0, vR 0, vR 165, vR 181, vI v4, j5, j6]) (st' := [vI v4, vR E0, vR 0]) (dg dc332_7 13 rfl) rfl rfl ?_
  refine ex_pu (ls' := [vR E0, vR 0, vR 165, vR 181, vI v4, j5, j6]) (st' := [vI 1, vI v4, vR E0, vR 0]) (dg dc332_7 14 rfl) rfl rfl ?_
  refine ex_pu (ls' := [vR E0, vR 0, vR 165, vR 181, vI v4, j5, j6]) (st' := [vI (v4 + 1), vR E0, vR 0]) (dg dc332_7 15 rfl) rfl rfl ?_
  refine ex_ialdS (dg dc332_7 16 rfl) hZ hf (fun _ hf => ?_)
  refine ex_pu (ls' := [vR E0, vR 0, vR 165, vR 181, vI v4, j5, j6]) (st' := [vR E0, vI (Z.2 ((v4 + 1)).toNat), vR 0]) (dg dc332_7 17 rfl) rfl rfl ?_
  refine ex_pu (ls' := [vR E0, vR 0, vR 165, vR 181, vI v4, j5, j6]) (st' := [vI v4, vR E0, vI (Z.2 ((v4 + 1)).toNat), vR 0]) (dg dc332_7 18 rfl) rfl rfl ?_
  refine ex_pu (ls' := [vR E0, vR 0, vR 165, vR 181, vI v4, j5, j6]) (st' := [vI 2, vI v4, vR E0, vI (Z.2 ((v4 + 1)).toNat), vR 0]) (dg dc332_7 19 rfl) rfl rfl ?_
  refine ex_pu (ls' := [vR E0, vR 0, vR 165, vR 181, vI v4, j5, j6]) (st' := [vI (v4 + 2), vR E0, vI (Z.2 ((v4 + 1)).toNat), vR 0]) (dg dc332_7 20 rfl) rfl rfl ?_
  refine ex_ialdS (dg dc332_7 21 rfl) hZ hf (fun _ hf => ?_)
  refine ex_pu (ls' := [vR E0, vR 0, vR 165, vR 181, vI v4, j5, j6]) (st' := [vR 181, vI (Z.2 ((v4 + 2)).toNat), vI (Z.2 ((v4 + 1)).toNat), vR 0]) (dg dc332_7 22 rfl) rfl rfl ?_
  refine ex_cI (vs := [vR 0, vI (Z.2 ((v4 + 1)).toNat), vI (Z.2 ((v4 + 2)).toNat), vR 181]) (st' := []) (F := (drv_brother (Z.2 ((v4 + 1)).toNat) (Z.2 ((v4 + 2)).toNat) M)) (Or.inl ⟨rfl, (dg dc332_7 23 rfl)⟩) rfl rfl (Or.inl rfl) rfl (fun _ r9 => drv_brother_ok (Z := Z) (d := e9) (by omega)  r9) hf (fun z_75 M_74 he_73 hf => ?_)
  refine ex_pu (ls' := [vR E0, vR 0, vR 165, vR 181, vI v4, vI z_75, j6]) (st' := []) (dg dc332_7 24 rfl) rfl rfl ?_
  refine ex_pu (ls' := [vR E0, vR 0, vR 165, vR 181, vI v4, vI z_75, j6]) (st' := [vR 165]) (dg dc332_7 25 rfl) rfl rfl ?_
  refine ex_pu (ls' := [vR E0, vR 0, vR 165, vR 181, vI v4, vI z_75, j6]) (st' := [vR E0, vR 165]) (dg dc332_7 26 rfl) rfl rfl ?_
  refine ex_pu (ls' := [vR E0, vR 0, vR 165, vR 181, vI v4, vI z_75, j6]) (st' := [vI v4, vR E0, vR 165]) (dg dc332_7 27 rfl) rfl rfl ?_
  refine ex_pu (ls' := [vR E0, vR 0, vR 165, vR 181, vI v4, vI z_75, j6]) (st' := [vI 1, vI v4, vR E0, vR 165]) (dg dc332_7 28 rfl) rfl rfl ?_
  refine ex_pu (ls' := [vR E0, vR 0, vR 165, vR 181, vI v4, vI z_75, j6]) (st' := [vI (v4 + 1), vR E0, vR 165]) (dg dc332_7 29 rfl) rfl rfl ?_
  refine ex_ialdS (dg dc332_7 30 rfl) hZ hf (fun _ hf => ?_)
  refine ex_pu (ls' := [vR E0, vR 0, vR 165, vR 181, vI v4, vI z_75, j6]) (st' := [vR E0, vI (Z.2 ((v4 + 1)).toNat), vR 165]) (dg dc332_7 31 rfl) rfl rfl ?_
  refine ex_pu (ls' := [vR E0, vR 0, vR 165, vR 181, vI v4, vI z_75, j6]) (st' := [vI v4, vR E0, vI (Z.2 ((v4 + 1)).toNat), vR 165]) (dg dc332_7 32 rfl) rfl rfl ?_
  refine ex_pu (ls' := [vR E0, vR 0, vR 165, vR 181, vI v4, vI z_75, j6]) (st' := [vI 2, vI v4, vR E0, vI (Z.2 ((v4 + 1)).toNat), vR 165]) (dg dc332_7 33 rfl) rfl rfl ?_
  refine ex_pu (ls' := [vR E0, vR 0, vR 165, vR 181, vI v4, vI z_75, j6]) (st' := [vI (v4 + 2), vR E0, vI (Z.2 ((v4 + 1)).toNat), vR 165]) (dg dc332_7 34 rfl) rfl rfl ?_
  refine ex_ialdS (dg dc332_7 35 rfl) hZ hf (fun _ hf => ?_)
  refine ex_cI (vs := [vR 165, vI (Z.2 ((v4 + 1)).toNat), vI (Z.2 ((v4 + 2)).toNat)]) (st' := []) (F := (mo_brother (Z.2 ((v4 + 1)).toNat) (Z.2 ((v4 + 2)).toNat) M_74)) (Or.inr (Or.inl ⟨rfl, (dg dc332_7 36 rfl)⟩)) rfl rfl (rk1 (LOC.st (Nat.le_of_ble_eq_true rfl) rfl) rfl) rfl (fun _ r9 => mo_brother_ok (Z := Z) (d := e9) (by omega)  r9) hf (fun z_78 M_77 he_76 hf => ?_)
  refine ex_pu (ls' := [vR E0, vR 0, vR 165, vR 181, vI v4, vI z_75, vI z_78]) (st' := []) (dg dc332_7 37 rfl) rfl rfl ?_
  refine ex_pu (ls' := [vR E0, vR 0, vR 165, vR 181, vI v4, vI z_75, vI z_78]) (st' := [vR 165]) (dg dc332_7 38 rfl) rfl rfl ?_
  refine ex_cI (vs := [vR 165]) (st' := []) (F := (mo_thrown  M_77)) (Or.inr (Or.inl ⟨rfl, (dg dc332_7 39 rfl)⟩)) rfl rfl (rk1 (LOC.st (Nat.le_of_ble_eq_true rfl) rfl) rfl) rfl (fun _ r9 => mo_thrown_ok (Z := Z) (d := e9) (by omega)  r9) hf (fun z_81 M_80 he_79 hf => ?_)
  refine ex_pu (ls' := [vR E0, vR 0, vR 165, vR 181, vI v4, vI z_75, vI z_78]) (st' := [vI z_75, vI z_81]) (dg dc332_8 0 rfl) rfl rfl ?_
  refine ex_icmp (t := 659) (dg dc332_8 1 rfl) rfl hf (fun _ hf => ?_) (fun _ hf => ?_)
  · refine ex_pu (ls' := [vR E0, vR 0, vR 165, vR 181, vI v4, vI z_75, vI z_78]) (st' := [vI z_75]) (dg dc332_8 4 rfl) rfl rfl ?_
    refine ex_if (t := 676) (dg dc332_8 5 rfl) rfl hf (fun _ hf => ?_) (fun _ hf => ?_)
    · refine ex_goto (t := 2318) (dg dc332_8 15 rfl) rfl rfl ?_
      refine ex_pu (ls' := [vR E0, vR 0, vR 165, vR 181, vI (v4 + 6), vI z_75, vI z_78]) (st' := []) (dg dc332_34 18 rfl) rfl rfl ?_
      refine ex_goto (t := 23) (dg dc332_34 19 rfl) rfl rfl ?_
      exact kb (v4 + 6) M_80 _ _ hf
    · refine ex_pu (ls' := [vR E0, vR 0, vR 165, vR 181, vI v4, vI z_75, vI z_78]) (st' := [vR 181]) (dg dc332_8 6 rfl) rfl rfl ?_
      refine ex_pu (ls' := [vR E0, vR 0, vR 165, vR 181, vI v4, vI z_75, vI z_78]) (st' := [vI 0, vR 181]) (dg dc332_8 7 rfl) rfl rfl ?_
      refine ex_lald (dg dc332_8 8 rfl) (LOC.st (Nat.le_of_ble_eq_true rfl) rfl) rfl hf (fun _ hf => ?_)
      refine ex_pu (ls' := [vR E0, vR 0, vR 165, vR 181, vI v4, vI z_75, vI z_78]) (st' := [vI z_78, vJ (M_80 181 0)]) (dg dc332_8 9 rfl) rfl rfl ?_
      refine ex_pu (ls' := [vR E0, vR 0, vR 165, vR 181, vI v4, vI z_75, vI z_78]) (st' := [vJ (w32 z_78), vJ (M_80 181 0)]) (dg dc332_8 10 rfl) rfl rfl ?_
      refine ex_pu (ls' := [vR E0, vR 0, vR 165, vR 181, vI v4, vI z_75, vI z_78]) (st' := [vI (lCmp (M_80 181 0) (w32 z_78))]) (dg dc332_8 11 rfl) rfl rfl ?_
      refine ex_if (t := 676) (dg dc332_8 12 rfl) rfl hf (fun _ hf => ?_) (fun _ hf => ?_)
      · refine ex_goto (t := 2318) (dg dc332_8 15 rfl) rfl rfl ?_
        refine ex_pu (ls' := [vR E0, vR 0, vR 165, vR 181, vI (v4 + 6), vI z_75, vI z_78]) (st' := []) (dg dc332_34 18 rfl) rfl rfl ?_
        refine ex_goto (t := 23) (dg dc332_34 19 rfl) rfl rfl ?_
        exact kb (v4 + 6) M_80 _ _ hf
      · refine ex_pu (ls' := [vR E0, vR 0, vR 165, vR 181, vI v4, vI z_75, vI z_78]) (st' := [vI 0]) (dg dc332_8 13 rfl) rfl rfl ?_
        exact ex_ire (dg dc332_8 14 rfl) rfl hf
  · refine ex_pu (ls' := [vR E0, vR 0, vR 165, vR 181, vI v4, vI z_75, vI z_78]) (st' := [vI 0]) (dg dc332_8 2 rfl) rfl rfl ?_
    exact ex_ire (dg dc332_8 3 rfl) rfl hf
def drv_main_J679 (Z : Nat × (Nat → Int))  (Kb : Int → MM → OR) (v4 : Int) (M : MM) : OR :=
  (bif inB (v4 + 1) Z.1 then (bI (drv_girl (Z.2 ((v4 + 1)).toNat) M) fun z_85 M_84 => (bif inB (v4 + 1) Z.1 then (bI (mo_girl (Z.2 ((v4 + 1)).toNat) M_84) fun z_88 M_87 => (bI (mo_thrown  M_87) fun z_91 M_90 => (bif cmpB .eq z_91 z_85 then (bif cmpB .ne z_85 0 then (Kb (v4 + 6) M_90) else (bif inB 0 1 then (bif cmpB .eq (lCmp (M_90 181 0) (w32 z_88)) 0 then (Kb (v4 + 6) M_90) else some (rI 0, M_90)) else none)) else some (rI 0, M_90)))) else none)) else none)
set_option maxRecDepth 4000 in
theorem drv_main_J679_ok {Z : Nat × (Nat → Int)} {d : Nat} (hd : 52 ≤ d) (hZ : Z.1 < 2147483648)  {Kb : Int → MM → OR} {res : AR × MM} (kb : ∀ (x4 : Int) (M : MM) (j5 j6 : AV), Kb x4 M = some res → EX Z d 332 23 [vR E0, vR 0, vR 165, vR 181, vI x4, j5, j6] [] M res) : ∀ (v4 : Int) (M : MM) (j5 j6 : AV), drv_main_J679 Z  Kb v4 M = some res → EX Z d 332 679 [vR E0, vR 0, vR 165, vR 181, vI v4, j5, j6] [] M res := by
  obtain ⟨e9, rfl⟩ : ∃ e9, d = e9 + 1 := ⟨d - 1, by omega⟩
  intro v4 M j5 j6 hf
  unfold drv_main_J679 at hf
  refine ex_pu (ls' := [vR E0, vR 0, vR 165, vR 181, vI v4, j5, j6]) (st' := [vR 0]) (dg dc332_8 16 rfl) rfl rfl ?_
  refine ex_pu (ls' := [vR E0, vR 0, vR 165, vR 181, vI v4, j5, j6]) (st' := [vR E0, vR 0]) (dg dc332_8 17 rfl) rfl rfl ?_
  refine ex_pu (ls' := [vR E0, vR 0, vR 165, vR 181, vI v4, j5, j6]) (st' := [vI v4, vR E0, vR 0]) (dg dc332_8 18 rfl) rfl rfl ?_
  refine ex_pu (ls' := [vR E0, vR 0, vR 165, vR 181, vI v4, j5, j6]) (st' := [vI 1, vI v4, vR E0, vR 0]) (dg dc332_8 19 rfl) rfl rfl ?_
  refine ex_pu (ls' := [vR E0, vR 0, vR 165, vR 181, vI v4, j5, j6]) (st' := [vI (v4 + 1), vR E0, vR 0]) (dg dc332_8 20 rfl) rfl rfl ?_
  refine ex_ialdS (dg dc332_8 21 rfl) hZ hf (fun _ hf => ?_)
  refine ex_pu (ls' := [vR E0, vR 0, vR 165, vR 181, vI v4, j5, j6]) (st' := [vR 181, vI (Z.2 ((v4 + 1)).toNat), vR 0]) (dg dc332_8 22 rfl) rfl rfl ?_
  refine ex_cI (vs := [vR 0, vI (Z.2 ((v4 + 1)).toNat), vR 181]) (st' := []) (F := (drv_girl (Z.2 ((v4 + 1)).toNat) M)) (Or.inl ⟨rfl, (dg dc332_8 23 rfl)⟩) rfl rfl (Or.inl rfl) rfl (fun _ r9 => drv_girl_ok (Z := Z) (d := e9) (by omega)  r9) hf (fun z_85 M_84 he_83 hf => ?_)
  refine ex_pu (ls' := [vR E0, vR 0, vR 165, vR 181, vI v4, vI z_85, j6]) (st' := []) (dg dc332_8 24 rfl) rfl rfl ?_
  refine ex_pu (ls' := [vR E0, vR 0, vR 165, vR 181, vI v4, vI z_85, j6]) (st' := [vR 165]) (dg dc332_8 25 rfl) rfl rfl ?_
  refine ex_pu (ls' := [vR E0, vR 0, vR 165, vR 181, vI v4, vI z_85, j6]) (st' := [vR E0, vR 165]) (dg dc332_8 26 rfl) rfl rfl ?_
  refine ex_pu (ls' := [vR E0, vR 0, vR 165, vR 181, vI v4, vI z_85, j6]) (st' := [vI v4, vR E0, vR 165]) (dg dc332_8 27 rfl) rfl rfl ?_
  refine ex_pu (ls' := [vR E0, vR 0, vR 165, vR 181, vI v4, vI z_85, j6]) (st' := [vI 1, vI v4, vR E0, vR 165]) (dg dc332_8 28 rfl) rfl rfl ?_
  refine ex_pu (ls' := [vR E0, vR 0, vR 165, vR 181, vI v4, vI z_85, j6]) (st' := [vI (v4 + 1), vR E0, vR 165]) (dg dc332_8 29 rfl) rfl rfl ?_
  refine ex_ialdS (dg dc332_8 30 rfl) hZ hf (fun _ hf => ?_)
  refine ex_cI (vs := [vR 165, vI (Z.2 ((v4 + 1)).toNat)]) (st' := []) (F := (mo_girl (Z.2 ((v4 + 1)).toNat) M_84)) (Or.inr (Or.inl ⟨rfl, (dg dc332_8 31 rfl)⟩)) rfl rfl (rk1 (LOC.st (Nat.le_of_ble_eq_true rfl) rfl) rfl) rfl (fun _ r9 => mo_girl_ok (Z := Z) (d := e9) (by omega)  r9) hf (fun z_88 M_87 he_86 hf => ?_)
  refine ex_pu (ls' := [vR E0, vR 0, vR 165, vR 181, vI v4, vI z_85, vI z_88]) (st' := []) (dg dc332_8 32 rfl) rfl rfl ?_
  refine ex_pu (ls' := [vR E0, vR 0, vR 165, vR 181, vI v4, vI z_85, vI z_88]) (st' := [vR 165]) (dg dc332_8 33 rfl) rfl rfl ?_
  refine ex_cI (vs := [vR 165]) (st' := []) (F := (mo_thrown  M_87)) (Or.inr (Or.inl ⟨rfl, (dg dc332_8 34 rfl)⟩)) rfl rfl (rk1 (LOC.st (Nat.le_of_ble_eq_true rfl) rfl) rfl) rfl (fun _ r9 => mo_thrown_ok (Z := Z) (d := e9) (by omega)  r9) hf (fun z_91 M_90 he_89 hf => ?_)
  refine ex_pu (ls' := [vR E0, vR 0, vR 165, vR 181, vI v4, vI z_85, vI z_88]) (st' := [vI z_85, vI z_91]) (dg dc332_8 35 rfl) rfl rfl ?_
  refine ex_icmp (t := 715) (dg dc332_8 36 rfl) rfl hf (fun _ hf => ?_) (fun _ hf => ?_)
  · refine ex_pu (ls' := [vR E0, vR 0, vR 165, vR 181, vI v4, vI z_85, vI z_88]) (st' := [vI z_85]) (dg dc332_8 39 rfl) rfl rfl ?_
    refine ex_if (t := 732) (dg dc332_9 0 rfl) rfl hf (fun _ hf => ?_) (fun _ hf => ?_)
    · refine ex_goto (t := 2318) (dg dc332_9 10 rfl) rfl rfl ?_
      refine ex_pu (ls' := [vR E0, vR 0, vR 165, vR 181, vI (v4 + 6), vI z_85, vI z_88]) (st' := []) (dg dc332_34 18 rfl) rfl rfl ?_
      refine ex_goto (t := 23) (dg dc332_34 19 rfl) rfl rfl ?_
      exact kb (v4 + 6) M_90 _ _ hf
    · refine ex_pu (ls' := [vR E0, vR 0, vR 165, vR 181, vI v4, vI z_85, vI z_88]) (st' := [vR 181]) (dg dc332_9 1 rfl) rfl rfl ?_
      refine ex_pu (ls' := [vR E0, vR 0, vR 165, vR 181, vI v4, vI z_85, vI z_88]) (st' := [vI 0, vR 181]) (dg dc332_9 2 rfl) rfl rfl ?_
      refine ex_lald (dg dc332_9 3 rfl) (LOC.st (Nat.le_of_ble_eq_true rfl) rfl) rfl hf (fun _ hf => ?_)
      refine ex_pu (ls' := [vR E0, vR 0, vR 165, vR 181, vI v4, vI z_85, vI z_88]) (st' := [vI z_88, vJ (M_90 181 0)]) (dg dc332_9 4 rfl) rfl rfl ?_
      refine ex_pu (ls' := [vR E0, vR 0, vR 165, vR 181, vI v4, vI z_85, vI z_88]) (st' := [vJ (w32 z_88), vJ (M_90 181 0)]) (dg dc332_9 5 rfl) rfl rfl ?_
      refine ex_pu (ls' := [vR E0, vR 0, vR 165, vR 181, vI v4, vI z_85, vI z_88]) (st' := [vI (lCmp (M_90 181 0) (w32 z_88))]) (dg dc332_9 6 rfl) rfl rfl ?_
      refine ex_if (t := 732) (dg dc332_9 7 rfl) rfl hf (fun _ hf => ?_) (fun _ hf => ?_)
      · refine ex_goto (t := 2318) (dg dc332_9 10 rfl) rfl rfl ?_
        refine ex_pu (ls' := [vR E0, vR 0, vR 165, vR 181, vI (v4 + 6), vI z_85, vI z_88]) (st' := []) (dg dc332_34 18 rfl) rfl rfl ?_
        refine ex_goto (t := 23) (dg dc332_34 19 rfl) rfl rfl ?_
        exact kb (v4 + 6) M_90 _ _ hf
      · refine ex_pu (ls' := [vR E0, vR 0, vR 165, vR 181, vI v4, vI z_85, vI z_88]) (st' := [vI 0]) (dg dc332_9 8 rfl) rfl rfl ?_
        exact ex_ire (dg dc332_9 9 rfl) rfl hf
  · refine ex_pu (ls' := [vR E0, vR 0, vR 165, vR 181, vI v4, vI z_85, vI z_88]) (st' := [vI 0]) (dg dc332_8 37 rfl) rfl rfl ?_
    exact ex_ire (dg dc332_8 38 rfl) rfl hf
def drv_main_J735 (Z : Nat × (Nat → Int))  (Kb : Int → MM → OR) (v4 : Int) (M : MM) : OR :=
  (bif inB (v4 + 1) Z.1 then (bif inB (v4 + 2) Z.1 then (bI (drv_rule (Z.2 ((v4 + 1)).toNat) (Z.2 ((v4 + 2)).toNat) M) fun z_95 M_94 => (bif inB (v4 + 1) Z.1 then (bif inB (v4 + 2) Z.1 then (bI (mo_rule (Z.2 ((v4 + 1)).toNat) (Z.2 ((v4 + 2)).toNat) M_94) fun z_98 M_97 => (bI (mo_thrown  M_97) fun z_101 M_100 => (bif cmpB .eq z_101 z_95 then (bif cmpB .ne z_95 0 then (Kb (v4 + 6) M_100) else (bif inB 0 1 then (bif cmpB .eq (lCmp (M_100 181 0) (w32 z_98)) 0 then (Kb (v4 + 6) M_100) else some (rI 0, M_100)) else none)) else some (rI 0, M_100)))) else none) else none)) else none) else none)
set_option maxRecDepth 4000 in
theorem drv_main_J735_ok {Z : Nat × (Nat → Int)} {d : Nat} (hd : 52 ≤ d) (hZ : Z.1 < 2147483648)  {Kb : Int → MM → OR} {res : AR × MM} (kb : ∀ (x4 : Int) (M : MM) (j5 j6 : AV), Kb x4 M = some res → EX Z d 332 23 [vR E0, vR 0, vR 165, vR 181, vI x4, j5, j6] [] M res) : ∀ (v4 : Int) (M : MM) (j5 j6 : AV), drv_main_J735 Z  Kb v4 M = some res → EX Z d 332 735 [vR E0, vR 0, vR 165, vR 181, vI v4, j5, j6] [] M res := by
  obtain ⟨e9, rfl⟩ : ∃ e9, d = e9 + 1 := ⟨d - 1, by omega⟩
  intro v4 M j5 j6 hf
  unfold drv_main_J735 at hf
  refine ex_pu (ls' := [vR E0, vR 0, vR 165, vR 181, vI v4, j5, j6]) (st' := [vR 0]) (dg dc332_9 11 rfl) rfl rfl ?_
  refine ex_pu (ls' := [vR E0, vR 0, vR 165, vR 181, vI v4, j5, j6]) (st' := [vR E0, vR 0]) (dg dc332_9 12 rfl) rfl rfl ?_
  refine ex_pu (ls' := [vR E0, vR 0, vR 165, vR 181, vI v4, j5, j6]) (st' := [vI v4, vR E0, vR 0]) (dg dc332_9 13 rfl) rfl rfl ?_
  refine ex_pu (ls' := [vR E0, vR 0, vR 165, vR 181, vI v4, j5, j6]) (st' := [vI 1, vI v4, vR E0, vR 0]) (dg dc332_9 14 rfl) rfl rfl ?_
  refine ex_pu (ls' := [vR E0, vR 0, vR 165, vR 181, vI v4, j5, j6]) (st' := [vI (v4 + 1), vR E0, vR 0]) (dg dc332_9 15 rfl) rfl rfl ?_
  refine ex_ialdS (dg dc332_9 16 rfl) hZ hf (fun _ hf => ?_)
  refine ex_pu (ls' := [vR E0, vR 0, vR 165, vR 181, vI v4, j5, j6]) (st' := [vR E0, vI (Z.2 ((v4 + 1)).toNat), vR 0]) (dg dc332_9 17 rfl) rfl rfl ?_
  refine ex_pu (ls' := [vR E0, vR 0, vR 165, vR 181, vI v4, j5, j6]) (st' := [vI v4, vR E0, vI (Z.2 ((v4 + 1)).toNat), vR 0]) (dg dc332_9 18 rfl) rfl rfl ?_
  refine ex_pu (ls' := [vR E0, vR 0, vR 165, vR 181, vI v4, j5, j6]) (st' := [vI 2, vI v4, vR E0, vI (Z.2 ((v4 + 1)).toNat), vR 0]) (dg dc332_9 19 rfl) rfl rfl ?_
  refine ex_pu (ls' := [vR E0, vR 0, vR 165, vR 181, vI v4, j5, j6]) (st' := [vI (v4 + 2), vR E0, vI (Z.2 ((v4 + 1)).toNat), vR 0]) (dg dc332_9 20 rfl) rfl rfl ?_
  refine ex_ialdS (dg dc332_9 21 rfl) hZ hf (fun _ hf => ?_)
  refine ex_pu (ls' := [vR E0, vR 0, vR 165, vR 181, vI v4, j5, j6]) (st' := [vR 181, vI (Z.2 ((v4 + 2)).toNat), vI (Z.2 ((v4 + 1)).toNat), vR 0]) (dg dc332_9 22 rfl) rfl rfl ?_
  refine ex_cI (vs := [vR 0, vI (Z.2 ((v4 + 1)).toNat), vI (Z.2 ((v4 + 2)).toNat), vR 181]) (st' := []) (F := (drv_rule (Z.2 ((v4 + 1)).toNat) (Z.2 ((v4 + 2)).toNat) M)) (Or.inl ⟨rfl, (dg dc332_9 23 rfl)⟩) rfl rfl (Or.inl rfl) rfl (fun _ r9 => drv_rule_ok (Z := Z) (d := e9) (by omega)  r9) hf (fun z_95 M_94 he_93 hf => ?_)
  refine ex_pu (ls' := [vR E0, vR 0, vR 165, vR 181, vI v4, vI z_95, j6]) (st' := []) (dg dc332_9 24 rfl) rfl rfl ?_
  refine ex_pu (ls' := [vR E0, vR 0, vR 165, vR 181, vI v4, vI z_95, j6]) (st' := [vR 165]) (dg dc332_9 25 rfl) rfl rfl ?_
  refine ex_pu (ls' := [vR E0, vR 0, vR 165, vR 181, vI v4, vI z_95, j6]) (st' := [vR E0, vR 165]) (dg dc332_9 26 rfl) rfl rfl ?_
  refine ex_pu (ls' := [vR E0, vR 0, vR 165, vR 181, vI v4, vI z_95, j6]) (st' := [vI v4, vR E0, vR 165]) (dg dc332_9 27 rfl) rfl rfl ?_
  refine ex_pu (ls' := [vR E0, vR 0, vR 165, vR 181, vI v4, vI z_95, j6]) (st' := [vI 1, vI v4, vR E0, vR 165]) (dg dc332_9 28 rfl) rfl rfl ?_
  refine ex_pu (ls' := [vR E0, vR 0, vR 165, vR 181, vI v4, vI z_95, j6]) (st' := [vI (v4 + 1), vR E0, vR 165]) (dg dc332_9 29 rfl) rfl rfl ?_
  refine ex_ialdS (dg dc332_9 30 rfl) hZ hf (fun _ hf => ?_)
  refine ex_pu (ls' := [vR E0, vR 0, vR 165, vR 181, vI v4, vI z_95, j6]) (st' := [vR E0, vI (Z.2 ((v4 + 1)).toNat), vR 165]) (dg dc332_9 31 rfl) rfl rfl ?_
  refine ex_pu (ls' := [vR E0, vR 0, vR 165, vR 181, vI v4, vI z_95, j6]) (st' := [vI v4, vR E0, vI (Z.2 ((v4 + 1)).toNat), vR 165]) (dg dc332_9 32 rfl) rfl rfl ?_
  refine ex_pu (ls' := [vR E0, vR 0, vR 165, vR 181, vI v4, vI z_95, j6]) (st' := [vI 2, vI v4, vR E0, vI (Z.2 ((v4 + 1)).toNat), vR 165]) (dg dc332_9 33 rfl) rfl rfl ?_
  refine ex_pu (ls' := [vR E0, vR 0, vR 165, vR 181, vI v4, vI z_95, j6]) (st' := [vI (v4 + 2), vR E0, vI (Z.2 ((v4 + 1)).toNat), vR 165]) (dg dc332_9 34 rfl) rfl rfl ?_
  refine ex_ialdS (dg dc332_9 35 rfl) hZ hf (fun _ hf => ?_)
  refine ex_cI (vs := [vR 165, vI (Z.2 ((v4 + 1)).toNat), vI (Z.2 ((v4 + 2)).toNat)]) (st' := []) (F := (mo_rule (Z.2 ((v4 + 1)).toNat) (Z.2 ((v4 + 2)).toNat) M_94)) (Or.inr (Or.inl ⟨rfl, (dg dc332_9 36 rfl)⟩)) rfl rfl (rk1 (LOC.st (Nat.le_of_ble_eq_true rfl) rfl) rfl) rfl (fun _ r9 => mo_rule_ok (Z := Z) (d := e9) (by omega)  r9) hf (fun z_98 M_97 he_96 hf => ?_)
  refine ex_pu (ls' := [vR E0, vR 0, vR 165, vR 181, vI v4, vI z_95, vI z_98]) (st' := []) (dg dc332_9 37 rfl) rfl rfl ?_
  refine ex_pu (ls' := [vR E0, vR 0, vR 165, vR 181, vI v4, vI z_95, vI z_98]) (st' := [vR 165]) (dg dc332_9 38 rfl) rfl rfl ?_
  refine ex_cI (vs := [vR 165]) (st' := []) (F := (mo_thrown  M_97)) (Or.inr (Or.inl ⟨rfl, (dg dc332_9 39 rfl)⟩)) rfl rfl (rk1 (LOC.st (Nat.le_of_ble_eq_true rfl) rfl) rfl) rfl (fun _ r9 => mo_thrown_ok (Z := Z) (d := e9) (by omega)  r9) hf (fun z_101 M_100 he_99 hf => ?_)
  refine ex_pu (ls' := [vR E0, vR 0, vR 165, vR 181, vI v4, vI z_95, vI z_98]) (st' := [vI z_95, vI z_101]) (dg dc332_10 0 rfl) rfl rfl ?_
  refine ex_icmp (t := 783) (dg dc332_10 1 rfl) rfl hf (fun _ hf => ?_) (fun _ hf => ?_)
  · refine ex_pu (ls' := [vR E0, vR 0, vR 165, vR 181, vI v4, vI z_95, vI z_98]) (st' := [vI z_95]) (dg dc332_10 4 rfl) rfl rfl ?_
    refine ex_if (t := 800) (dg dc332_10 5 rfl) rfl hf (fun _ hf => ?_) (fun _ hf => ?_)
    · refine ex_goto (t := 2318) (dg dc332_10 15 rfl) rfl rfl ?_
      refine ex_pu (ls' := [vR E0, vR 0, vR 165, vR 181, vI (v4 + 6), vI z_95, vI z_98]) (st' := []) (dg dc332_34 18 rfl) rfl rfl ?_
      refine ex_goto (t := 23) (dg dc332_34 19 rfl) rfl rfl ?_
      exact kb (v4 + 6) M_100 _ _ hf
    · refine ex_pu (ls' := [vR E0, vR 0, vR 165, vR 181, vI v4, vI z_95, vI z_98]) (st' := [vR 181]) (dg dc332_10 6 rfl) rfl rfl ?_
      refine ex_pu (ls' := [vR E0, vR 0, vR 165, vR 181, vI v4, vI z_95, vI z_98]) (st' := [vI 0, vR 181]) (dg dc332_10 7 rfl) rfl rfl ?_
      refine ex_lald (dg dc332_10 8 rfl) (LOC.st (Nat.le_of_ble_eq_true rfl) rfl) rfl hf (fun _ hf => ?_)
      refine ex_pu (ls' := [vR E0, vR 0, vR 165, vR 181, vI v4, vI z_95, vI z_98]) (st' := [vI z_98, vJ (M_100 181 0)]) (dg dc332_10 9 rfl) rfl rfl ?_
      refine ex_pu (ls' := [vR E0, vR 0, vR 165, vR 181, vI v4, vI z_95, vI z_98]) (st' := [vJ (w32 z_98), vJ (M_100 181 0)]) (dg dc332_10 10 rfl) rfl rfl ?_
      refine ex_pu (ls' := [vR E0, vR 0, vR 165, vR 181, vI v4, vI z_95, vI z_98]) (st' := [vI (lCmp (M_100 181 0) (w32 z_98))]) (dg dc332_10 11 rfl) rfl rfl ?_
      refine ex_if (t := 800) (dg dc332_10 12 rfl) rfl hf (fun _ hf => ?_) (fun _ hf => ?_)
      · refine ex_goto (t := 2318) (dg dc332_10 15 rfl) rfl rfl ?_
        refine ex_pu (ls' := [vR E0, vR 0, vR 165, vR 181, vI (v4 + 6), vI z_95, vI z_98]) (st' := []) (dg dc332_34 18 rfl) rfl rfl ?_
        refine ex_goto (t := 23) (dg dc332_34 19 rfl) rfl rfl ?_
        exact kb (v4 + 6) M_100 _ _ hf
      · refine ex_pu (ls' := [vR E0, vR 0, vR 165, vR 181, vI v4, vI z_95, vI z_98]) (st' := [vI 0]) (dg dc332_10 13 rfl) rfl rfl ?_
        exact ex_ire (dg dc332_10 14 rfl) rfl hf
  · refine ex_pu (ls' := [vR E0, vR 0, vR 165, vR 181, vI v4, vI z_95, vI z_98]) (st' := [vI 0]) (dg dc332_10 2 rfl) rfl rfl ?_
    exact ex_ire (dg dc332_10 3 rfl) rfl hf
def drv_main_J803 (Z : Nat × (Nat → Int))  (Kb : Int → MM → OR) (v4 : Int) (M : MM) : OR :=
  (bif inB (v4 + 1) Z.1 then (bif inB (v4 + 2) Z.1 then (bI (drv_fits (Z.2 ((v4 + 1)).toNat) (Z.2 ((v4 + 2)).toNat) M) fun z_105 M_104 => (bif inB (v4 + 1) Z.1 then (bif inB (v4 + 2) Z.1 then (bI (mo_fits (Z.2 ((v4 + 1)).toNat) (Z.2 ((v4 + 2)).toNat) M_104) fun z_108 M_107 => (bI (mo_thrown  M_107) fun z_111 M_110 => (bif cmpB .eq z_111 z_105 then (bif cmpB .ne z_105 0 then (Kb (v4 + 6) M_110) else (bif inB 0 1 then (bif cmpB .eq z_108 0 then (bif cmpB .eq (lCmp (M_110 181 0) 0) 0 then (Kb (v4 + 6) M_110) else some (rI 0, M_110)) else (bif cmpB .eq (lCmp (M_110 181 0) 1) 0 then (Kb (v4 + 6) M_110) else some (rI 0, M_110))) else none)) else some (rI 0, M_110)))) else none) else none)) else none) else none)
set_option maxRecDepth 4000 in
theorem drv_main_J803_ok {Z : Nat × (Nat → Int)} {d : Nat} (hd : 52 ≤ d) (hZ : Z.1 < 2147483648)  {Kb : Int → MM → OR} {res : AR × MM} (kb : ∀ (x4 : Int) (M : MM) (j5 j6 : AV), Kb x4 M = some res → EX Z d 332 23 [vR E0, vR 0, vR 165, vR 181, vI x4, j5, j6] [] M res) : ∀ (v4 : Int) (M : MM) (j5 j6 : AV), drv_main_J803 Z  Kb v4 M = some res → EX Z d 332 803 [vR E0, vR 0, vR 165, vR 181, vI v4, j5, j6] [] M res := by
  obtain ⟨e9, rfl⟩ : ∃ e9, d = e9 + 1 := ⟨d - 1, by omega⟩
  intro v4 M j5 j6 hf
  unfold drv_main_J803 at hf
  refine ex_pu (ls' := [vR E0, vR 0, vR 165, vR 181, vI v4, j5, j6]) (st' := [vR 0]) (dg dc332_10 16 rfl) rfl rfl ?_
  refine ex_pu (ls' := [vR E0, vR 0, vR 165, vR 181, vI v4, j5, j6]) (st' := [vR E0, vR 0]) (dg dc332_10 17 rfl) rfl rfl ?_
  refine ex_pu (ls' := [vR E0, vR 0, vR 165, vR 181, vI v4, j5, j6]) (st' := [vI v4, vR E0, vR 0]) (dg dc332_10 18 rfl) rfl rfl ?_
  refine ex_pu (ls' := [vR E0, vR 0, vR 165, vR 181, vI v4, j5, j6]) (st' := [vI 1, vI v4, vR E0, vR 0]) (dg dc332_10 19 rfl) rfl rfl ?_
  refine ex_pu (ls' := [vR E0, vR 0, vR 165, vR 181, vI v4, j5, j6]) (st' := [vI (v4 + 1), vR E0, vR 0]) (dg dc332_10 20 rfl) rfl rfl ?_
  refine ex_ialdS (dg dc332_10 21 rfl) hZ hf (fun _ hf => ?_)
  refine ex_pu (ls' := [vR E0, vR 0, vR 165, vR 181, vI v4, j5, j6]) (st' := [vR E0, vI (Z.2 ((v4 + 1)).toNat), vR 0]) (dg dc332_10 22 rfl) rfl rfl ?_
  refine ex_pu (ls' := [vR E0, vR 0, vR 165, vR 181, vI v4, j5, j6]) (st' := [vI v4, vR E0, vI (Z.2 ((v4 + 1)).toNat), vR 0]) (dg dc332_10 23 rfl) rfl rfl ?_
  refine ex_pu (ls' := [vR E0, vR 0, vR 165, vR 181, vI v4, j5, j6]) (st' := [vI 2, vI v4, vR E0, vI (Z.2 ((v4 + 1)).toNat), vR 0]) (dg dc332_10 24 rfl) rfl rfl ?_
  refine ex_pu (ls' := [vR E0, vR 0, vR 165, vR 181, vI v4, j5, j6]) (st' := [vI (v4 + 2), vR E0, vI (Z.2 ((v4 + 1)).toNat), vR 0]) (dg dc332_10 25 rfl) rfl rfl ?_
  refine ex_ialdS (dg dc332_10 26 rfl) hZ hf (fun _ hf => ?_)
  refine ex_pu (ls' := [vR E0, vR 0, vR 165, vR 181, vI v4, j5, j6]) (st' := [vR 181, vI (Z.2 ((v4 + 2)).toNat), vI (Z.2 ((v4 + 1)).toNat), vR 0]) (dg dc332_10 27 rfl) rfl rfl ?_
  refine ex_cI (vs := [vR 0, vI (Z.2 ((v4 + 1)).toNat), vI (Z.2 ((v4 + 2)).toNat), vR 181]) (st' := []) (F := (drv_fits (Z.2 ((v4 + 1)).toNat) (Z.2 ((v4 + 2)).toNat) M)) (Or.inl ⟨rfl, (dg dc332_10 28 rfl)⟩) rfl rfl (Or.inl rfl) rfl (fun _ r9 => drv_fits_ok (Z := Z) (d := e9) (by omega)  r9) hf (fun z_105 M_104 he_103 hf => ?_)
  refine ex_pu (ls' := [vR E0, vR 0, vR 165, vR 181, vI v4, vI z_105, j6]) (st' := []) (dg dc332_10 29 rfl) rfl rfl ?_
  refine ex_pu (ls' := [vR E0, vR 0, vR 165, vR 181, vI v4, vI z_105, j6]) (st' := [vR 165]) (dg dc332_10 30 rfl) rfl rfl ?_
  refine ex_pu (ls' := [vR E0, vR 0, vR 165, vR 181, vI v4, vI z_105, j6]) (st' := [vR E0, vR 165]) (dg dc332_10 31 rfl) rfl rfl ?_
  refine ex_pu (ls' := [vR E0, vR 0, vR 165, vR 181, vI v4, vI z_105, j6]) (st' := [vI v4, vR E0, vR 165]) (dg dc332_10 32 rfl) rfl rfl ?_
  refine ex_pu (ls' := [vR E0, vR 0, vR 165, vR 181, vI v4, vI z_105, j6]) (st' := [vI 1, vI v4, vR E0, vR 165]) (dg dc332_10 33 rfl) rfl rfl ?_
  refine ex_pu (ls' := [vR E0, vR 0, vR 165, vR 181, vI v4, vI z_105, j6]) (st' := [vI (v4 + 1), vR E0, vR 165]) (dg dc332_10 34 rfl) rfl rfl ?_
  refine ex_ialdS (dg dc332_10 35 rfl) hZ hf (fun _ hf => ?_)
  refine ex_pu (ls' := [vR E0, vR 0, vR 165, vR 181, vI v4, vI z_105, j6]) (st' := [vR E0, vI (Z.2 ((v4 + 1)).toNat), vR 165]) (dg dc332_10 36 rfl) rfl rfl ?_
  refine ex_pu (ls' := [vR E0, vR 0, vR 165, vR 181, vI v4, vI z_105, j6]) (st' := [vI v4, vR E0, vI (Z.2 ((v4 + 1)).toNat), vR 165]) (dg dc332_10 37 rfl) rfl rfl ?_
  refine ex_pu (ls' := [vR E0, vR 0, vR 165, vR 181, vI v4, vI z_105, j6]) (st' := [vI 2, vI v4, vR E0, vI (Z.2 ((v4 + 1)).toNat), vR 165]) (dg dc332_10 38 rfl) rfl rfl ?_
  refine ex_pu (ls' := [vR E0, vR 0, vR 165, vR 181, vI v4, vI z_105, j6]) (st' := [vI (v4 + 2), vR E0, vI (Z.2 ((v4 + 1)).toNat), vR 165]) (dg dc332_10 39 rfl) rfl rfl ?_
  refine ex_ialdS (dg dc332_11 0 rfl) hZ hf (fun _ hf => ?_)
  refine ex_cI (vs := [vR 165, vI (Z.2 ((v4 + 1)).toNat), vI (Z.2 ((v4 + 2)).toNat)]) (st' := []) (F := (mo_fits (Z.2 ((v4 + 1)).toNat) (Z.2 ((v4 + 2)).toNat) M_104)) (Or.inr (Or.inl ⟨rfl, (dg dc332_11 1 rfl)⟩)) rfl rfl (rk1 (LOC.st (Nat.le_of_ble_eq_true rfl) rfl) rfl) rfl (fun _ r9 => mo_fits_ok (Z := Z) (d := e9) (by omega)  r9) hf (fun z_108 M_107 he_106 hf => ?_)
  refine ex_pu (ls' := [vR E0, vR 0, vR 165, vR 181, vI v4, vI z_105, vI z_108]) (st' := []) (dg dc332_11 2 rfl) rfl rfl ?_
  refine ex_pu (ls' := [vR E0, vR 0, vR 165, vR 181, vI v4, vI z_105, vI z_108]) (st' := [vR 165]) (dg dc332_11 3 rfl) rfl rfl ?_
  refine ex_cI (vs := [vR 165]) (st' := []) (F := (mo_thrown  M_107)) (Or.inr (Or.inl ⟨rfl, (dg dc332_11 4 rfl)⟩)) rfl rfl (rk1 (LOC.st (Nat.le_of_ble_eq_true rfl) rfl) rfl) rfl (fun _ r9 => mo_thrown_ok (Z := Z) (d := e9) (by omega)  r9) hf (fun z_111 M_110 he_109 hf => ?_)
  refine ex_pu (ls' := [vR E0, vR 0, vR 165, vR 181, vI v4, vI z_105, vI z_108]) (st' := [vI z_105, vI z_111]) (dg dc332_11 5 rfl) rfl rfl ?_
  refine ex_icmp (t := 851) (dg dc332_11 6 rfl) rfl hf (fun _ hf => ?_) (fun _ hf => ?_)
  · refine ex_pu (ls' := [vR E0, vR 0, vR 165, vR 181, vI v4, vI z_105, vI z_108]) (st' := [vI z_105]) (dg dc332_11 9 rfl) rfl rfl ?_
    refine ex_if (t := 875) (dg dc332_11 10 rfl) rfl hf (fun _ hf => ?_) (fun _ hf => ?_)
    · refine ex_goto (t := 2318) (dg dc332_11 23 rfl) rfl rfl ?_
      refine ex_pu (ls' := [vR E0, vR 0, vR 165, vR 181, vI (v4 + 6), vI z_105, vI z_108]) (st' := []) (dg dc332_34 18 rfl) rfl rfl ?_
      refine ex_goto (t := 23) (dg dc332_34 19 rfl) rfl rfl ?_
      exact kb (v4 + 6) M_110 _ _ hf
    · refine ex_pu (ls' := [vR E0, vR 0, vR 165, vR 181, vI v4, vI z_105, vI z_108]) (st' := [vR 181]) (dg dc332_11 11 rfl) rfl rfl ?_
      refine ex_pu (ls' := [vR E0, vR 0, vR 165, vR 181, vI v4, vI z_105, vI z_108]) (st' := [vI 0, vR 181]) (dg dc332_11 12 rfl) rfl rfl ?_
      refine ex_lald (dg dc332_11 13 rfl) (LOC.st (Nat.le_of_ble_eq_true rfl) rfl) rfl hf (fun _ hf => ?_)
      refine ex_pu (ls' := [vR E0, vR 0, vR 165, vR 181, vI v4, vI z_105, vI z_108]) (st' := [vI z_108, vJ (M_110 181 0)]) (dg dc332_11 14 rfl) rfl rfl ?_
      refine ex_if (t := 868) (dg dc332_11 15 rfl) rfl hf (fun _ hf => ?_) (fun _ hf => ?_)
      · refine ex_pu (ls' := [vR E0, vR 0, vR 165, vR 181, vI v4, vI z_105, vI z_108]) (st' := [vJ 0, vJ (M_110 181 0)]) (dg dc332_11 18 rfl) rfl rfl ?_
        refine ex_pu (ls' := [vR E0, vR 0, vR 165, vR 181, vI v4, vI z_105, vI z_108]) (st' := [vI (lCmp (M_110 181 0) 0)]) (dg dc332_11 19 rfl) rfl rfl ?_
        refine ex_if (t := 875) (dg dc332_11 20 rfl) rfl hf (fun _ hf => ?_) (fun _ hf => ?_)
        · refine ex_goto (t := 2318) (dg dc332_11 23 rfl) rfl rfl ?_
          refine ex_pu (ls' := [vR E0, vR 0, vR 165, vR 181, vI (v4 + 6), vI z_105, vI z_108]) (st' := []) (dg dc332_34 18 rfl) rfl rfl ?_
          refine ex_goto (t := 23) (dg dc332_34 19 rfl) rfl rfl ?_
          exact kb (v4 + 6) M_110 _ _ hf
        · refine ex_pu (ls' := [vR E0, vR 0, vR 165, vR 181, vI v4, vI z_105, vI z_108]) (st' := [vI 0]) (dg dc332_11 21 rfl) rfl rfl ?_
          exact ex_ire (dg dc332_11 22 rfl) rfl hf
      · refine ex_pu (ls' := [vR E0, vR 0, vR 165, vR 181, vI v4, vI z_105, vI z_108]) (st' := [vJ 1, vJ (M_110 181 0)]) (dg dc332_11 16 rfl) rfl rfl ?_
        refine ex_goto (t := 869) (dg dc332_11 17 rfl) rfl rfl ?_
        refine ex_pu (ls' := [vR E0, vR 0, vR 165, vR 181, vI v4, vI z_105, vI z_108]) (st' := [vI (lCmp (M_110 181 0) 1)]) (dg dc332_11 19 rfl) rfl rfl ?_
        refine ex_if (t := 875) (dg dc332_11 20 rfl) rfl hf (fun _ hf => ?_) (fun _ hf => ?_)
        · refine ex_goto (t := 2318) (dg dc332_11 23 rfl) rfl rfl ?_
          refine ex_pu (ls' := [vR E0, vR 0, vR 165, vR 181, vI (v4 + 6), vI z_105, vI z_108]) (st' := []) (dg dc332_34 18 rfl) rfl rfl ?_
          refine ex_goto (t := 23) (dg dc332_34 19 rfl) rfl rfl ?_
          exact kb (v4 + 6) M_110 _ _ hf
        · refine ex_pu (ls' := [vR E0, vR 0, vR 165, vR 181, vI v4, vI z_105, vI z_108]) (st' := [vI 0]) (dg dc332_11 21 rfl) rfl rfl ?_
          exact ex_ire (dg dc332_11 22 rfl) rfl hf
  · refine ex_pu (ls' := [vR E0, vR 0, vR 165, vR 181, vI v4, vI z_105, vI z_108]) (st' := [vI 0]) (dg dc332_11 7 rfl) rfl rfl ?_
    exact ex_ire (dg dc332_11 8 rfl) rfl hf
def drv_main_J878 (Z : Nat × (Nat → Int))  (Kb : Int → MM → OR) (v4 : Int) (M : MM) : OR :=
  (bif inB (v4 + 1) Z.1 then (bI (drv_go (Z.2 ((v4 + 1)).toNat) M) fun z_115 M_114 => (bif inB (v4 + 1) Z.1 then (bI (mo_go (Z.2 ((v4 + 1)).toNat) M_114) fun z_118 M_117 => (bI (mo_thrown  M_117) fun z_121 M_120 => (bif cmpB .eq z_121 z_115 then (bif cmpB .ne z_115 0 then (Kb (v4 + 6) M_120) else (bif inB 0 1 then (bif cmpB .eq (lCmp (M_120 181 0) (w32 z_118)) 0 then (Kb (v4 + 6) M_120) else some (rI 0, M_120)) else none)) else some (rI 0, M_120)))) else none)) else none)
set_option maxRecDepth 4000 in
theorem drv_main_J878_ok {Z : Nat × (Nat → Int)} {d : Nat} (hd : 52 ≤ d) (hZ : Z.1 < 2147483648)  {Kb : Int → MM → OR} {res : AR × MM} (kb : ∀ (x4 : Int) (M : MM) (j5 j6 : AV), Kb x4 M = some res → EX Z d 332 23 [vR E0, vR 0, vR 165, vR 181, vI x4, j5, j6] [] M res) : ∀ (v4 : Int) (M : MM) (j5 j6 : AV), drv_main_J878 Z  Kb v4 M = some res → EX Z d 332 878 [vR E0, vR 0, vR 165, vR 181, vI v4, j5, j6] [] M res := by
  obtain ⟨e9, rfl⟩ : ∃ e9, d = e9 + 1 := ⟨d - 1, by omega⟩
  intro v4 M j5 j6 hf
  unfold drv_main_J878 at hf
  refine ex_pu (ls' := [vR E0, vR 0, vR 165, vR 181, vI v4, j5, j6]) (st' := [vR 0]) (dg dc332_11 24 rfl) rfl rfl ?_
  refine ex_pu (ls' := [vR E0, vR 0, vR 165, vR 181, vI v4, j5, j6]) (st' := [vR E0, vR 0]) (dg dc332_11 25 rfl) rfl rfl ?_
  refine ex_pu (ls' := [vR E0, vR 0, vR 165, vR 181, vI v4, j5, j6]) (st' := [vI v4, vR E0, vR 0]) (dg dc332_11 26 rfl) rfl rfl ?_
  refine ex_pu (ls' := [vR E0, vR 0, vR 165, vR 181, vI v4, j5, j6]) (st' := [vI 1, vI v4, vR E0, vR 0]) (dg dc332_11 27 rfl) rfl rfl ?_
  refine ex_pu (ls' := [vR E0, vR 0, vR 165, vR 181, vI v4, j5, j6]) (st' := [vI (v4 + 1), vR E0, vR 0]) (dg dc332_11 28 rfl) rfl rfl ?_
  refine ex_ialdS (dg dc332_11 29 rfl) hZ hf (fun _ hf => ?_)
  refine ex_pu (ls' := [vR E0, vR 0, vR 165, vR 181, vI v4, j5, j6]) (st' := [vR 181, vI (Z.2 ((v4 + 1)).toNat), vR 0]) (dg dc332_11 30 rfl) rfl rfl ?_
  refine ex_cI (vs := [vR 0, vI (Z.2 ((v4 + 1)).toNat), vR 181]) (st' := []) (F := (drv_go (Z.2 ((v4 + 1)).toNat) M)) (Or.inl ⟨rfl, (dg dc332_11 31 rfl)⟩) rfl rfl (Or.inl rfl) rfl (fun _ r9 => drv_go_ok (Z := Z) (d := e9) (by omega)  r9) hf (fun z_115 M_114 he_113 hf => ?_)
  refine ex_pu (ls' := [vR E0, vR 0, vR 165, vR 181, vI v4, vI z_115, j6]) (st' := []) (dg dc332_11 32 rfl) rfl rfl ?_
  refine ex_pu (ls' := [vR E0, vR 0, vR 165, vR 181, vI v4, vI z_115, j6]) (st' := [vR 165]) (dg dc332_11 33 rfl) rfl rfl ?_
  refine ex_pu (ls' := [vR E0, vR 0, vR 165, vR 181, vI v4, vI z_115, j6]) (st' := [vR E0, vR 165]) (dg dc332_11 34 rfl) rfl rfl ?_
  refine ex_pu (ls' := [vR E0, vR 0, vR 165, vR 181, vI v4, vI z_115, j6]) (st' := [vI v4, vR E0, vR 165]) (dg dc332_11 35 rfl) rfl rfl ?_
  refine ex_pu (ls' := [vR E0, vR 0, vR 165, vR 181, vI v4, vI z_115, j6]) (st' := [vI 1, vI v4, vR E0, vR 165]) (dg dc332_11 36 rfl) rfl rfl ?_
  refine ex_pu (ls' := [vR E0, vR 0, vR 165, vR 181, vI v4, vI z_115, j6]) (st' := [vI (v4 + 1), vR E0, vR 165]) (dg dc332_11 37 rfl) rfl rfl ?_
  refine ex_ialdS (dg dc332_11 38 rfl) hZ hf (fun _ hf => ?_)
  refine ex_cI (vs := [vR 165, vI (Z.2 ((v4 + 1)).toNat)]) (st' := []) (F := (mo_go (Z.2 ((v4 + 1)).toNat) M_114)) (Or.inr (Or.inl ⟨rfl, (dg dc332_11 39 rfl)⟩)) rfl rfl (rk1 (LOC.st (Nat.le_of_ble_eq_true rfl) rfl) rfl) rfl (fun _ r9 => mo_go_ok (Z := Z) (d := e9) (by omega)  r9) hf (fun z_118 M_117 he_116 hf => ?_)
  refine ex_pu (ls' := [vR E0, vR 0, vR 165, vR 181, vI v4, vI z_115, vI z_118]) (st' := []) (dg dc332_12 0 rfl) rfl rfl ?_
  refine ex_pu (ls' := [vR E0, vR 0, vR 165, vR 181, vI v4, vI z_115, vI z_118]) (st' := [vR 165]) (dg dc332_12 1 rfl) rfl rfl ?_
  refine ex_cI (vs := [vR 165]) (st' := []) (F := (mo_thrown  M_117)) (Or.inr (Or.inl ⟨rfl, (dg dc332_12 2 rfl)⟩)) rfl rfl (rk1 (LOC.st (Nat.le_of_ble_eq_true rfl) rfl) rfl) rfl (fun _ r9 => mo_thrown_ok (Z := Z) (d := e9) (by omega)  r9) hf (fun z_121 M_120 he_119 hf => ?_)
  refine ex_pu (ls' := [vR E0, vR 0, vR 165, vR 181, vI v4, vI z_115, vI z_118]) (st' := [vI z_115, vI z_121]) (dg dc332_12 3 rfl) rfl rfl ?_
  refine ex_icmp (t := 914) (dg dc332_12 4 rfl) rfl hf (fun _ hf => ?_) (fun _ hf => ?_)
  · refine ex_pu (ls' := [vR E0, vR 0, vR 165, vR 181, vI v4, vI z_115, vI z_118]) (st' := [vI z_115]) (dg dc332_12 7 rfl) rfl rfl ?_
    refine ex_if (t := 931) (dg dc332_12 8 rfl) rfl hf (fun _ hf => ?_) (fun _ hf => ?_)
    · refine ex_goto (t := 2318) (dg dc332_12 18 rfl) rfl rfl ?_
      refine ex_pu (ls' := [vR E0, vR 0, vR 165, vR 181, vI (v4 + 6), vI z_115, vI z_118]) (st' := []) (dg dc332_34 18 rfl) rfl rfl ?_
      refine ex_goto (t := 23) (dg dc332_34 19 rfl) rfl rfl ?_
      exact kb (v4 + 6) M_120 _ _ hf
    · refine ex_pu (ls' := [vR E0, vR 0, vR 165, vR 181, vI v4, vI z_115, vI z_118]) (st' := [vR 181]) (dg dc332_12 9 rfl) rfl rfl ?_
      refine ex_pu (ls' := [vR E0, vR 0, vR 165, vR 181, vI v4, vI z_115, vI z_118]) (st' := [vI 0, vR 181]) (dg dc332_12 10 rfl) rfl rfl ?_
      refine ex_lald (dg dc332_12 11 rfl) (LOC.st (Nat.le_of_ble_eq_true rfl) rfl) rfl hf (fun _ hf => ?_)
      refine ex_pu (ls' := [vR E0, vR 0, vR 165, vR 181, vI v4, vI z_115, vI z_118]) (st' := [vI z_118, vJ (M_120 181 0)]) (dg dc332_12 12 rfl) rfl rfl ?_
      refine ex_pu (ls' := [vR E0, vR 0, vR 165, vR 181, vI v4, vI z_115, vI z_118]) (st' := [vJ (w32 z_118), vJ (M_120 181 0)]) (dg dc332_12 13 rfl) rfl rfl ?_
      refine ex_pu (ls' := [vR E0, vR 0, vR 165, vR 181, vI v4, vI z_115, vI z_118]) (st' := [vI (lCmp (M_120 181 0) (w32 z_118))]) (dg dc332_12 14 rfl) rfl rfl ?_
      refine ex_if (t := 931) (dg dc332_12 15 rfl) rfl hf (fun _ hf => ?_) (fun _ hf => ?_)
      · refine ex_goto (t := 2318) (dg dc332_12 18 rfl) rfl rfl ?_
        refine ex_pu (ls' := [vR E0, vR 0, vR 165, vR 181, vI (v4 + 6), vI z_115, vI z_118]) (st' := []) (dg dc332_34 18 rfl) rfl rfl ?_
        refine ex_goto (t := 23) (dg dc332_34 19 rfl) rfl rfl ?_
        exact kb (v4 + 6) M_120 _ _ hf
      · refine ex_pu (ls' := [vR E0, vR 0, vR 165, vR 181, vI v4, vI z_115, vI z_118]) (st' := [vI 0]) (dg dc332_12 16 rfl) rfl rfl ?_
        exact ex_ire (dg dc332_12 17 rfl) rfl hf
  · refine ex_pu (ls' := [vR E0, vR 0, vR 165, vR 181, vI v4, vI z_115, vI z_118]) (st' := [vI 0]) (dg dc332_12 5 rfl) rfl rfl ?_
    exact ex_ire (dg dc332_12 6 rfl) rfl hf
def drv_main_J934 (Z : Nat × (Nat → Int))  (Kb : Int → MM → OR) (v4 : Int) (M : MM) : OR :=
  (bif inB (v4 + 1) Z.1 then (bI (drv_delay (Z.2 ((v4 + 1)).toNat) M) fun z_125 M_124 => (bif inB (v4 + 1) Z.1 then (bI (mo_delay (Z.2 ((v4 + 1)).toNat) M_124) fun z_128 M_127 => (bI (mo_thrown  M_127) fun z_131 M_130 => (bif cmpB .eq z_131 z_125 then (bif cmpB .ne z_125 0 then (Kb (v4 + 6) M_130) else (bif inB 0 1 then (bif cmpB .eq (lCmp (M_130 181 0) (w32 z_128)) 0 then (Kb (v4 + 6) M_130) else some (rI 0, M_130)) else none)) else some (rI 0, M_130)))) else none)) else none)
set_option maxRecDepth 4000 in
theorem drv_main_J934_ok {Z : Nat × (Nat → Int)} {d : Nat} (hd : 52 ≤ d) (hZ : Z.1 < 2147483648)  {Kb : Int → MM → OR} {res : AR × MM} (kb : ∀ (x4 : Int) (M : MM) (j5 j6 : AV), Kb x4 M = some res → EX Z d 332 23 [vR E0, vR 0, vR 165, vR 181, vI x4, j5, j6] [] M res) : ∀ (v4 : Int) (M : MM) (j5 j6 : AV), drv_main_J934 Z  Kb v4 M = some res → EX Z d 332 934 [vR E0, vR 0, vR 165, vR 181, vI v4, j5, j6] [] M res := by
  obtain ⟨e9, rfl⟩ : ∃ e9, d = e9 + 1 := ⟨d - 1, by omega⟩
  intro v4 M j5 j6 hf
  unfold drv_main_J934 at hf
  refine ex_pu (ls' := [vR E0, vR 0, vR 165, vR 181, vI v4, j5, j6]) (st' := [vR 0]) (dg dc332_12 19 rfl) rfl rfl ?_
  refine ex_pu (ls' := [vR E0, vR 0, vR 165, vR 181, vI v4, j5, j6]) (st' := [vR E0, vR 0]) (dg dc332_12 20 rfl) rfl rfl ?_
  refine ex_pu (ls' := [vR E0, vR 0, vR 165, vR 181, vI v4, j5, j6]) (st' := [vI v4, vR E0, vR 0]) (dg dc332_12 21 rfl) rfl rfl ?_
  refine ex_pu (ls' := [vR E0, vR 0, vR 165, vR 181, vI v4, j5, j6]) (st' := [vI 1, vI v4, vR E0, vR 0]) (dg dc332_12 22 rfl) rfl rfl ?_
  refine ex_pu (ls' := [vR E0, vR 0, vR 165, vR 181, vI v4, j5, j6]) (st' := [vI (v4 + 1), vR E0, vR 0]) (dg dc332_12 23 rfl) rfl rfl ?_
  refine ex_ialdS (dg dc332_12 24 rfl) hZ hf (fun _ hf => ?_)
  refine ex_pu (ls' := [vR E0, vR 0, vR 165, vR 181, vI v4, j5, j6]) (st' := [vR 181, vI (Z.2 ((v4 + 1)).toNat), vR 0]) (dg dc332_12 25 rfl) rfl rfl ?_
  refine ex_cI (vs := [vR 0, vI (Z.2 ((v4 + 1)).toNat), vR 181]) (st' := []) (F := (drv_delay (Z.2 ((v4 + 1)).toNat) M)) (Or.inl ⟨rfl, (dg dc332_12 26 rfl)⟩) rfl rfl (Or.inl rfl) rfl (fun _ r9 => drv_delay_ok (Z := Z) (d := e9) (by omega)  r9) hf (fun z_125 M_124 he_123 hf => ?_)
  refine ex_pu (ls' := [vR E0, vR 0, vR 165, vR 181, vI v4, vI z_125, j6]) (st' := []) (dg dc332_12 27 rfl) rfl rfl ?_
  refine ex_pu (ls' := [vR E0, vR 0, vR 165, vR 181, vI v4, vI z_125, j6]) (st' := [vR 165]) (dg dc332_12 28 rfl) rfl rfl ?_
  refine ex_pu (ls' := [vR E0, vR 0, vR 165, vR 181, vI v4, vI z_125, j6]) (st' := [vR E0, vR 165]) (dg dc332_12 29 rfl) rfl rfl ?_
  refine ex_pu (ls' := [vR E0, vR 0, vR 165, vR 181, vI v4, vI z_125, j6]) (st' := [vI v4, vR E0, vR 165]) (dg dc332_12 30 rfl) rfl rfl ?_
  refine ex_pu (ls' := [vR E0, vR 0, vR 165, vR 181, vI v4, vI z_125, j6]) (st' := [vI 1, vI v4, vR E0, vR 165]) (dg dc332_12 31 rfl) rfl rfl ?_
  refine ex_pu (ls' := [vR E0, vR 0, vR 165, vR 181, vI v4, vI z_125, j6]) (st' := [vI (v4 + 1), vR E0, vR 165]) (dg dc332_12 32 rfl) rfl rfl ?_
  refine ex_ialdS (dg dc332_12 33 rfl) hZ hf (fun _ hf => ?_)
  refine ex_cI (vs := [vR 165, vI (Z.2 ((v4 + 1)).toNat)]) (st' := []) (F := (mo_delay (Z.2 ((v4 + 1)).toNat) M_124)) (Or.inr (Or.inl ⟨rfl, (dg dc332_12 34 rfl)⟩)) rfl rfl (rk1 (LOC.st (Nat.le_of_ble_eq_true rfl) rfl) rfl) rfl (fun _ r9 => mo_delay_ok (Z := Z) (d := e9) (by omega)  r9) hf (fun z_128 M_127 he_126 hf => ?_)
  refine ex_pu (ls' := [vR E0, vR 0, vR 165, vR 181, vI v4, vI z_125, vI z_128]) (st' := []) (dg dc332_12 35 rfl) rfl rfl ?_
  refine ex_pu (ls' := [vR E0, vR 0, vR 165, vR 181, vI v4, vI z_125, vI z_128]) (st' := [vR 165]) (dg dc332_12 36 rfl) rfl rfl ?_
  refine ex_cI (vs := [vR 165]) (st' := []) (F := (mo_thrown  M_127)) (Or.inr (Or.inl ⟨rfl, (dg dc332_12 37 rfl)⟩)) rfl rfl (rk1 (LOC.st (Nat.le_of_ble_eq_true rfl) rfl) rfl) rfl (fun _ r9 => mo_thrown_ok (Z := Z) (d := e9) (by omega)  r9) hf (fun z_131 M_130 he_129 hf => ?_)
  refine ex_pu (ls' := [vR E0, vR 0, vR 165, vR 181, vI v4, vI z_125, vI z_128]) (st' := [vI z_125, vI z_131]) (dg dc332_12 38 rfl) rfl rfl ?_
  refine ex_icmp (t := 970) (dg dc332_12 39 rfl) rfl hf (fun _ hf => ?_) (fun _ hf => ?_)
  · refine ex_pu (ls' := [vR E0, vR 0, vR 165, vR 181, vI v4, vI z_125, vI z_128]) (st' := [vI z_125]) (dg dc332_13 2 rfl) rfl rfl ?_
    refine ex_if (t := 987) (dg dc332_13 3 rfl) rfl hf (fun _ hf => ?_) (fun _ hf => ?_)
    · refine ex_goto (t := 2318) (dg dc332_13 13 rfl) rfl rfl ?_
      refine ex_pu (ls' := [vR E0, vR 0, vR 165, vR 181, vI (v4 + 6), vI z_125, vI z_128]) (st' := []) (dg dc332_34 18 rfl) rfl rfl ?_
      refine ex_goto (t := 23) (dg dc332_34 19 rfl) rfl rfl ?_
      exact kb (v4 + 6) M_130 _ _ hf
    · refine ex_pu (ls' := [vR E0, vR 0, vR 165, vR 181, vI v4, vI z_125, vI z_128]) (st' := [vR 181]) (dg dc332_13 4 rfl) rfl rfl ?_
      refine ex_pu (ls' := [vR E0, vR 0, vR 165, vR 181, vI v4, vI z_125, vI z_128]) (st' := [vI 0, vR 181]) (dg dc332_13 5 rfl) rfl rfl ?_
      refine ex_lald (dg dc332_13 6 rfl) (LOC.st (Nat.le_of_ble_eq_true rfl) rfl) rfl hf (fun _ hf => ?_)
      refine ex_pu (ls' := [vR E0, vR 0, vR 165, vR 181, vI v4, vI z_125, vI z_128]) (st' := [vI z_128, vJ (M_130 181 0)]) (dg dc332_13 7 rfl) rfl rfl ?_
      refine ex_pu (ls' := [vR E0, vR 0, vR 165, vR 181, vI v4, vI z_125, vI z_128]) (st' := [vJ (w32 z_128), vJ (M_130 181 0)]) (dg dc332_13 8 rfl) rfl rfl ?_
      refine ex_pu (ls' := [vR E0, vR 0, vR 165, vR 181, vI v4, vI z_125, vI z_128]) (st' := [vI (lCmp (M_130 181 0) (w32 z_128))]) (dg dc332_13 9 rfl) rfl rfl ?_
      refine ex_if (t := 987) (dg dc332_13 10 rfl) rfl hf (fun _ hf => ?_) (fun _ hf => ?_)
      · refine ex_goto (t := 2318) (dg dc332_13 13 rfl) rfl rfl ?_
        refine ex_pu (ls' := [vR E0, vR 0, vR 165, vR 181, vI (v4 + 6), vI z_125, vI z_128]) (st' := []) (dg dc332_34 18 rfl) rfl rfl ?_
        refine ex_goto (t := 23) (dg dc332_34 19 rfl) rfl rfl ?_
        exact kb (v4 + 6) M_130 _ _ hf
      · refine ex_pu (ls' := [vR E0, vR 0, vR 165, vR 181, vI v4, vI z_125, vI z_128]) (st' := [vI 0]) (dg dc332_13 11 rfl) rfl rfl ?_
        exact ex_ire (dg dc332_13 12 rfl) rfl hf
  · refine ex_pu (ls' := [vR E0, vR 0, vR 165, vR 181, vI v4, vI z_125, vI z_128]) (st' := [vI 0]) (dg dc332_13 0 rfl) rfl rfl ?_
    exact ex_ire (dg dc332_13 1 rfl) rfl hf
def drv_main_J990 (Z : Nat × (Nat → Int))  (Kb : Int → MM → OR) (v4 : Int) (M : MM) : OR :=
  (bif inB (v4 + 1) Z.1 then (bI (drv_pay (Z.2 ((v4 + 1)).toNat) M) fun z_135 M_134 => (bif inB (v4 + 1) Z.1 then (bI (mo_pay (Z.2 ((v4 + 1)).toNat) M_134) fun z_138 M_137 => (bI (mo_thrown  M_137) fun z_141 M_140 => (bif cmpB .eq z_141 z_135 then (bif cmpB .ne z_135 0 then (Kb (v4 + 6) M_140) else (bif inB 0 1 then (bif cmpB .eq (lCmp (M_140 181 0) (w32 z_138)) 0 then (Kb (v4 + 6) M_140) else some (rI 0, M_140)) else none)) else some (rI 0, M_140)))) else none)) else none)
set_option maxRecDepth 4000 in
theorem drv_main_J990_ok {Z : Nat × (Nat → Int)} {d : Nat} (hd : 52 ≤ d) (hZ : Z.1 < 2147483648)  {Kb : Int → MM → OR} {res : AR × MM} (kb : ∀ (x4 : Int) (M : MM) (j5 j6 : AV), Kb x4 M = some res → EX Z d 332 23 [vR E0, vR 0, vR 165, vR 181, vI x4, j5, j6] [] M res) : ∀ (v4 : Int) (M : MM) (j5 j6 : AV), drv_main_J990 Z  Kb v4 M = some res → EX Z d 332 990 [vR E0, vR 0, vR 165, vR 181, vI v4, j5, j6] [] M res := by
  obtain ⟨e9, rfl⟩ : ∃ e9, d = e9 + 1 := ⟨d - 1, by omega⟩
  intro v4 M j5 j6 hf
  unfold drv_main_J990 at hf
  refine ex_pu (ls' := [vR E0, vR 0, vR 165, vR 181, vI v4, j5, j6]) (st' := [vR 0]) (dg dc332_13 14 rfl) rfl rfl ?_
  refine ex_pu (ls' := [vR E0, vR 0, vR 165, vR 181, vI v4, j5, j6]) (st' := [vR E0, vR 0]) (dg dc332_13 15 rfl) rfl rfl ?_
  refine ex_pu (ls' := [vR E0, vR 0, vR 165, vR 181, vI v4, j5, j6]) (st' := [vI v4, vR E0, vR 0]) (dg dc332_13 16 rfl) rfl rfl ?_
  refine ex_pu (ls' := [vR E0, vR 0, vR 165, vR 181, vI v4, j5, j6]) (st' := [vI 1, vI v4, vR E0, vR 0]) (dg dc332_13 17 rfl) rfl rfl ?_
  refine ex_pu (ls' := [vR E0, vR 0, vR 165, vR 181, vI v4, j5, j6]) (st' := [vI (v4 + 1), vR E0, vR 0]) (dg dc332_13 18 rfl) rfl rfl ?_
  refine ex_ialdS (dg dc332_13 19 rfl) hZ hf (fun _ hf => ?_)
  refine ex_pu (ls' := [vR E0, vR 0, vR 165, vR 181, vI v4, j5, j6]) (st' := [vR 181, vI (Z.2 ((v4 + 1)).toNat), vR 0]) (dg dc332_13 20 rfl) rfl rfl ?_
  refine ex_cI (vs := [vR 0, vI (Z.2 ((v4 + 1)).toNat), vR 181]) (st' := []) (F := (drv_pay (Z.2 ((v4 + 1)).toNat) M)) (Or.inl ⟨rfl, (dg dc332_13 21 rfl)⟩) rfl rfl (Or.inl rfl) rfl (fun _ r9 => drv_pay_ok (Z := Z) (d := e9) (by omega)  r9) hf (fun z_135 M_134 he_133 hf => ?_)
  refine ex_pu (ls' := [vR E0, vR 0, vR 165, vR 181, vI v4, vI z_135, j6]) (st' := []) (dg dc332_13 22 rfl) rfl rfl ?_
  refine ex_pu (ls' := [vR E0, vR 0, vR 165, vR 181, vI v4, vI z_135, j6]) (st' := [vR 165]) (dg dc332_13 23 rfl) rfl rfl ?_
  refine ex_pu (ls' := [vR E0, vR 0, vR 165, vR 181, vI v4, vI z_135, j6]) (st' := [vR E0, vR 165]) (dg dc332_13 24 rfl) rfl rfl ?_
  refine ex_pu (ls' := [vR E0, vR 0, vR 165, vR 181, vI v4, vI z_135, j6]) (st' := [vI v4, vR E0, vR 165]) (dg dc332_13 25 rfl) rfl rfl ?_
  refine ex_pu (ls' := [vR E0, vR 0, vR 165, vR 181, vI v4, vI z_135, j6]) (st' := [vI 1, vI v4, vR E0, vR 165]) (dg dc332_13 26 rfl) rfl rfl ?_
  refine ex_pu (ls' := [vR E0, vR 0, vR 165, vR 181, vI v4, vI z_135, j6]) (st' := [vI (v4 + 1), vR E0, vR 165]) (dg dc332_13 27 rfl) rfl rfl ?_
  refine ex_ialdS (dg dc332_13 28 rfl) hZ hf (fun _ hf => ?_)
  refine ex_cI (vs := [vR 165, vI (Z.2 ((v4 + 1)).toNat)]) (st' := []) (F := (mo_pay (Z.2 ((v4 + 1)).toNat) M_134)) (Or.inr (Or.inl ⟨rfl, (dg dc332_13 29 rfl)⟩)) rfl rfl (rk1 (LOC.st (Nat.le_of_ble_eq_true rfl) rfl) rfl) rfl (fun _ r9 => mo_pay_ok (Z := Z) (d := e9) (by omega)  r9) hf (fun z_138 M_137 he_136 hf => ?_)
  refine ex_pu (ls' := [vR E0, vR 0, vR 165, vR 181, vI v4, vI z_135, vI z_138]) (st' := []) (dg dc332_13 30 rfl) rfl rfl ?_
  refine ex_pu (ls' := [vR E0, vR 0, vR 165, vR 181, vI v4, vI z_135, vI z_138]) (st' := [vR 165]) (dg dc332_13 31 rfl) rfl rfl ?_
  refine ex_cI (vs := [vR 165]) (st' := []) (F := (mo_thrown  M_137)) (Or.inr (Or.inl ⟨rfl, (dg dc332_13 32 rfl)⟩)) rfl rfl (rk1 (LOC.st (Nat.le_of_ble_eq_true rfl) rfl) rfl) rfl (fun _ r9 => mo_thrown_ok (Z := Z) (d := e9) (by omega)  r9) hf (fun z_141 M_140 he_139 hf => ?_)
  refine ex_pu (ls' := [vR E0, vR 0, vR 165, vR 181, vI v4, vI z_135, vI z_138]) (st' := [vI z_135, vI z_141]) (dg dc332_13 33 rfl) rfl rfl ?_
  refine ex_icmp (t := 1026) (dg dc332_13 34 rfl) rfl hf (fun _ hf => ?_) (fun _ hf => ?_)
  · refine ex_pu (ls' := [vR E0, vR 0, vR 165, vR 181, vI v4, vI z_135, vI z_138]) (st' := [vI z_135]) (dg dc332_13 37 rfl) rfl rfl ?_
    refine ex_if (t := 1043) (dg dc332_13 38 rfl) rfl hf (fun _ hf => ?_) (fun _ hf => ?_)
    · refine ex_goto (t := 2318) (dg dc332_14 8 rfl) rfl rfl ?_
      refine ex_pu (ls' := [vR E0, vR 0, vR 165, vR 181, vI (v4 + 6), vI z_135, vI z_138]) (st' := []) (dg dc332_34 18 rfl) rfl rfl ?_
      refine ex_goto (t := 23) (dg dc332_34 19 rfl) rfl rfl ?_
      exact kb (v4 + 6) M_140 _ _ hf
    · refine ex_pu (ls' := [vR E0, vR 0, vR 165, vR 181, vI v4, vI z_135, vI z_138]) (st' := [vR 181]) (dg dc332_13 39 rfl) rfl rfl ?_
      refine ex_pu (ls' := [vR E0, vR 0, vR 165, vR 181, vI v4, vI z_135, vI z_138]) (st' := [vI 0, vR 181]) (dg dc332_14 0 rfl) rfl rfl ?_
      refine ex_lald (dg dc332_14 1 rfl) (LOC.st (Nat.le_of_ble_eq_true rfl) rfl) rfl hf (fun _ hf => ?_)
      refine ex_pu (ls' := [vR E0, vR 0, vR 165, vR 181, vI v4, vI z_135, vI z_138]) (st' := [vI z_138, vJ (M_140 181 0)]) (dg dc332_14 2 rfl) rfl rfl ?_
      refine ex_pu (ls' := [vR E0, vR 0, vR 165, vR 181, vI v4, vI z_135, vI z_138]) (st' := [vJ (w32 z_138), vJ (M_140 181 0)]) (dg dc332_14 3 rfl) rfl rfl ?_
      refine ex_pu (ls' := [vR E0, vR 0, vR 165, vR 181, vI v4, vI z_135, vI z_138]) (st' := [vI (lCmp (M_140 181 0) (w32 z_138))]) (dg dc332_14 4 rfl) rfl rfl ?_
      refine ex_if (t := 1043) (dg dc332_14 5 rfl) rfl hf (fun _ hf => ?_) (fun _ hf => ?_)
      · refine ex_goto (t := 2318) (dg dc332_14 8 rfl) rfl rfl ?_
        refine ex_pu (ls' := [vR E0, vR 0, vR 165, vR 181, vI (v4 + 6), vI z_135, vI z_138]) (st' := []) (dg dc332_34 18 rfl) rfl rfl ?_
        refine ex_goto (t := 23) (dg dc332_34 19 rfl) rfl rfl ?_
        exact kb (v4 + 6) M_140 _ _ hf
      · refine ex_pu (ls' := [vR E0, vR 0, vR 165, vR 181, vI v4, vI z_135, vI z_138]) (st' := [vI 0]) (dg dc332_14 6 rfl) rfl rfl ?_
        exact ex_ire (dg dc332_14 7 rfl) rfl hf
  · refine ex_pu (ls' := [vR E0, vR 0, vR 165, vR 181, vI v4, vI z_135, vI z_138]) (st' := [vI 0]) (dg dc332_13 35 rfl) rfl rfl ?_
    exact ex_ire (dg dc332_13 36 rfl) rfl hf
def drv_main_J1046 (Z : Nat × (Nat → Int))  (Kb : Int → MM → OR) (v4 : Int) (M : MM) : OR :=
  (bif inB (v4 + 1) Z.1 then (bI (drv_take (Z.2 ((v4 + 1)).toNat) M) fun z_145 M_144 => (bif inB (v4 + 1) Z.1 then (bI (mo_take (Z.2 ((v4 + 1)).toNat) M_144) fun z_148 M_147 => (bI (mo_thrown  M_147) fun z_151 M_150 => (bif cmpB .eq z_151 z_145 then (bif cmpB .ne z_145 0 then (Kb (v4 + 6) M_150) else (bif inB 0 1 then (bif cmpB .eq (lCmp (M_150 181 0) (w32 z_148)) 0 then (Kb (v4 + 6) M_150) else some (rI 0, M_150)) else none)) else some (rI 0, M_150)))) else none)) else none)
set_option maxRecDepth 4000 in
theorem drv_main_J1046_ok {Z : Nat × (Nat → Int)} {d : Nat} (hd : 52 ≤ d) (hZ : Z.1 < 2147483648)  {Kb : Int → MM → OR} {res : AR × MM} (kb : ∀ (x4 : Int) (M : MM) (j5 j6 : AV), Kb x4 M = some res → EX Z d 332 23 [vR E0, vR 0, vR 165, vR 181, vI x4, j5, j6] [] M res) : ∀ (v4 : Int) (M : MM) (j5 j6 : AV), drv_main_J1046 Z  Kb v4 M = some res → EX Z d 332 1046 [vR E0, vR 0, vR 165, vR 181, vI v4, j5, j6] [] M res := by
  obtain ⟨e9, rfl⟩ : ∃ e9, d = e9 + 1 := ⟨d - 1, by omega⟩
  intro v4 M j5 j6 hf
  unfold drv_main_J1046 at hf
  refine ex_pu (ls' := [vR E0, vR 0, vR 165, vR 181, vI v4, j5, j6]) (st' := [vR 0]) (dg dc332_14 9 rfl) rfl rfl ?_
  refine ex_pu (ls' := [vR E0, vR 0, vR 165, vR 181, vI v4, j5, j6]) (st' := [vR E0, vR 0]) (dg dc332_14 10 rfl) rfl rfl ?_
  refine ex_pu (ls' := [vR E0, vR 0, vR 165, vR 181, vI v4, j5, j6]) (st' := [vI v4, vR E0, vR 0]) (dg dc332_14 11 rfl) rfl rfl ?_
  refine ex_pu (ls' := [vR E0, vR 0, vR 165, vR 181, vI v4, j5, j6]) (st' := [vI 1, vI v4, vR E0, vR 0]) (dg dc332_14 12 rfl) rfl rfl ?_
  refine ex_pu (ls' := [vR E0, vR 0, vR 165, vR 181, vI v4, j5, j6]) (st' := [vI (v4 + 1), vR E0, vR 0]) (dg dc332_14 13 rfl) rfl rfl ?_
  refine ex_ialdS (dg dc332_14 14 rfl) hZ hf (fun _ hf => ?_)
  refine ex_pu (ls' := [vR E0, vR 0, vR 165, vR 181, vI v4, j5, j6]) (st' := [vR 181, vI (Z.2 ((v4 + 1)).toNat), vR 0]) (dg dc332_14 15 rfl) rfl rfl ?_
  refine ex_cI (vs := [vR 0, vI (Z.2 ((v4 + 1)).toNat), vR 181]) (st' := []) (F := (drv_take (Z.2 ((v4 + 1)).toNat) M)) (Or.inl ⟨rfl, (dg dc332_14 16 rfl)⟩) rfl rfl (Or.inl rfl) rfl (fun _ r9 => drv_take_ok (Z := Z) (d := e9) (by omega)  r9) hf (fun z_145 M_144 he_143 hf => ?_)
  refine ex_pu (ls' := [vR E0, vR 0, vR 165, vR 181, vI v4, vI z_145, j6]) (st' := []) (dg dc332_14 17 rfl) rfl rfl ?_
  refine ex_pu (ls' := [vR E0, vR 0, vR 165, vR 181, vI v4, vI z_145, j6]) (st' := [vR 165]) (dg dc332_14 18 rfl) rfl rfl ?_
  refine ex_pu (ls' := [vR E0, vR 0, vR 165, vR 181, vI v4, vI z_145, j6]) (st' := [vR E0, vR 165]) (dg dc332_14 19 rfl) rfl rfl ?_
  refine ex_pu (ls' := [vR E0, vR 0, vR 165, vR 181, vI v4, vI z_145, j6]) (st' := [vI v4, vR E0, vR 165]) (dg dc332_14 20 rfl) rfl rfl ?_
  refine ex_pu (ls' := [vR E0, vR 0, vR 165, vR 181, vI v4, vI z_145, j6]) (st' := [vI 1, vI v4, vR E0, vR 165]) (dg dc332_14 21 rfl) rfl rfl ?_
  refine ex_pu (ls' := [vR E0, vR 0, vR 165, vR 181, vI v4, vI z_145, j6]) (st' := [vI (v4 + 1), vR E0, vR 165]) (dg dc332_14 22 rfl) rfl rfl ?_
  refine ex_ialdS (dg dc332_14 23 rfl) hZ hf (fun _ hf => ?_)
  refine ex_cI (vs := [vR 165, vI (Z.2 ((v4 + 1)).toNat)]) (st' := []) (F := (mo_take (Z.2 ((v4 + 1)).toNat) M_144)) (Or.inr (Or.inl ⟨rfl, (dg dc332_14 24 rfl)⟩)) rfl rfl (rk1 (LOC.st (Nat.le_of_ble_eq_true rfl) rfl) rfl) rfl (fun _ r9 => mo_take_ok (Z := Z) (d := e9) (by omega)  r9) hf (fun z_148 M_147 he_146 hf => ?_)
  refine ex_pu (ls' := [vR E0, vR 0, vR 165, vR 181, vI v4, vI z_145, vI z_148]) (st' := []) (dg dc332_14 25 rfl) rfl rfl ?_
  refine ex_pu (ls' := [vR E0, vR 0, vR 165, vR 181, vI v4, vI z_145, vI z_148]) (st' := [vR 165]) (dg dc332_14 26 rfl) rfl rfl ?_
  refine ex_cI (vs := [vR 165]) (st' := []) (F := (mo_thrown  M_147)) (Or.inr (Or.inl ⟨rfl, (dg dc332_14 27 rfl)⟩)) rfl rfl (rk1 (LOC.st (Nat.le_of_ble_eq_true rfl) rfl) rfl) rfl (fun _ r9 => mo_thrown_ok (Z := Z) (d := e9) (by omega)  r9) hf (fun z_151 M_150 he_149 hf => ?_)
  refine ex_pu (ls' := [vR E0, vR 0, vR 165, vR 181, vI v4, vI z_145, vI z_148]) (st' := [vI z_145, vI z_151]) (dg dc332_14 28 rfl) rfl rfl ?_
  refine ex_icmp (t := 1082) (dg dc332_14 29 rfl) rfl hf (fun _ hf => ?_) (fun _ hf => ?_)
  · refine ex_pu (ls' := [vR E0, vR 0, vR 165, vR 181, vI v4, vI z_145, vI z_148]) (st' := [vI z_145]) (dg dc332_14 32 rfl) rfl rfl ?_
    refine ex_if (t := 1099) (dg dc332_14 33 rfl) rfl hf (fun _ hf => ?_) (fun _ hf => ?_)
    · refine ex_goto (t := 2318) (dg dc332_15 3 rfl) rfl rfl ?_
      refine ex_pu (ls' := [vR E0, vR 0, vR 165, vR 181, vI (v4 + 6), vI z_145, vI z_148]) (st' := []) (dg dc332_34 18 rfl) rfl rfl ?_
      refine ex_goto (t := 23) (dg dc332_34 19 rfl) rfl rfl ?_
      exact kb (v4 + 6) M_150 _ _ hf
    · refine ex_pu (ls' := [vR E0, vR 0, vR 165, vR 181, vI v4, vI z_145, vI z_148]) (st' := [vR 181]) (dg dc332_14 34 rfl) rfl rfl ?_
      refine ex_pu (ls' := [vR E0, vR 0, vR 165, vR 181, vI v4, vI z_145, vI z_148]) (st' := [vI 0, vR 181]) (dg dc332_14 35 rfl) rfl rfl ?_
      refine ex_lald (dg dc332_14 36 rfl) (LOC.st (Nat.le_of_ble_eq_true rfl) rfl) rfl hf (fun _ hf => ?_)
      refine ex_pu (ls' := [vR E0, vR 0, vR 165, vR 181, vI v4, vI z_145, vI z_148]) (st' := [vI z_148, vJ (M_150 181 0)]) (dg dc332_14 37 rfl) rfl rfl ?_
      refine ex_pu (ls' := [vR E0, vR 0, vR 165, vR 181, vI v4, vI z_145, vI z_148]) (st' := [vJ (w32 z_148), vJ (M_150 181 0)]) (dg dc332_14 38 rfl) rfl rfl ?_
      refine ex_pu (ls' := [vR E0, vR 0, vR 165, vR 181, vI v4, vI z_145, vI z_148]) (st' := [vI (lCmp (M_150 181 0) (w32 z_148))]) (dg dc332_14 39 rfl) rfl rfl ?_
      refine ex_if (t := 1099) (dg dc332_15 0 rfl) rfl hf (fun _ hf => ?_) (fun _ hf => ?_)
      · refine ex_goto (t := 2318) (dg dc332_15 3 rfl) rfl rfl ?_
        refine ex_pu (ls' := [vR E0, vR 0, vR 165, vR 181, vI (v4 + 6), vI z_145, vI z_148]) (st' := []) (dg dc332_34 18 rfl) rfl rfl ?_
        refine ex_goto (t := 23) (dg dc332_34 19 rfl) rfl rfl ?_
        exact kb (v4 + 6) M_150 _ _ hf
      · refine ex_pu (ls' := [vR E0, vR 0, vR 165, vR 181, vI v4, vI z_145, vI z_148]) (st' := [vI 0]) (dg dc332_15 1 rfl) rfl rfl ?_
        exact ex_ire (dg dc332_15 2 rfl) rfl hf
  · refine ex_pu (ls' := [vR E0, vR 0, vR 165, vR 181, vI v4, vI z_145, vI z_148]) (st' := [vI 0]) (dg dc332_14 30 rfl) rfl rfl ?_
    exact ex_ire (dg dc332_14 31 rfl) rfl hf
def drv_main_J1102 (Z : Nat × (Nat → Int))  (Kb : Int → MM → OR) (v4 : Int) (M : MM) : OR :=
  (bif inB (v4 + 1) Z.1 then (bI (drv_lay (Z.2 ((v4 + 1)).toNat) M) fun z_155 M_154 => (bif inB (v4 + 1) Z.1 then (bI (mo_lay (Z.2 ((v4 + 1)).toNat) M_154) fun z_158 M_157 => (bI (mo_thrown  M_157) fun z_161 M_160 => (bif cmpB .eq z_161 z_155 then (bif cmpB .ne z_155 0 then (Kb (v4 + 6) M_160) else (bif inB 0 1 then (bif cmpB .eq (lCmp (M_160 181 0) (w32 z_158)) 0 then (Kb (v4 + 6) M_160) else some (rI 0, M_160)) else none)) else some (rI 0, M_160)))) else none)) else none)
set_option maxRecDepth 4000 in
theorem drv_main_J1102_ok {Z : Nat × (Nat → Int)} {d : Nat} (hd : 52 ≤ d) (hZ : Z.1 < 2147483648)  {Kb : Int → MM → OR} {res : AR × MM} (kb : ∀ (x4 : Int) (M : MM) (j5 j6 : AV), Kb x4 M = some res → EX Z d 332 23 [vR E0, vR 0, vR 165, vR 181, vI x4, j5, j6] [] M res) : ∀ (v4 : Int) (M : MM) (j5 j6 : AV), drv_main_J1102 Z  Kb v4 M = some res → EX Z d 332 1102 [vR E0, vR 0, vR 165, vR 181, vI v4, j5, j6] [] M res := by
  obtain ⟨e9, rfl⟩ : ∃ e9, d = e9 + 1 := ⟨d - 1, by omega⟩
  intro v4 M j5 j6 hf
  unfold drv_main_J1102 at hf
  refine ex_pu (ls' := [vR E0, vR 0, vR 165, vR 181, vI v4, j5, j6]) (st' := [vR 0]) (dg dc332_15 4 rfl) rfl rfl ?_
  refine ex_pu (ls' := [vR E0, vR 0, vR 165, vR 181, vI v4, j5, j6]) (st' := [vR E0, vR 0]) (dg dc332_15 5 rfl) rfl rfl ?_
  refine ex_pu (ls' := [vR E0, vR 0, vR 165, vR 181, vI v4, j5, j6]) (st' := [vI v4, vR E0, vR 0]) (dg dc332_15 6 rfl) rfl rfl ?_
  refine ex_pu (ls' := [vR E0, vR 0, vR 165, vR 181, vI v4, j5, j6]) (st' := [vI 1, vI v4, vR E0, vR 0]) (dg dc332_15 7 rfl) rfl rfl ?_
  refine ex_pu (ls' := [vR E0, vR 0, vR 165, vR 181, vI v4, j5, j6]) (st' := [vI (v4 + 1), vR E0, vR 0]) (dg dc332_15 8 rfl) rfl rfl ?_
  refine ex_ialdS (dg dc332_15 9 rfl) hZ hf (fun _ hf => ?_)
  refine ex_pu (ls' := [vR E0, vR 0, vR 165, vR 181, vI v4, j5, j6]) (st' := [vR 181, vI (Z.2 ((v4 + 1)).toNat), vR 0]) (dg dc332_15 10 rfl) rfl rfl ?_
  refine ex_cI (vs := [vR 0, vI (Z.2 ((v4 + 1)).toNat), vR 181]) (st' := []) (F := (drv_lay (Z.2 ((v4 + 1)).toNat) M)) (Or.inl ⟨rfl, (dg dc332_15 11 rfl)⟩) rfl rfl (Or.inl rfl) rfl (fun _ r9 => drv_lay_ok (Z := Z) (d := e9) (by omega)  r9) hf (fun z_155 M_154 he_153 hf => ?_)
  refine ex_pu (ls' := [vR E0, vR 0, vR 165, vR 181, vI v4, vI z_155, j6]) (st' := []) (dg dc332_15 12 rfl) rfl rfl ?_
  refine ex_pu (ls' := [vR E0, vR 0, vR 165, vR 181, vI v4, vI z_155, j6]) (st' := [vR 165]) (dg dc332_15 13 rfl) rfl rfl ?_
  refine ex_pu (ls' := [vR E0, vR 0, vR 165, vR 181, vI v4, vI z_155, j6]) (st' := [vR E0, vR 165]) (dg dc332_15 14 rfl) rfl rfl ?_
  refine ex_pu (ls' := [vR E0, vR 0, vR 165, vR 181, vI v4, vI z_155, j6]) (st' := [vI v4, vR E0, vR 165]) (dg dc332_15 15 rfl) rfl rfl ?_
  refine ex_pu (ls' := [vR E0, vR 0, vR 165, vR 181, vI v4, vI z_155, j6]) (st' := [vI 1, vI v4, vR E0, vR 165]) (dg dc332_15 16 rfl) rfl rfl ?_
  refine ex_pu (ls' := [vR E0, vR 0, vR 165, vR 181, vI v4, vI z_155, j6]) (st' := [vI (v4 + 1), vR E0, vR 165]) (dg dc332_15 17 rfl) rfl rfl ?_
  refine ex_ialdS (dg dc332_15 18 rfl) hZ hf (fun _ hf => ?_)
  refine ex_cI (vs := [vR 165, vI (Z.2 ((v4 + 1)).toNat)]) (st' := []) (F := (mo_lay (Z.2 ((v4 + 1)).toNat) M_154)) (Or.inr (Or.inl ⟨rfl, (dg dc332_15 19 rfl)⟩)) rfl rfl (rk1 (LOC.st (Nat.le_of_ble_eq_true rfl) rfl) rfl) rfl (fun _ r9 => mo_lay_ok (Z := Z) (d := e9) (by omega)  r9) hf (fun z_158 M_157 he_156 hf => ?_)
  refine ex_pu (ls' := [vR E0, vR 0, vR 165, vR 181, vI v4, vI z_155, vI z_158]) (st' := []) (dg dc332_15 20 rfl) rfl rfl ?_
  refine ex_pu (ls' := [vR E0, vR 0, vR 165, vR 181, vI v4, vI z_155, vI z_158]) (st' := [vR 165]) (dg dc332_15 21 rfl) rfl rfl ?_
  refine ex_cI (vs := [vR 165]) (st' := []) (F := (mo_thrown  M_157)) (Or.inr (Or.inl ⟨rfl, (dg dc332_15 22 rfl)⟩)) rfl rfl (rk1 (LOC.st (Nat.le_of_ble_eq_true rfl) rfl) rfl) rfl (fun _ r9 => mo_thrown_ok (Z := Z) (d := e9) (by omega)  r9) hf (fun z_161 M_160 he_159 hf => ?_)
  refine ex_pu (ls' := [vR E0, vR 0, vR 165, vR 181, vI v4, vI z_155, vI z_158]) (st' := [vI z_155, vI z_161]) (dg dc332_15 23 rfl) rfl rfl ?_
  refine ex_icmp (t := 1138) (dg dc332_15 24 rfl) rfl hf (fun _ hf => ?_) (fun _ hf => ?_)
  · refine ex_pu (ls' := [vR E0, vR 0, vR 165, vR 181, vI v4, vI z_155, vI z_158]) (st' := [vI z_155]) (dg dc332_15 27 rfl) rfl rfl ?_
    refine ex_if (t := 1155) (dg dc332_15 28 rfl) rfl hf (fun _ hf => ?_) (fun _ hf => ?_)
    · refine ex_goto (t := 2318) (dg dc332_15 38 rfl) rfl rfl ?_
      refine ex_pu (ls' := [vR E0, vR 0, vR 165, vR 181, vI (v4 + 6), vI z_155, vI z_158]) (st' := []) (dg dc332_34 18 rfl) rfl rfl ?_
      refine ex_goto (t := 23) (dg dc332_34 19 rfl) rfl rfl ?_
      exact kb (v4 + 6) M_160 _ _ hf
    · refine ex_pu (ls' := [vR E0, vR 0, vR 165, vR 181, vI v4, vI z_155, vI z_158]) (st' := [vR 181]) (dg dc332_15 29 rfl) rfl rfl ?_
      refine ex_pu (ls' := [vR E0, vR 0, vR 165, vR 181, vI v4, vI z_155, vI z_158]) (st' := [vI 0, vR 181]) (dg dc332_15 30 rfl) rfl rfl ?_
      refine ex_lald (dg dc332_15 31 rfl) (LOC.st (Nat.le_of_ble_eq_true rfl) rfl) rfl hf (fun _ hf => ?_)
      refine ex_pu (ls' := [vR E0, vR 0, vR 165, vR 181, vI v4, vI z_155, vI z_158]) (st' := [vI z_158, vJ (M_160 181 0)]) (dg dc332_15 32 rfl) rfl rfl ?_
      refine ex_pu (ls' := [vR E0, vR 0, vR 165, vR 181, vI v4, vI z_155, vI z_158]) (st' := [vJ (w32 z_158), vJ (M_160 181 0)]) (dg dc332_15 33 rfl) rfl rfl ?_
      refine ex_pu (ls' := [vR E0, vR 0, vR 165, vR 181, vI v4, vI z_155, vI z_158]) (st' := [vI (lCmp (M_160 181 0) (w32 z_158))]) (dg dc332_15 34 rfl) rfl rfl ?_
      refine ex_if (t := 1155) (dg dc332_15 35 rfl) rfl hf (fun _ hf => ?_) (fun _ hf => ?_)
      · refine ex_goto (t := 2318) (dg dc332_15 38 rfl) rfl rfl ?_
        refine ex_pu (ls' := [vR E0, vR 0, vR 165, vR 181, vI (v4 + 6), vI z_155, vI z_158]) (st' := []) (dg dc332_34 18 rfl) rfl rfl ?_
        refine ex_goto (t := 23) (dg dc332_34 19 rfl) rfl rfl ?_
        exact kb (v4 + 6) M_160 _ _ hf
      · refine ex_pu (ls' := [vR E0, vR 0, vR 165, vR 181, vI v4, vI z_155, vI z_158]) (st' := [vI 0]) (dg dc332_15 36 rfl) rfl rfl ?_
        exact ex_ire (dg dc332_15 37 rfl) rfl hf
  · refine ex_pu (ls' := [vR E0, vR 0, vR 165, vR 181, vI v4, vI z_155, vI z_158]) (st' := [vI 0]) (dg dc332_15 25 rfl) rfl rfl ?_
    exact ex_ire (dg dc332_15 26 rfl) rfl hf
def drv_main_J1158 (Z : Nat × (Nat → Int))  (Kb : Int → MM → OR) (v4 : Int) (M : MM) : OR :=
  (bif inB (v4 + 1) Z.1 then (bI (drv_free (Z.2 ((v4 + 1)).toNat) M) fun z_165 M_164 => (bif inB (v4 + 1) Z.1 then (bI (mo_free (Z.2 ((v4 + 1)).toNat) M_164) fun z_168 M_167 => (bI (mo_thrown  M_167) fun z_171 M_170 => (bif cmpB .eq z_171 z_165 then (bif cmpB .ne z_165 0 then (Kb (v4 + 6) M_170) else (bif inB 0 1 then (bif cmpB .eq (lCmp (M_170 181 0) (w32 z_168)) 0 then (Kb (v4 + 6) M_170) else some (rI 0, M_170)) else none)) else some (rI 0, M_170)))) else none)) else none)
set_option maxRecDepth 4000 in
theorem drv_main_J1158_ok {Z : Nat × (Nat → Int)} {d : Nat} (hd : 52 ≤ d) (hZ : Z.1 < 2147483648)  {Kb : Int → MM → OR} {res : AR × MM} (kb : ∀ (x4 : Int) (M : MM) (j5 j6 : AV), Kb x4 M = some res → EX Z d 332 23 [vR E0, vR 0, vR 165, vR 181, vI x4, j5, j6] [] M res) : ∀ (v4 : Int) (M : MM) (j5 j6 : AV), drv_main_J1158 Z  Kb v4 M = some res → EX Z d 332 1158 [vR E0, vR 0, vR 165, vR 181, vI v4, j5, j6] [] M res := by
  obtain ⟨e9, rfl⟩ : ∃ e9, d = e9 + 1 := ⟨d - 1, by omega⟩
  intro v4 M j5 j6 hf
  unfold drv_main_J1158 at hf
  refine ex_pu (ls' := [vR E0, vR 0, vR 165, vR 181, vI v4, j5, j6]) (st' := [vR 0]) (dg dc332_15 39 rfl) rfl rfl ?_
  refine ex_pu (ls' := [vR E0, vR 0, vR 165, vR 181, vI v4, j5, j6]) (st' := [vR E0, vR 0]) (dg dc332_16 0 rfl) rfl rfl ?_
  refine ex_pu (ls' := [vR E0, vR 0, vR 165, vR 181, vI v4, j5, j6]) (st' := [vI v4, vR E0, vR 0]) (dg dc332_16 1 rfl) rfl rfl ?_
  refine ex_pu (ls' := [vR E0, vR 0, vR 165, vR 181, vI v4, j5, j6]) (st' := [vI 1, vI v4, vR E0, vR 0]) (dg dc332_16 2 rfl) rfl rfl ?_
  refine ex_pu (ls' := [vR E0, vR 0, vR 165, vR 181, vI v4, j5, j6]) (st' := [vI (v4 + 1), vR E0, vR 0]) (dg dc332_16 3 rfl) rfl rfl ?_
  refine ex_ialdS (dg dc332_16 4 rfl) hZ hf (fun _ hf => ?_)
  refine ex_pu (ls' := [vR E0, vR 0, vR 165, vR 181, vI v4, j5, j6]) (st' := [vR 181, vI (Z.2 ((v4 + 1)).toNat), vR 0]) (dg dc332_16 5 rfl) rfl rfl ?_
  refine ex_cI (vs := [vR 0, vI (Z.2 ((v4 + 1)).toNat), vR 181]) (st' := []) (F := (drv_free (Z.2 ((v4 + 1)).toNat) M)) (Or.inl ⟨rfl, (dg dc332_16 6 rfl)⟩) rfl rfl (Or.inl rfl) rfl (fun _ r9 => drv_free_ok (Z := Z) (d := e9) (by omega)  r9) hf (fun z_165 M_164 he_163 hf => ?_)
  refine ex_pu (ls' := [vR E0, vR 0, vR 165, vR 181, vI v4, vI z_165, j6]) (st' := []) (dg dc332_16 7 rfl) rfl rfl ?_
  refine ex_pu (ls' := [vR E0, vR 0, vR 165, vR 181, vI v4, vI z_165, j6]) (st' := [vR 165]) (dg dc332_16 8 rfl) rfl rfl ?_
  refine ex_pu (ls' := [vR E0, vR 0, vR 165, vR 181, vI v4, vI z_165, j6]) (st' := [vR E0, vR 165]) (dg dc332_16 9 rfl) rfl rfl ?_
  refine ex_pu (ls' := [vR E0, vR 0, vR 165, vR 181, vI v4, vI z_165, j6]) (st' := [vI v4, vR E0, vR 165]) (dg dc332_16 10 rfl) rfl rfl ?_
  refine ex_pu (ls' := [vR E0, vR 0, vR 165, vR 181, vI v4, vI z_165, j6]) (st' := [vI 1, vI v4, vR E0, vR 165]) (dg dc332_16 11 rfl) rfl rfl ?_
  refine ex_pu (ls' := [vR E0, vR 0, vR 165, vR 181, vI v4, vI z_165, j6]) (st' := [vI (v4 + 1), vR E0, vR 165]) (dg dc332_16 12 rfl) rfl rfl ?_
  refine ex_ialdS (dg dc332_16 13 rfl) hZ hf (fun _ hf => ?_)
  refine ex_cI (vs := [vR 165, vI (Z.2 ((v4 + 1)).toNat)]) (st' := []) (F := (mo_free (Z.2 ((v4 + 1)).toNat) M_164)) (Or.inr (Or.inl ⟨rfl, (dg dc332_16 14 rfl)⟩)) rfl rfl (rk1 (LOC.st (Nat.le_of_ble_eq_true rfl) rfl) rfl) rfl (fun _ r9 => mo_free_ok (Z := Z) (d := e9) (by omega)  r9) hf (fun z_168 M_167 he_166 hf => ?_)
  refine ex_pu (ls' := [vR E0, vR 0, vR 165, vR 181, vI v4, vI z_165, vI z_168]) (st' := []) (dg dc332_16 15 rfl) rfl rfl ?_
  refine ex_pu (ls' := [vR E0, vR 0, vR 165, vR 181, vI v4, vI z_165, vI z_168]) (st' := [vR 165]) (dg dc332_16 16 rfl) rfl rfl ?_
  refine ex_cI (vs := [vR 165]) (st' := []) (F := (mo_thrown  M_167)) (Or.inr (Or.inl ⟨rfl, (dg dc332_16 17 rfl)⟩)) rfl rfl (rk1 (LOC.st (Nat.le_of_ble_eq_true rfl) rfl) rfl) rfl (fun _ r9 => mo_thrown_ok (Z := Z) (d := e9) (by omega)  r9) hf (fun z_171 M_170 he_169 hf => ?_)
  refine ex_pu (ls' := [vR E0, vR 0, vR 165, vR 181, vI v4, vI z_165, vI z_168]) (st' := [vI z_165, vI z_171]) (dg dc332_16 18 rfl) rfl rfl ?_
  refine ex_icmp (t := 1194) (dg dc332_16 19 rfl) rfl hf (fun _ hf => ?_) (fun _ hf => ?_)
  · refine ex_pu (ls' := [vR E0, vR 0, vR 165, vR 181, vI v4, vI z_165, vI z_168]) (st' := [vI z_165]) (dg dc332_16 22 rfl) rfl rfl ?_
    refine ex_if (t := 1211) (dg dc332_16 23 rfl) rfl hf (fun _ hf => ?_) (fun _ hf => ?_)
    · refine ex_goto (t := 2318) (dg dc332_16 33 rfl) rfl rfl ?_
      refine ex_pu (ls' := [vR E0, vR 0, vR 165, vR 181, vI (v4 + 6), vI z_165, vI z_168]) (st' := []) (dg dc332_34 18 rfl) rfl rfl ?_
      refine ex_goto (t := 23) (dg dc332_34 19 rfl) rfl rfl ?_
      exact kb (v4 + 6) M_170 _ _ hf
    · refine ex_pu (ls' := [vR E0, vR 0, vR 165, vR 181, vI v4, vI z_165, vI z_168]) (st' := [vR 181]) (dg dc332_16 24 rfl) rfl rfl ?_
      refine ex_pu (ls' := [vR E0, vR 0, vR 165, vR 181, vI v4, vI z_165, vI z_168]) (st' := [vI 0, vR 181]) (dg dc332_16 25 rfl) rfl rfl ?_
      refine ex_lald (dg dc332_16 26 rfl) (LOC.st (Nat.le_of_ble_eq_true rfl) rfl) rfl hf (fun _ hf => ?_)
      refine ex_pu (ls' := [vR E0, vR 0, vR 165, vR 181, vI v4, vI z_165, vI z_168]) (st' := [vI z_168, vJ (M_170 181 0)]) (dg dc332_16 27 rfl) rfl rfl ?_
      refine ex_pu (ls' := [vR E0, vR 0, vR 165, vR 181, vI v4, vI z_165, vI z_168]) (st' := [vJ (w32 z_168), vJ (M_170 181 0)]) (dg dc332_16 28 rfl) rfl rfl ?_
      refine ex_pu (ls' := [vR E0, vR 0, vR 165, vR 181, vI v4, vI z_165, vI z_168]) (st' := [vI (lCmp (M_170 181 0) (w32 z_168))]) (dg dc332_16 29 rfl) rfl rfl ?_
      refine ex_if (t := 1211) (dg dc332_16 30 rfl) rfl hf (fun _ hf => ?_) (fun _ hf => ?_)
      · refine ex_goto (t := 2318) (dg dc332_16 33 rfl) rfl rfl ?_
        refine ex_pu (ls' := [vR E0, vR 0, vR 165, vR 181, vI (v4 + 6), vI z_165, vI z_168]) (st' := []) (dg dc332_34 18 rfl) rfl rfl ?_
        refine ex_goto (t := 23) (dg dc332_34 19 rfl) rfl rfl ?_
        exact kb (v4 + 6) M_170 _ _ hf
      · refine ex_pu (ls' := [vR E0, vR 0, vR 165, vR 181, vI v4, vI z_165, vI z_168]) (st' := [vI 0]) (dg dc332_16 31 rfl) rfl rfl ?_
        exact ex_ire (dg dc332_16 32 rfl) rfl hf
  · refine ex_pu (ls' := [vR E0, vR 0, vR 165, vR 181, vI v4, vI z_165, vI z_168]) (st' := [vI 0]) (dg dc332_16 20 rfl) rfl rfl ?_
    exact ex_ire (dg dc332_16 21 rfl) rfl hf
def drv_main_J1214 (Z : Nat × (Nat → Int))  (Kb : Int → MM → OR) (v4 : Int) (M : MM) : OR :=
  (bif inB (v4 + 1) Z.1 then (bI (drv_soonest (Z.2 ((v4 + 1)).toNat) M) fun z_175 M_174 => (bif inB (v4 + 1) Z.1 then (bI (mo_soonest (Z.2 ((v4 + 1)).toNat) M_174) fun z_178 M_177 => (bI (mo_thrown  M_177) fun z_181 M_180 => (bif cmpB .eq z_181 z_175 then (bif cmpB .ne z_175 0 then (Kb (v4 + 6) M_180) else (bif inB 0 1 then (bif cmpB .eq (lCmp (M_180 181 0) (w32 z_178)) 0 then (Kb (v4 + 6) M_180) else some (rI 0, M_180)) else none)) else some (rI 0, M_180)))) else none)) else none)
set_option maxRecDepth 4000 in
theorem drv_main_J1214_ok {Z : Nat × (Nat → Int)} {d : Nat} (hd : 52 ≤ d) (hZ : Z.1 < 2147483648)  {Kb : Int → MM → OR} {res : AR × MM} (kb : ∀ (x4 : Int) (M : MM) (j5 j6 : AV), Kb x4 M = some res → EX Z d 332 23 [vR E0, vR 0, vR 165, vR 181, vI x4, j5, j6] [] M res) : ∀ (v4 : Int) (M : MM) (j5 j6 : AV), drv_main_J1214 Z  Kb v4 M = some res → EX Z d 332 1214 [vR E0, vR 0, vR 165, vR 181, vI v4, j5, j6] [] M res := by
  obtain ⟨e9, rfl⟩ : ∃ e9, d = e9 + 1 := ⟨d - 1, by omega⟩
  intro v4 M j5 j6 hf
  unfold drv_main_J1214 at hf
  refine ex_pu (ls' := [vR E0, vR 0, vR 165, vR 181, vI v4, j5, j6]) (st' := [vR 0]) (dg dc332_16 34 rfl) rfl rfl ?_
  refine ex_pu (ls' := [vR E0, vR 0, vR 165, vR 181, vI v4, j5, j6]) (st' := [vR E0, vR 0]) (dg dc332_16 35 rfl) rfl rfl ?_
  refine ex_pu (ls' := [vR E0, vR 0, vR 165, vR 181, vI v4, j5, j6]) (st' := [vI v4, vR E0, vR 0]) (dg dc332_16 36 rfl) rfl rfl ?_
  refine ex_pu (ls' := [vR E0, vR 0, vR 165, vR 181, vI v4, j5, j6]) (st' := [vI 1, vI v4, vR E0, vR 0]) (dg dc332_16 37 rfl) rfl rfl ?_
  refine ex_pu (ls' := [vR E0, vR 0, vR 165, vR 181, vI v4, j5, j6]) (st' := [vI (v4 + 1), vR E0, vR 0]) (dg dc332_16 38 rfl) rfl rfl ?_
  refine ex_ialdS (dg dc332_16 39 rfl) hZ hf (fun _ hf => ?_)
  refine ex_pu (ls' := [vR E0, vR 0, vR 165, vR 181, vI v4, j5, j6]) (st' := [vR 181, vI (Z.2 ((v4 + 1)).toNat), vR 0]) (dg dc332_17 0 rfl) rfl rfl ?_
  refine ex_cI (vs := [vR 0, vI (Z.2 ((v4 + 1)).toNat), vR 181]) (st' := []) (F := (drv_soonest (Z.2 ((v4 + 1)).toNat) M)) (Or.inl ⟨rfl, (dg dc332_17 1 rfl)⟩) rfl rfl (Or.inl rfl) rfl (fun _ r9 => drv_soonest_ok (Z := Z) (d := e9) (by omega)  r9) hf (fun z_175 M_174 he_173 hf => ?_)
  refine ex_pu (ls' := [vR E0, vR 0, vR 165, vR 181, vI v4, vI z_175, j6]) (st' := []) (dg dc332_17 2 rfl) rfl rfl ?_
  refine ex_pu (ls' := [vR E0, vR 0, vR 165, vR 181, vI v4, vI z_175, j6]) (st' := [vR 165]) (dg dc332_17 3 rfl) rfl rfl ?_
  refine ex_pu (ls' := [vR E0, vR 0, vR 165, vR 181, vI v4, vI z_175, j6]) (st' := [vR E0, vR 165]) (dg dc332_17 4 rfl) rfl rfl ?_
  refine ex_pu (ls' := [vR E0, vR 0, vR 165, vR 181, vI v4, vI z_175, j6]) (st' := [vI v4, vR E0, vR 165]) (dg dc332_17 5 rfl) rfl rfl ?_
  refine ex_pu (ls' := [vR E0, vR 0, vR 165, vR 181, vI v4, vI z_175, j6]) (st' := [vI 1, vI v4, vR E0, vR 165]) (dg dc332_17 6 rfl) rfl rfl ?_
  refine ex_pu (ls' := [vR E0, vR 0, vR 165, vR 181, vI v4, vI z_175, j6]) (st' := [vI (v4 + 1), vR E0, vR 165]) (dg dc332_17 7 rfl) rfl rfl ?_
  refine ex_ialdS (dg dc332_17 8 rfl) hZ hf (fun _ hf => ?_)
  refine ex_cI (vs := [vR 165, vI (Z.2 ((v4 + 1)).toNat)]) (st' := []) (F := (mo_soonest (Z.2 ((v4 + 1)).toNat) M_174)) (Or.inr (Or.inl ⟨rfl, (dg dc332_17 9 rfl)⟩)) rfl rfl (rk1 (LOC.st (Nat.le_of_ble_eq_true rfl) rfl) rfl) rfl (fun _ r9 => mo_soonest_ok (Z := Z) (d := e9) (by omega)  r9) hf (fun z_178 M_177 he_176 hf => ?_)
  refine ex_pu (ls' := [vR E0, vR 0, vR 165, vR 181, vI v4, vI z_175, vI z_178]) (st' := []) (dg dc332_17 10 rfl) rfl rfl ?_
  refine ex_pu (ls' := [vR E0, vR 0, vR 165, vR 181, vI v4, vI z_175, vI z_178]) (st' := [vR 165]) (dg dc332_17 11 rfl) rfl rfl ?_
  refine ex_cI (vs := [vR 165]) (st' := []) (F := (mo_thrown  M_177)) (Or.inr (Or.inl ⟨rfl, (dg dc332_17 12 rfl)⟩)) rfl rfl (rk1 (LOC.st (Nat.le_of_ble_eq_true rfl) rfl) rfl) rfl (fun _ r9 => mo_thrown_ok (Z := Z) (d := e9) (by omega)  r9) hf (fun z_181 M_180 he_179 hf => ?_)
  refine ex_pu (ls' := [vR E0, vR 0, vR 165, vR 181, vI v4, vI z_175, vI z_178]) (st' := [vI z_175, vI z_181]) (dg dc332_17 13 rfl) rfl rfl ?_
  refine ex_icmp (t := 1250) (dg dc332_17 14 rfl) rfl hf (fun _ hf => ?_) (fun _ hf => ?_)
  · refine ex_pu (ls' := [vR E0, vR 0, vR 165, vR 181, vI v4, vI z_175, vI z_178]) (st' := [vI z_175]) (dg dc332_17 17 rfl) rfl rfl ?_
    refine ex_if (t := 1267) (dg dc332_17 18 rfl) rfl hf (fun _ hf => ?_) (fun _ hf => ?_)
    · refine ex_goto (t := 2318) (dg dc332_17 28 rfl) rfl rfl ?_
      refine ex_pu (ls' := [vR E0, vR 0, vR 165, vR 181, vI (v4 + 6), vI z_175, vI z_178]) (st' := []) (dg dc332_34 18 rfl) rfl rfl ?_
      refine ex_goto (t := 23) (dg dc332_34 19 rfl) rfl rfl ?_
      exact kb (v4 + 6) M_180 _ _ hf
    · refine ex_pu (ls' := [vR E0, vR 0, vR 165, vR 181, vI v4, vI z_175, vI z_178]) (st' := [vR 181]) (dg dc332_17 19 rfl) rfl rfl ?_
      refine ex_pu (ls' := [vR E0, vR 0, vR 165, vR 181, vI v4, vI z_175, vI z_178]) (st' := [vI 0, vR 181]) (dg dc332_17 20 rfl) rfl rfl ?_
      refine ex_lald (dg dc332_17 21 rfl) (LOC.st (Nat.le_of_ble_eq_true rfl) rfl) rfl hf (fun _ hf => ?_)
      refine ex_pu (ls' := [vR E0, vR 0, vR 165, vR 181, vI v4, vI z_175, vI z_178]) (st' := [vI z_178, vJ (M_180 181 0)]) (dg dc332_17 22 rfl) rfl rfl ?_
      refine ex_pu (ls' := [vR E0, vR 0, vR 165, vR 181, vI v4, vI z_175, vI z_178]) (st' := [vJ (w32 z_178), vJ (M_180 181 0)]) (dg dc332_17 23 rfl) rfl rfl ?_
      refine ex_pu (ls' := [vR E0, vR 0, vR 165, vR 181, vI v4, vI z_175, vI z_178]) (st' := [vI (lCmp (M_180 181 0) (w32 z_178))]) (dg dc332_17 24 rfl) rfl rfl ?_
      refine ex_if (t := 1267) (dg dc332_17 25 rfl) rfl hf (fun _ hf => ?_) (fun _ hf => ?_)
      · refine ex_goto (t := 2318) (dg dc332_17 28 rfl) rfl rfl ?_
        refine ex_pu (ls' := [vR E0, vR 0, vR 165, vR 181, vI (v4 + 6), vI z_175, vI z_178]) (st' := []) (dg dc332_34 18 rfl) rfl rfl ?_
        refine ex_goto (t := 23) (dg dc332_34 19 rfl) rfl rfl ?_
        exact kb (v4 + 6) M_180 _ _ hf
      · refine ex_pu (ls' := [vR E0, vR 0, vR 165, vR 181, vI v4, vI z_175, vI z_178]) (st' := [vI 0]) (dg dc332_17 26 rfl) rfl rfl ?_
        exact ex_ire (dg dc332_17 27 rfl) rfl hf
  · refine ex_pu (ls' := [vR E0, vR 0, vR 165, vR 181, vI v4, vI z_175, vI z_178]) (st' := [vI 0]) (dg dc332_17 15 rfl) rfl rfl ?_
    exact ex_ire (dg dc332_17 16 rfl) rfl hf
def drv_main_J1270 (Z : Nat × (Nat → Int))  (Kb : Int → MM → OR) (v4 : Int) (M : MM) : OR :=
  (bif inB (v4 + 1) Z.1 then (bI (drv_reached (Z.2 ((v4 + 1)).toNat) M) fun z_185 M_184 => (bif inB (v4 + 1) Z.1 then (bI (mo_reached (Z.2 ((v4 + 1)).toNat) M_184) fun z_188 M_187 => (bI (mo_thrown  M_187) fun z_191 M_190 => (bif cmpB .eq z_191 z_185 then (bif cmpB .ne z_185 0 then (Kb (v4 + 6) M_190) else (bif inB 0 1 then (bif cmpB .eq (lCmp (M_190 181 0) (w32 z_188)) 0 then (Kb (v4 + 6) M_190) else some (rI 0, M_190)) else none)) else some (rI 0, M_190)))) else none)) else none)
set_option maxRecDepth 4000 in
theorem drv_main_J1270_ok {Z : Nat × (Nat → Int)} {d : Nat} (hd : 52 ≤ d) (hZ : Z.1 < 2147483648)  {Kb : Int → MM → OR} {res : AR × MM} (kb : ∀ (x4 : Int) (M : MM) (j5 j6 : AV), Kb x4 M = some res → EX Z d 332 23 [vR E0, vR 0, vR 165, vR 181, vI x4, j5, j6] [] M res) : ∀ (v4 : Int) (M : MM) (j5 j6 : AV), drv_main_J1270 Z  Kb v4 M = some res → EX Z d 332 1270 [vR E0, vR 0, vR 165, vR 181, vI v4, j5, j6] [] M res := by
  obtain ⟨e9, rfl⟩ : ∃ e9, d = e9 + 1 := ⟨d - 1, by omega⟩
  intro v4 M j5 j6 hf
  unfold drv_main_J1270 at hf
  refine ex_pu (ls' := [vR E0, vR 0, vR 165, vR 181, vI v4, j5, j6]) (st' := [vR 0]) (dg dc332_17 29 rfl) rfl rfl ?_
  refine ex_pu (ls' := [vR E0, vR 0, vR 165, vR 181, vI v4, j5, j6]) (st' := [vR E0, vR 0]) (dg dc332_17 30 rfl) rfl rfl ?_
  refine ex_pu (ls' := [vR E0, vR 0, vR 165, vR 181, vI v4, j5, j6]) (st' := [vI v4, vR E0, vR 0]) (dg dc332_17 31 rfl) rfl rfl ?_
  refine ex_pu (ls' := [vR E0, vR 0, vR 165, vR 181, vI v4, j5, j6]) (st' := [vI 1, vI v4, vR E0, vR 0]) (dg dc332_17 32 rfl) rfl rfl ?_
  refine ex_pu (ls' := [vR E0, vR 0, vR 165, vR 181, vI v4, j5, j6]) (st' := [vI (v4 + 1), vR E0, vR 0]) (dg dc332_17 33 rfl) rfl rfl ?_
  refine ex_ialdS (dg dc332_17 34 rfl) hZ hf (fun _ hf => ?_)
  refine ex_pu (ls' := [vR E0, vR 0, vR 165, vR 181, vI v4, j5, j6]) (st' := [vR 181, vI (Z.2 ((v4 + 1)).toNat), vR 0]) (dg dc332_17 35 rfl) rfl rfl ?_
  refine ex_cI (vs := [vR 0, vI (Z.2 ((v4 + 1)).toNat), vR 181]) (st' := []) (F := (drv_reached (Z.2 ((v4 + 1)).toNat) M)) (Or.inl ⟨rfl, (dg dc332_17 36 rfl)⟩) rfl rfl (Or.inl rfl) rfl (fun _ r9 => drv_reached_ok (Z := Z) (d := e9) (by omega)  r9) hf (fun z_185 M_184 he_183 hf => ?_)
  refine ex_pu (ls' := [vR E0, vR 0, vR 165, vR 181, vI v4, vI z_185, j6]) (st' := []) (dg dc332_17 37 rfl) rfl rfl ?_
  refine ex_pu (ls' := [vR E0, vR 0, vR 165, vR 181, vI v4, vI z_185, j6]) (st' := [vR 165]) (dg dc332_17 38 rfl) rfl rfl ?_
  refine ex_pu (ls' := [vR E0, vR 0, vR 165, vR 181, vI v4, vI z_185, j6]) (st' := [vR E0, vR 165]) (dg dc332_17 39 rfl) rfl rfl ?_
  refine ex_pu (ls' := [vR E0, vR 0, vR 165, vR 181, vI v4, vI z_185, j6]) (st' := [vI v4, vR E0, vR 165]) (dg dc332_18 0 rfl) rfl rfl ?_
  refine ex_pu (ls' := [vR E0, vR 0, vR 165, vR 181, vI v4, vI z_185, j6]) (st' := [vI 1, vI v4, vR E0, vR 165]) (dg dc332_18 1 rfl) rfl rfl ?_
  refine ex_pu (ls' := [vR E0, vR 0, vR 165, vR 181, vI v4, vI z_185, j6]) (st' := [vI (v4 + 1), vR E0, vR 165]) (dg dc332_18 2 rfl) rfl rfl ?_
  refine ex_ialdS (dg dc332_18 3 rfl) hZ hf (fun _ hf => ?_)
  refine ex_cI (vs := [vR 165, vI (Z.2 ((v4 + 1)).toNat)]) (st' := []) (F := (mo_reached (Z.2 ((v4 + 1)).toNat) M_184)) (Or.inr (Or.inl ⟨rfl, (dg dc332_18 4 rfl)⟩)) rfl rfl (rk1 (LOC.st (Nat.le_of_ble_eq_true rfl) rfl) rfl) rfl (fun _ r9 => mo_reached_ok (Z := Z) (d := e9) (by omega)  r9) hf (fun z_188 M_187 he_186 hf => ?_)
  refine ex_pu (ls' := [vR E0, vR 0, vR 165, vR 181, vI v4, vI z_185, vI z_188]) (st' := []) (dg dc332_18 5 rfl) rfl rfl ?_
  refine ex_pu (ls' := [vR E0, vR 0, vR 165, vR 181, vI v4, vI z_185, vI z_188]) (st' := [vR 165]) (dg dc332_18 6 rfl) rfl rfl ?_
  refine ex_cI (vs := [vR 165]) (st' := []) (F := (mo_thrown  M_187)) (Or.inr (Or.inl ⟨rfl, (dg dc332_18 7 rfl)⟩)) rfl rfl (rk1 (LOC.st (Nat.le_of_ble_eq_true rfl) rfl) rfl) rfl (fun _ r9 => mo_thrown_ok (Z := Z) (d := e9) (by omega)  r9) hf (fun z_191 M_190 he_189 hf => ?_)
  refine ex_pu (ls' := [vR E0, vR 0, vR 165, vR 181, vI v4, vI z_185, vI z_188]) (st' := [vI z_185, vI z_191]) (dg dc332_18 8 rfl) rfl rfl ?_
  refine ex_icmp (t := 1306) (dg dc332_18 9 rfl) rfl hf (fun _ hf => ?_) (fun _ hf => ?_)
  · refine ex_pu (ls' := [vR E0, vR 0, vR 165, vR 181, vI v4, vI z_185, vI z_188]) (st' := [vI z_185]) (dg dc332_18 12 rfl) rfl rfl ?_
    refine ex_if (t := 1323) (dg dc332_18 13 rfl) rfl hf (fun _ hf => ?_) (fun _ hf => ?_)
    · refine ex_goto (t := 2318) (dg dc332_18 23 rfl) rfl rfl ?_
      refine ex_pu (ls' := [vR E0, vR 0, vR 165, vR 181, vI (v4 + 6), vI z_185, vI z_188]) (st' := []) (dg dc332_34 18 rfl) rfl rfl ?_
      refine ex_goto (t := 23) (dg dc332_34 19 rfl) rfl rfl ?_
      exact kb (v4 + 6) M_190 _ _ hf
    · refine ex_pu (ls' := [vR E0, vR 0, vR 165, vR 181, vI v4, vI z_185, vI z_188]) (st' := [vR 181]) (dg dc332_18 14 rfl) rfl rfl ?_
      refine ex_pu (ls' := [vR E0, vR 0, vR 165, vR 181, vI v4, vI z_185, vI z_188]) (st' := [vI 0, vR 181]) (dg dc332_18 15 rfl) rfl rfl ?_
      refine ex_lald (dg dc332_18 16 rfl) (LOC.st (Nat.le_of_ble_eq_true rfl) rfl) rfl hf (fun _ hf => ?_)
      refine ex_pu (ls' := [vR E0, vR 0, vR 165, vR 181, vI v4, vI z_185, vI z_188]) (st' := [vI z_188, vJ (M_190 181 0)]) (dg dc332_18 17 rfl) rfl rfl ?_
      refine ex_pu (ls' := [vR E0, vR 0, vR 165, vR 181, vI v4, vI z_185, vI z_188]) (st' := [vJ (w32 z_188), vJ (M_190 181 0)]) (dg dc332_18 18 rfl) rfl rfl ?_
      refine ex_pu (ls' := [vR E0, vR 0, vR 165, vR 181, vI v4, vI z_185, vI z_188]) (st' := [vI (lCmp (M_190 181 0) (w32 z_188))]) (dg dc332_18 19 rfl) rfl rfl ?_
      refine ex_if (t := 1323) (dg dc332_18 20 rfl) rfl hf (fun _ hf => ?_) (fun _ hf => ?_)
      · refine ex_goto (t := 2318) (dg dc332_18 23 rfl) rfl rfl ?_
        refine ex_pu (ls' := [vR E0, vR 0, vR 165, vR 181, vI (v4 + 6), vI z_185, vI z_188]) (st' := []) (dg dc332_34 18 rfl) rfl rfl ?_
        refine ex_goto (t := 23) (dg dc332_34 19 rfl) rfl rfl ?_
        exact kb (v4 + 6) M_190 _ _ hf
      · refine ex_pu (ls' := [vR E0, vR 0, vR 165, vR 181, vI v4, vI z_185, vI z_188]) (st' := [vI 0]) (dg dc332_18 21 rfl) rfl rfl ?_
        exact ex_ire (dg dc332_18 22 rfl) rfl hf
  · refine ex_pu (ls' := [vR E0, vR 0, vR 165, vR 181, vI v4, vI z_185, vI z_188]) (st' := [vI 0]) (dg dc332_18 10 rfl) rfl rfl ?_
    exact ex_ire (dg dc332_18 11 rfl) rfl hf
def drv_main_J1326 (Z : Nat × (Nat → Int))  (Kb : Int → MM → OR) (v4 : Int) (M : MM) : OR :=
  (bif inB (v4 + 1) Z.1 then (bI (drv_spared (Z.2 ((v4 + 1)).toNat) M) fun z_195 M_194 => (bif inB (v4 + 1) Z.1 then (bI (mo_spared (Z.2 ((v4 + 1)).toNat) M_194) fun z_198 M_197 => (bI (mo_thrown  M_197) fun z_201 M_200 => (bif cmpB .eq z_201 z_195 then (bif cmpB .ne z_195 0 then (Kb (v4 + 6) M_200) else (bif inB 0 1 then (bif cmpB .eq (lCmp (M_200 181 0) (w32 z_198)) 0 then (Kb (v4 + 6) M_200) else some (rI 0, M_200)) else none)) else some (rI 0, M_200)))) else none)) else none)
set_option maxRecDepth 4000 in
theorem drv_main_J1326_ok {Z : Nat × (Nat → Int)} {d : Nat} (hd : 52 ≤ d) (hZ : Z.1 < 2147483648)  {Kb : Int → MM → OR} {res : AR × MM} (kb : ∀ (x4 : Int) (M : MM) (j5 j6 : AV), Kb x4 M = some res → EX Z d 332 23 [vR E0, vR 0, vR 165, vR 181, vI x4, j5, j6] [] M res) : ∀ (v4 : Int) (M : MM) (j5 j6 : AV), drv_main_J1326 Z  Kb v4 M = some res → EX Z d 332 1326 [vR E0, vR 0, vR 165, vR 181, vI v4, j5, j6] [] M res := by
  obtain ⟨e9, rfl⟩ : ∃ e9, d = e9 + 1 := ⟨d - 1, by omega⟩
  intro v4 M j5 j6 hf
  unfold drv_main_J1326 at hf
  refine ex_pu (ls' := [vR E0, vR 0, vR 165, vR 181, vI v4, j5, j6]) (st' := [vR 0]) (dg dc332_18 24 rfl) rfl rfl ?_
  refine ex_pu (ls' := [vR E0, vR 0, vR 165, vR 181, vI v4, j5, j6]) (st' := [vR E0, vR 0]) (dg dc332_18 25 rfl) rfl rfl ?_
  refine ex_pu (ls' := [vR E0, vR 0, vR 165, vR 181, vI v4, j5, j6]) (st' := [vI v4, vR E0, vR 0]) (dg dc332_18 26 rfl) rfl rfl ?_
  refine ex_pu (ls' := [vR E0, vR 0, vR 165, vR 181, vI v4, j5, j6]) (st' := [vI 1, vI v4, vR E0, vR 0]) (dg dc332_18 27 rfl) rfl rfl ?_
  refine ex_pu (ls' := [vR E0, vR 0, vR 165, vR 181, vI v4, j5, j6]) (st' := [vI (v4 + 1), vR E0, vR 0]) (dg dc332_18 28 rfl) rfl rfl ?_
  refine ex_ialdS (dg dc332_18 29 rfl) hZ hf (fun _ hf => ?_)
  refine ex_pu (ls' := [vR E0, vR 0, vR 165, vR 181, vI v4, j5, j6]) (st' := [vR 181, vI (Z.2 ((v4 + 1)).toNat), vR 0]) (dg dc332_18 30 rfl) rfl rfl ?_
  refine ex_cI (vs := [vR 0, vI (Z.2 ((v4 + 1)).toNat), vR 181]) (st' := []) (F := (drv_spared (Z.2 ((v4 + 1)).toNat) M)) (Or.inl ⟨rfl, (dg dc332_18 31 rfl)⟩) rfl rfl (Or.inl rfl) rfl (fun _ r9 => drv_spared_ok (Z := Z) (d := e9) (by omega)  r9) hf (fun z_195 M_194 he_193 hf => ?_)
  refine ex_pu (ls' := [vR E0, vR 0, vR 165, vR 181, vI v4, vI z_195, j6]) (st' := []) (dg dc332_18 32 rfl) rfl rfl ?_
  refine ex_pu (ls' := [vR E0, vR 0, vR 165, vR 181, vI v4, vI z_195, j6]) (st' := [vR 165]) (dg dc332_18 33 rfl) rfl rfl ?_
  refine ex_pu (ls' := [vR E0, vR 0, vR 165, vR 181, vI v4, vI z_195, j6]) (st' := [vR E0, vR 165]) (dg dc332_18 34 rfl) rfl rfl ?_
  refine ex_pu (ls' := [vR E0, vR 0, vR 165, vR 181, vI v4, vI z_195, j6]) (st' := [vI v4, vR E0, vR 165]) (dg dc332_18 35 rfl) rfl rfl ?_
  refine ex_pu (ls' := [vR E0, vR 0, vR 165, vR 181, vI v4, vI z_195, j6]) (st' := [vI 1, vI v4, vR E0, vR 165]) (dg dc332_18 36 rfl) rfl rfl ?_
  refine ex_pu (ls' := [vR E0, vR 0, vR 165, vR 181, vI v4, vI z_195, j6]) (st' := [vI (v4 + 1), vR E0, vR 165]) (dg dc332_18 37 rfl) rfl rfl ?_
  refine ex_ialdS (dg dc332_18 38 rfl) hZ hf (fun _ hf => ?_)
  refine ex_cI (vs := [vR 165, vI (Z.2 ((v4 + 1)).toNat)]) (st' := []) (F := (mo_spared (Z.2 ((v4 + 1)).toNat) M_194)) (Or.inr (Or.inl ⟨rfl, (dg dc332_18 39 rfl)⟩)) rfl rfl (rk1 (LOC.st (Nat.le_of_ble_eq_true rfl) rfl) rfl) rfl (fun _ r9 => mo_spared_ok (Z := Z) (d := e9) (by omega)  r9) hf (fun z_198 M_197 he_196 hf => ?_)
  refine ex_pu (ls' := [vR E0, vR 0, vR 165, vR 181, vI v4, vI z_195, vI z_198]) (st' := []) (dg dc332_19 0 rfl) rfl rfl ?_
  refine ex_pu (ls' := [vR E0, vR 0, vR 165, vR 181, vI v4, vI z_195, vI z_198]) (st' := [vR 165]) (dg dc332_19 1 rfl) rfl rfl ?_
  refine ex_cI (vs := [vR 165]) (st' := []) (F := (mo_thrown  M_197)) (Or.inr (Or.inl ⟨rfl, (dg dc332_19 2 rfl)⟩)) rfl rfl (rk1 (LOC.st (Nat.le_of_ble_eq_true rfl) rfl) rfl) rfl (fun _ r9 => mo_thrown_ok (Z := Z) (d := e9) (by omega)  r9) hf (fun z_201 M_200 he_199 hf => ?_)
  refine ex_pu (ls' := [vR E0, vR 0, vR 165, vR 181, vI v4, vI z_195, vI z_198]) (st' := [vI z_195, vI z_201]) (dg dc332_19 3 rfl) rfl rfl ?_
  refine ex_icmp (t := 1362) (dg dc332_19 4 rfl) rfl hf (fun _ hf => ?_) (fun _ hf => ?_)
  · refine ex_pu (ls' := [vR E0, vR 0, vR 165, vR 181, vI v4, vI z_195, vI z_198]) (st' := [vI z_195]) (dg dc332_19 7 rfl) rfl rfl ?_
    refine ex_if (t := 1379) (dg dc332_19 8 rfl) rfl hf (fun _ hf => ?_) (fun _ hf => ?_)
    · refine ex_goto (t := 2318) (dg dc332_19 18 rfl) rfl rfl ?_
      refine ex_pu (ls' := [vR E0, vR 0, vR 165, vR 181, vI (v4 + 6), vI z_195, vI z_198]) (st' := []) (dg dc332_34 18 rfl) rfl rfl ?_
      refine ex_goto (t := 23) (dg dc332_34 19 rfl) rfl rfl ?_
      exact kb (v4 + 6) M_200 _ _ hf
    · refine ex_pu (ls' := [vR E0, vR 0, vR 165, vR 181, vI v4, vI z_195, vI z_198]) (st' := [vR 181]) (dg dc332_19 9 rfl) rfl rfl ?_
      refine ex_pu (ls' := [vR E0, vR 0, vR 165, vR 181, vI v4, vI z_195, vI z_198]) (st' := [vI 0, vR 181]) (dg dc332_19 10 rfl) rfl rfl ?_
      refine ex_lald (dg dc332_19 11 rfl) (LOC.st (Nat.le_of_ble_eq_true rfl) rfl) rfl hf (fun _ hf => ?_)
      refine ex_pu (ls' := [vR E0, vR 0, vR 165, vR 181, vI v4, vI z_195, vI z_198]) (st' := [vI z_198, vJ (M_200 181 0)]) (dg dc332_19 12 rfl) rfl rfl ?_
      refine ex_pu (ls' := [vR E0, vR 0, vR 165, vR 181, vI v4, vI z_195, vI z_198]) (st' := [vJ (w32 z_198), vJ (M_200 181 0)]) (dg dc332_19 13 rfl) rfl rfl ?_
      refine ex_pu (ls' := [vR E0, vR 0, vR 165, vR 181, vI v4, vI z_195, vI z_198]) (st' := [vI (lCmp (M_200 181 0) (w32 z_198))]) (dg dc332_19 14 rfl) rfl rfl ?_
      refine ex_if (t := 1379) (dg dc332_19 15 rfl) rfl hf (fun _ hf => ?_) (fun _ hf => ?_)
      · refine ex_goto (t := 2318) (dg dc332_19 18 rfl) rfl rfl ?_
        refine ex_pu (ls' := [vR E0, vR 0, vR 165, vR 181, vI (v4 + 6), vI z_195, vI z_198]) (st' := []) (dg dc332_34 18 rfl) rfl rfl ?_
        refine ex_goto (t := 23) (dg dc332_34 19 rfl) rfl rfl ?_
        exact kb (v4 + 6) M_200 _ _ hf
      · refine ex_pu (ls' := [vR E0, vR 0, vR 165, vR 181, vI v4, vI z_195, vI z_198]) (st' := [vI 0]) (dg dc332_19 16 rfl) rfl rfl ?_
        exact ex_ire (dg dc332_19 17 rfl) rfl hf
  · refine ex_pu (ls' := [vR E0, vR 0, vR 165, vR 181, vI v4, vI z_195, vI z_198]) (st' := [vI 0]) (dg dc332_19 5 rfl) rfl rfl ?_
    exact ex_ire (dg dc332_19 6 rfl) rfl hf
def drv_main_J1418 (Z : Nat × (Nat → Int))  (Kb : Int → MM → OR) (v4 v5 s0 : Int) (M : MM) : OR :=
  (bI (mo_locked s0 M) fun z_208 M_207 => (bI (mo_thrown  M_207) fun z_211 M_210 => (bif cmpB .eq z_211 v5 then (bif cmpB .ne v5 0 then (Kb (v4 + 6) M_210) else (bif inB 0 1 then (bif cmpB .eq (lCmp (M_210 181 0) (w32 z_208)) 0 then (Kb (v4 + 6) M_210) else some (rI 0, M_210)) else none)) else some (rI 0, M_210))))
set_option maxRecDepth 4000 in
theorem drv_main_J1418_ok {Z : Nat × (Nat → Int)} {d : Nat} (hd : 52 ≤ d) (hZ : Z.1 < 2147483648)  {Kb : Int → MM → OR} {res : AR × MM} (kb : ∀ (x4 : Int) (M : MM) (j5 j6 : AV), Kb x4 M = some res → EX Z d 332 23 [vR E0, vR 0, vR 165, vR 181, vI x4, j5, j6] [] M res) : ∀ (v4 v5 s0 : Int) (M : MM) (j6 : AV), drv_main_J1418 Z  Kb v4 v5 s0 M = some res → EX Z d 332 1418 [vR E0, vR 0, vR 165, vR 181, vI v4, vI v5, j6] [vI s0, vR 165] M res := by
  obtain ⟨e9, rfl⟩ : ∃ e9, d = e9 + 1 := ⟨d - 1, by omega⟩
  intro v4 v5 s0 M j6 hf
  unfold drv_main_J1418 at hf
  refine ex_cI (vs := [vR 165, vI s0]) (st' := []) (F := (mo_locked s0 M)) (Or.inr (Or.inl ⟨rfl, (dg dc332_20 2 rfl)⟩)) rfl rfl (rk1 (LOC.st (Nat.le_of_ble_eq_true rfl) rfl) rfl) rfl (fun _ r9 => mo_locked_ok (Z := Z) (d := e9) (by omega)  r9) hf (fun z_208 M_207 he_206 hf => ?_)
  refine ex_pu (ls' := [vR E0, vR 0, vR 165, vR 181, vI v4, vI v5, vI z_208]) (st' := []) (dg dc332_20 3 rfl) rfl rfl ?_
  refine ex_pu (ls' := [vR E0, vR 0, vR 165, vR 181, vI v4, vI v5, vI z_208]) (st' := [vR 165]) (dg dc332_20 4 rfl) rfl rfl ?_
  refine ex_cI (vs := [vR 165]) (st' := []) (F := (mo_thrown  M_207)) (Or.inr (Or.inl ⟨rfl, (dg dc332_20 5 rfl)⟩)) rfl rfl (rk1 (LOC.st (Nat.le_of_ble_eq_true rfl) rfl) rfl) rfl (fun _ r9 => mo_thrown_ok (Z := Z) (d := e9) (by omega)  r9) hf (fun z_211 M_210 he_209 hf => ?_)
  refine ex_pu (ls' := [vR E0, vR 0, vR 165, vR 181, vI v4, vI v5, vI z_208]) (st' := [vI v5, vI z_211]) (dg dc332_20 6 rfl) rfl rfl ?_
  refine ex_icmp (t := 1434) (dg dc332_20 7 rfl) rfl hf (fun _ hf => ?_) (fun _ hf => ?_)
  · refine ex_pu (ls' := [vR E0, vR 0, vR 165, vR 181, vI v4, vI v5, vI z_208]) (st' := [vI v5]) (dg dc332_20 10 rfl) rfl rfl ?_
    refine ex_if (t := 1451) (dg dc332_20 11 rfl) rfl hf (fun _ hf => ?_) (fun _ hf => ?_)
    · refine ex_goto (t := 2318) (dg dc332_20 21 rfl) rfl rfl ?_
      refine ex_pu (ls' := [vR E0, vR 0, vR 165, vR 181, vI (v4 + 6), vI v5, vI z_208]) (st' := []) (dg dc332_34 18 rfl) rfl rfl ?_
      refine ex_goto (t := 23) (dg dc332_34 19 rfl) rfl rfl ?_
      exact kb (v4 + 6) M_210 _ _ hf
    · refine ex_pu (ls' := [vR E0, vR 0, vR 165, vR 181, vI v4, vI v5, vI z_208]) (st' := [vR 181]) (dg dc332_20 12 rfl) rfl rfl ?_
      refine ex_pu (ls' := [vR E0, vR 0, vR 165, vR 181, vI v4, vI v5, vI z_208]) (st' := [vI 0, vR 181]) (dg dc332_20 13 rfl) rfl rfl ?_
      refine ex_lald (dg dc332_20 14 rfl) (LOC.st (Nat.le_of_ble_eq_true rfl) rfl) rfl hf (fun _ hf => ?_)
      refine ex_pu (ls' := [vR E0, vR 0, vR 165, vR 181, vI v4, vI v5, vI z_208]) (st' := [vI z_208, vJ (M_210 181 0)]) (dg dc332_20 15 rfl) rfl rfl ?_
      refine ex_pu (ls' := [vR E0, vR 0, vR 165, vR 181, vI v4, vI v5, vI z_208]) (st' := [vJ (w32 z_208), vJ (M_210 181 0)]) (dg dc332_20 16 rfl) rfl rfl ?_
      refine ex_pu (ls' := [vR E0, vR 0, vR 165, vR 181, vI v4, vI v5, vI z_208]) (st' := [vI (lCmp (M_210 181 0) (w32 z_208))]) (dg dc332_20 17 rfl) rfl rfl ?_
      refine ex_if (t := 1451) (dg dc332_20 18 rfl) rfl hf (fun _ hf => ?_) (fun _ hf => ?_)
      · refine ex_goto (t := 2318) (dg dc332_20 21 rfl) rfl rfl ?_
        refine ex_pu (ls' := [vR E0, vR 0, vR 165, vR 181, vI (v4 + 6), vI v5, vI z_208]) (st' := []) (dg dc332_34 18 rfl) rfl rfl ?_
        refine ex_goto (t := 23) (dg dc332_34 19 rfl) rfl rfl ?_
        exact kb (v4 + 6) M_210 _ _ hf
      · refine ex_pu (ls' := [vR E0, vR 0, vR 165, vR 181, vI v4, vI v5, vI z_208]) (st' := [vI 0]) (dg dc332_20 19 rfl) rfl rfl ?_
        exact ex_ire (dg dc332_20 20 rfl) rfl hf
  · refine ex_pu (ls' := [vR E0, vR 0, vR 165, vR 181, vI v4, vI v5, vI z_208]) (st' := [vI 0]) (dg dc332_20 8 rfl) rfl rfl ?_
    exact ex_ire (dg dc332_20 9 rfl) rfl hf
def drv_main_J1397 (Z : Nat × (Nat → Int))  (Kb : Int → MM → OR) (v4 s0 : Int) (M : MM) : OR :=
  (bI (drv_locked s0 M) fun z_205 M_204 => (bif inB (v4 + 1) Z.1 then (bif cmpB .eq (Z.2 ((v4 + 1)).toNat) 0 then (drv_main_J1418 Z  Kb v4 z_205 0 M_204) else (drv_main_J1418 Z  Kb v4 z_205 1 M_204)) else none))
set_option maxRecDepth 4000 in
theorem drv_main_J1397_ok {Z : Nat × (Nat → Int)} {d : Nat} (hd : 52 ≤ d) (hZ : Z.1 < 2147483648)  {Kb : Int → MM → OR} {res : AR × MM} (kb : ∀ (x4 : Int) (M : MM) (j5 j6 : AV), Kb x4 M = some res → EX Z d 332 23 [vR E0, vR 0, vR 165, vR 181, vI x4, j5, j6] [] M res) : ∀ (v4 s0 : Int) (M : MM) (j5 j6 : AV), drv_main_J1397 Z  Kb v4 s0 M = some res → EX Z d 332 1397 [vR E0, vR 0, vR 165, vR 181, vI v4, j5, j6] [vI s0, vR 0] M res := by
  obtain ⟨e9, rfl⟩ : ∃ e9, d = e9 + 1 := ⟨d - 1, by omega⟩
  intro v4 s0 M j5 j6 hf
  unfold drv_main_J1397 at hf
  refine ex_pu (ls' := [vR E0, vR 0, vR 165, vR 181, vI v4, j5, j6]) (st' := [vR 181, vI s0, vR 0]) (dg dc332_19 29 rfl) rfl rfl ?_
  refine ex_cI (vs := [vR 0, vI s0, vR 181]) (st' := []) (F := (drv_locked s0 M)) (Or.inl ⟨rfl, (dg dc332_19 30 rfl)⟩) rfl rfl (Or.inl rfl) rfl (fun _ r9 => drv_locked_ok (Z := Z) (d := e9) (by omega)  r9) hf (fun z_205 M_204 he_203 hf => ?_)
  refine ex_pu (ls' := [vR E0, vR 0, vR 165, vR 181, vI v4, vI z_205, j6]) (st' := []) (dg dc332_19 31 rfl) rfl rfl ?_
  refine ex_pu (ls' := [vR E0, vR 0, vR 165, vR 181, vI v4, vI z_205, j6]) (st' := [vR 165]) (dg dc332_19 32 rfl) rfl rfl ?_
  refine ex_pu (ls' := [vR E0, vR 0, vR 165, vR 181, vI v4, vI z_205, j6]) (st' := [vR E0, vR 165]) (dg dc332_19 33 rfl) rfl rfl ?_
  refine ex_pu (ls' := [vR E0, vR 0, vR 165, vR 181, vI v4, vI z_205, j6]) (st' := [vI v4, vR E0, vR 165]) (dg dc332_19 34 rfl) rfl rfl ?_
  refine ex_pu (ls' := [vR E0, vR 0, vR 165, vR 181, vI v4, vI z_205, j6]) (st' := [vI 1, vI v4, vR E0, vR 165]) (dg dc332_19 35 rfl) rfl rfl ?_
  refine ex_pu (ls' := [vR E0, vR 0, vR 165, vR 181, vI v4, vI z_205, j6]) (st' := [vI (v4 + 1), vR E0, vR 165]) (dg dc332_19 36 rfl) rfl rfl ?_
  refine ex_ialdS (dg dc332_19 37 rfl) hZ hf (fun _ hf => ?_)
  refine ex_if (t := 1417) (dg dc332_19 38 rfl) rfl hf (fun _ hf => ?_) (fun _ hf => ?_)
  · refine ex_pu (ls' := [vR E0, vR 0, vR 165, vR 181, vI v4, vI z_205, j6]) (st' := [vI 0, vR 165]) (dg dc332_20 1 rfl) rfl rfl ?_
    exact drv_main_J1418_ok hd hZ  kb v4 z_205 0 M_204 _ hf
  · refine ex_pu (ls' := [vR E0, vR 0, vR 165, vR 181, vI v4, vI z_205, j6]) (st' := [vI 1, vR 165]) (dg dc332_19 39 rfl) rfl rfl ?_
    refine ex_goto (t := 1418) (dg dc332_20 0 rfl) rfl rfl ?_
    exact drv_main_J1418_ok hd hZ  kb v4 z_205 1 M_204 _ hf
def drv_main_J1382 (Z : Nat × (Nat → Int))  (Kb : Int → MM → OR) (v4 : Int) (M : MM) : OR :=
  (bif inB (v4 + 1) Z.1 then (bif cmpB .eq (Z.2 ((v4 + 1)).toNat) 0 then (drv_main_J1397 Z  Kb v4 0 M) else (drv_main_J1397 Z  Kb v4 1 M)) else none)
set_option maxRecDepth 4000 in
theorem drv_main_J1382_ok {Z : Nat × (Nat → Int)} {d : Nat} (hd : 52 ≤ d) (hZ : Z.1 < 2147483648)  {Kb : Int → MM → OR} {res : AR × MM} (kb : ∀ (x4 : Int) (M : MM) (j5 j6 : AV), Kb x4 M = some res → EX Z d 332 23 [vR E0, vR 0, vR 165, vR 181, vI x4, j5, j6] [] M res) : ∀ (v4 : Int) (M : MM) (j5 j6 : AV), drv_main_J1382 Z  Kb v4 M = some res → EX Z d 332 1382 [vR E0, vR 0, vR 165, vR 181, vI v4, j5, j6] [] M res := by
  obtain ⟨e9, rfl⟩ : ∃ e9, d = e9 + 1 := ⟨d - 1, by omega⟩
  intro v4 M j5 j6 hf
  unfold drv_main_J1382 at hf
  refine ex_pu (ls' := [vR E0, vR 0, vR 165, vR 181, vI v4, j5, j6]) (st' := [vR 0]) (dg dc332_19 19 rfl) rfl rfl ?_
  refine ex_pu (ls' := [vR E0, vR 0, vR 165, vR 181, vI v4, j5, j6]) (st' := [vR E0, vR 0]) (dg dc332_19 20 rfl) rfl rfl ?_
  refine ex_pu (ls' := [vR E0, vR 0, vR 165, vR 181, vI v4, j5, j6]) (st' := [vI v4, vR E0, vR 0]) (dg dc332_19 21 rfl) rfl rfl ?_
  refine ex_pu (ls' := [vR E0, vR 0, vR 165, vR 181, vI v4, j5, j6]) (st' := [vI 1, vI v4, vR E0, vR 0]) (dg dc332_19 22 rfl) rfl rfl ?_
  refine ex_pu (ls' := [vR E0, vR 0, vR 165, vR 181, vI v4, j5, j6]) (st' := [vI (v4 + 1), vR E0, vR 0]) (dg dc332_19 23 rfl) rfl rfl ?_
  refine ex_ialdS (dg dc332_19 24 rfl) hZ hf (fun _ hf => ?_)
  refine ex_if (t := 1396) (dg dc332_19 25 rfl) rfl hf (fun _ hf => ?_) (fun _ hf => ?_)
  · refine ex_pu (ls' := [vR E0, vR 0, vR 165, vR 181, vI v4, j5, j6]) (st' := [vI 0, vR 0]) (dg dc332_19 28 rfl) rfl rfl ?_
    exact drv_main_J1397_ok hd hZ  kb v4 0 M _ _ hf
  · refine ex_pu (ls' := [vR E0, vR 0, vR 165, vR 181, vI v4, j5, j6]) (st' := [vI 1, vR 0]) (dg dc332_19 26 rfl) rfl rfl ?_
    refine ex_goto (t := 1397) (dg dc332_19 27 rfl) rfl rfl ?_
    exact drv_main_J1397_ok hd hZ  kb v4 1 M _ _ hf
def drv_main_J1502 (Z : Nat × (Nat → Int))  (Kb : Int → MM → OR) (v4 v5 s0 s1 : Int) (M : MM) : OR :=
  (bI (mo_stands s1 s0 M) fun z_218 M_217 => (bI (mo_thrown  M_217) fun z_221 M_220 => (bif cmpB .eq z_221 v5 then (bif cmpB .ne v5 0 then (Kb (v4 + 6) M_220) else (bif inB 0 1 then (bif cmpB .eq (lCmp (M_220 181 0) (w32 z_218)) 0 then (Kb (v4 + 6) M_220) else some (rI 0, M_220)) else none)) else some (rI 0, M_220))))
set_option maxRecDepth 4000 in
theorem drv_main_J1502_ok {Z : Nat × (Nat → Int)} {d : Nat} (hd : 52 ≤ d) (hZ : Z.1 < 2147483648)  {Kb : Int → MM → OR} {res : AR × MM} (kb : ∀ (x4 : Int) (M : MM) (j5 j6 : AV), Kb x4 M = some res → EX Z d 332 23 [vR E0, vR 0, vR 165, vR 181, vI x4, j5, j6] [] M res) : ∀ (v4 v5 s0 s1 : Int) (M : MM) (j6 : AV), drv_main_J1502 Z  Kb v4 v5 s0 s1 M = some res → EX Z d 332 1502 [vR E0, vR 0, vR 165, vR 181, vI v4, vI v5, j6] [vI s0, vI s1, vR 165] M res := by
  obtain ⟨e9, rfl⟩ : ∃ e9, d = e9 + 1 := ⟨d - 1, by omega⟩
  intro v4 v5 s0 s1 M j6 hf
  unfold drv_main_J1502 at hf
  refine ex_cI (vs := [vR 165, vI s1, vI s0]) (st' := []) (F := (mo_stands s1 s0 M)) (Or.inr (Or.inl ⟨rfl, (dg dc332_21 15 rfl)⟩)) rfl rfl (rk1 (LOC.st (Nat.le_of_ble_eq_true rfl) rfl) rfl) rfl (fun _ r9 => mo_stands_ok (Z := Z) (d := e9) (by omega)  r9) hf (fun z_218 M_217 he_216 hf => ?_)
  refine ex_pu (ls' := [vR E0, vR 0, vR 165, vR 181, vI v4, vI v5, vI z_218]) (st' := []) (dg dc332_21 16 rfl) rfl rfl ?_
  refine ex_pu (ls' := [vR E0, vR 0, vR 165, vR 181, vI v4, vI v5, vI z_218]) (st' := [vR 165]) (dg dc332_21 17 rfl) rfl rfl ?_
  refine ex_cI (vs := [vR 165]) (st' := []) (F := (mo_thrown  M_217)) (Or.inr (Or.inl ⟨rfl, (dg dc332_21 18 rfl)⟩)) rfl rfl (rk1 (LOC.st (Nat.le_of_ble_eq_true rfl) rfl) rfl) rfl (fun _ r9 => mo_thrown_ok (Z := Z) (d := e9) (by omega)  r9) hf (fun z_221 M_220 he_219 hf => ?_)
  refine ex_pu (ls' := [vR E0, vR 0, vR 165, vR 181, vI v4, vI v5, vI z_218]) (st' := [vI v5, vI z_221]) (dg dc332_21 19 rfl) rfl rfl ?_
  refine ex_icmp (t := 1518) (dg dc332_21 20 rfl) rfl hf (fun _ hf => ?_) (fun _ hf => ?_)
  · refine ex_pu (ls' := [vR E0, vR 0, vR 165, vR 181, vI v4, vI v5, vI z_218]) (st' := [vI v5]) (dg dc332_21 23 rfl) rfl rfl ?_
    refine ex_if (t := 1535) (dg dc332_21 24 rfl) rfl hf (fun _ hf => ?_) (fun _ hf => ?_)
    · refine ex_goto (t := 2318) (dg dc332_21 34 rfl) rfl rfl ?_
      refine ex_pu (ls' := [vR E0, vR 0, vR 165, vR 181, vI (v4 + 6), vI v5, vI z_218]) (st' := []) (dg dc332_34 18 rfl) rfl rfl ?_
      refine ex_goto (t := 23) (dg dc332_34 19 rfl) rfl rfl ?_
      exact kb (v4 + 6) M_220 _ _ hf
    · refine ex_pu (ls' := [vR E0, vR 0, vR 165, vR 181, vI v4, vI v5, vI z_218]) (st' := [vR 181]) (dg dc332_21 25 rfl) rfl rfl ?_
      refine ex_pu (ls' := [vR E0, vR 0, vR 165, vR 181, vI v4, vI v5, vI z_218]) (st' := [vI 0, vR 181]) (dg dc332_21 26 rfl) rfl rfl ?_
      refine ex_lald (dg dc332_21 27 rfl) (LOC.st (Nat.le_of_ble_eq_true rfl) rfl) rfl hf (fun _ hf => ?_)
      refine ex_pu (ls' := [vR E0, vR 0, vR 165, vR 181, vI v4, vI v5, vI z_218]) (st' := [vI z_218, vJ (M_220 181 0)]) (dg dc332_21 28 rfl) rfl rfl ?_
      refine ex_pu (ls' := [vR E0, vR 0, vR 165, vR 181, vI v4, vI v5, vI z_218]) (st' := [vJ (w32 z_218), vJ (M_220 181 0)]) (dg dc332_21 29 rfl) rfl rfl ?_
      refine ex_pu (ls' := [vR E0, vR 0, vR 165, vR 181, vI v4, vI v5, vI z_218]) (st' := [vI (lCmp (M_220 181 0) (w32 z_218))]) (dg dc332_21 30 rfl) rfl rfl ?_
      refine ex_if (t := 1535) (dg dc332_21 31 rfl) rfl hf (fun _ hf => ?_) (fun _ hf => ?_)
      · refine ex_goto (t := 2318) (dg dc332_21 34 rfl) rfl rfl ?_
        refine ex_pu (ls' := [vR E0, vR 0, vR 165, vR 181, vI (v4 + 6), vI v5, vI z_218]) (st' := []) (dg dc332_34 18 rfl) rfl rfl ?_
        refine ex_goto (t := 23) (dg dc332_34 19 rfl) rfl rfl ?_
        exact kb (v4 + 6) M_220 _ _ hf
      · refine ex_pu (ls' := [vR E0, vR 0, vR 165, vR 181, vI v4, vI v5, vI z_218]) (st' := [vI 0]) (dg dc332_21 32 rfl) rfl rfl ?_
        exact ex_ire (dg dc332_21 33 rfl) rfl hf
  · refine ex_pu (ls' := [vR E0, vR 0, vR 165, vR 181, vI v4, vI v5, vI z_218]) (st' := [vI 0]) (dg dc332_21 21 rfl) rfl rfl ?_
    exact ex_ire (dg dc332_21 22 rfl) rfl hf
def drv_main_J1475 (Z : Nat × (Nat → Int))  (Kb : Int → MM → OR) (v4 s0 s1 : Int) (M : MM) : OR :=
  (bI (drv_stands s1 s0 M) fun z_215 M_214 => (bif inB (v4 + 1) Z.1 then (bif inB (v4 + 2) Z.1 then (bif cmpB .eq (Z.2 ((v4 + 2)).toNat) 0 then (drv_main_J1502 Z  Kb v4 z_215 0 (Z.2 ((v4 + 1)).toNat) M_214) else (drv_main_J1502 Z  Kb v4 z_215 1 (Z.2 ((v4 + 1)).toNat) M_214)) else none) else none))
set_option maxRecDepth 4000 in
theorem drv_main_J1475_ok {Z : Nat × (Nat → Int)} {d : Nat} (hd : 52 ≤ d) (hZ : Z.1 < 2147483648)  {Kb : Int → MM → OR} {res : AR × MM} (kb : ∀ (x4 : Int) (M : MM) (j5 j6 : AV), Kb x4 M = some res → EX Z d 332 23 [vR E0, vR 0, vR 165, vR 181, vI x4, j5, j6] [] M res) : ∀ (v4 s0 s1 : Int) (M : MM) (j5 j6 : AV), drv_main_J1475 Z  Kb v4 s0 s1 M = some res → EX Z d 332 1475 [vR E0, vR 0, vR 165, vR 181, vI v4, j5, j6] [vI s0, vI s1, vR 0] M res := by
  obtain ⟨e9, rfl⟩ : ∃ e9, d = e9 + 1 := ⟨d - 1, by omega⟩
  intro v4 s0 s1 M j5 j6 hf
  unfold drv_main_J1475 at hf
  refine ex_pu (ls' := [vR E0, vR 0, vR 165, vR 181, vI v4, j5, j6]) (st' := [vR 181, vI s0, vI s1, vR 0]) (dg dc332_20 37 rfl) rfl rfl ?_
  refine ex_cI (vs := [vR 0, vI s1, vI s0, vR 181]) (st' := []) (F := (drv_stands s1 s0 M)) (Or.inl ⟨rfl, (dg dc332_20 38 rfl)⟩) rfl rfl (Or.inl rfl) rfl (fun _ r9 => drv_stands_ok (Z := Z) (d := e9) (by omega)  r9) hf (fun z_215 M_214 he_213 hf => ?_)
  refine ex_pu (ls' := [vR E0, vR 0, vR 165, vR 181, vI v4, vI z_215, j6]) (st' := []) (dg dc332_20 39 rfl) rfl rfl ?_
  refine ex_pu (ls' := [vR E0, vR 0, vR 165, vR 181, vI v4, vI z_215, j6]) (st' := [vR 165]) (dg dc332_21 0 rfl) rfl rfl ?_
  refine ex_pu (ls' := [vR E0, vR 0, vR 165, vR 181, vI v4, vI z_215, j6]) (st' := [vR E0, vR 165]) (dg dc332_21 1 rfl) rfl rfl ?_
  refine ex_pu (ls' := [vR E0, vR 0, vR 165, vR 181, vI v4, vI z_215, j6]) (st' := [vI v4, vR E0, vR 165]) (dg dc332_21 2 rfl) rfl rfl ?_
  refine ex_pu (ls' := [vR E0, vR 0, vR 165, vR 181, vI v4, vI z_215, j6]) (st' := [vI 1, vI v4, vR E0, vR 165]) (dg dc332_21 3 rfl) rfl rfl ?_
  refine ex_pu (ls' := [vR E0, vR 0, vR 165, vR 181, vI v4, vI z_215, j6]) (st' := [vI (v4 + 1), vR E0, vR 165]) (dg dc332_21 4 rfl) rfl rfl ?_
  refine ex_ialdS (dg dc332_21 5 rfl) hZ hf (fun _ hf => ?_)
  refine ex_pu (ls' := [vR E0, vR 0, vR 165, vR 181, vI v4, vI z_215, j6]) (st' := [vR E0, vI (Z.2 ((v4 + 1)).toNat), vR 165]) (dg dc332_21 6 rfl) rfl rfl ?_
  refine ex_pu (ls' := [vR E0, vR 0, vR 165, vR 181, vI v4, vI z_215, j6]) (st' := [vI v4, vR E0, vI (Z.2 ((v4 + 1)).toNat), vR 165]) (dg dc332_21 7 rfl) rfl rfl ?_
  refine ex_pu (ls' := [vR E0, vR 0, vR 165, vR 181, vI v4, vI z_215, j6]) (st' := [vI 2, vI v4, vR E0, vI (Z.2 ((v4 + 1)).toNat), vR 165]) (dg dc332_21 8 rfl) rfl rfl ?_
  refine ex_pu (ls' := [vR E0, vR 0, vR 165, vR 181, vI v4, vI z_215, j6]) (st' := [vI (v4 + 2), vR E0, vI (Z.2 ((v4 + 1)).toNat), vR 165]) (dg dc332_21 9 rfl) rfl rfl ?_
  refine ex_ialdS (dg dc332_21 10 rfl) hZ hf (fun _ hf => ?_)
  refine ex_if (t := 1501) (dg dc332_21 11 rfl) rfl hf (fun _ hf => ?_) (fun _ hf => ?_)
  · refine ex_pu (ls' := [vR E0, vR 0, vR 165, vR 181, vI v4, vI z_215, j6]) (st' := [vI 0, vI (Z.2 ((v4 + 1)).toNat), vR 165]) (dg dc332_21 14 rfl) rfl rfl ?_
    exact drv_main_J1502_ok hd hZ  kb v4 z_215 0 (Z.2 ((v4 + 1)).toNat) M_214 _ hf
  · refine ex_pu (ls' := [vR E0, vR 0, vR 165, vR 181, vI v4, vI z_215, j6]) (st' := [vI 1, vI (Z.2 ((v4 + 1)).toNat), vR 165]) (dg dc332_21 12 rfl) rfl rfl ?_
    refine ex_goto (t := 1502) (dg dc332_21 13 rfl) rfl rfl ?_
    exact drv_main_J1502_ok hd hZ  kb v4 z_215 1 (Z.2 ((v4 + 1)).toNat) M_214 _ hf
def drv_main_J1454 (Z : Nat × (Nat → Int))  (Kb : Int → MM → OR) (v4 : Int) (M : MM) : OR :=
  (bif inB (v4 + 1) Z.1 then (bif inB (v4 + 2) Z.1 then (bif cmpB .eq (Z.2 ((v4 + 2)).toNat) 0 then (drv_main_J1475 Z  Kb v4 0 (Z.2 ((v4 + 1)).toNat) M) else (drv_main_J1475 Z  Kb v4 1 (Z.2 ((v4 + 1)).toNat) M)) else none) else none)
set_option maxRecDepth 4000 in
theorem drv_main_J1454_ok {Z : Nat × (Nat → Int)} {d : Nat} (hd : 52 ≤ d) (hZ : Z.1 < 2147483648)  {Kb : Int → MM → OR} {res : AR × MM} (kb : ∀ (x4 : Int) (M : MM) (j5 j6 : AV), Kb x4 M = some res → EX Z d 332 23 [vR E0, vR 0, vR 165, vR 181, vI x4, j5, j6] [] M res) : ∀ (v4 : Int) (M : MM) (j5 j6 : AV), drv_main_J1454 Z  Kb v4 M = some res → EX Z d 332 1454 [vR E0, vR 0, vR 165, vR 181, vI v4, j5, j6] [] M res := by
  obtain ⟨e9, rfl⟩ : ∃ e9, d = e9 + 1 := ⟨d - 1, by omega⟩
  intro v4 M j5 j6 hf
  unfold drv_main_J1454 at hf
  refine ex_pu (ls' := [vR E0, vR 0, vR 165, vR 181, vI v4, j5, j6]) (st' := [vR 0]) (dg dc332_20 22 rfl) rfl rfl ?_
  refine ex_pu (ls' := [vR E0, vR 0, vR 165, vR 181, vI v4, j5, j6]) (st' := [vR E0, vR 0]) (dg dc332_20 23 rfl) rfl rfl ?_
  refine ex_pu (ls' := [vR E0, vR 0, vR 165, vR 181, vI v4, j5, j6]) (st' := [vI v4, vR E0, vR 0]) (dg dc332_20 24 rfl) rfl rfl ?_
  refine ex_pu (ls' := [vR E0, vR 0, vR 165, vR 181, vI v4, j5, j6]) (st' := [vI 1, vI v4, vR E0, vR 0]) (dg dc332_20 25 rfl) rfl rfl ?_
  refine ex_pu (ls' := [vR E0, vR 0, vR 165, vR 181, vI v4, j5, j6]) (st' := [vI (v4 + 1), vR E0, vR 0]) (dg dc332_20 26 rfl) rfl rfl ?_
  refine ex_ialdS (dg dc332_20 27 rfl) hZ hf (fun _ hf => ?_)
  refine ex_pu (ls' := [vR E0, vR 0, vR 165, vR 181, vI v4, j5, j6]) (st' := [vR E0, vI (Z.2 ((v4 + 1)).toNat), vR 0]) (dg dc332_20 28 rfl) rfl rfl ?_
  refine ex_pu (ls' := [vR E0, vR 0, vR 165, vR 181, vI v4, j5, j6]) (st' := [vI v4, vR E0, vI (Z.2 ((v4 + 1)).toNat), vR 0]) (dg dc332_20 29 rfl) rfl rfl ?_
  refine ex_pu (ls' := [vR E0, vR 0, vR 165, vR 181, vI v4, j5, j6]) (st' := [vI 2, vI v4, vR E0, vI (Z.2 ((v4 + 1)).toNat), vR 0]) (dg dc332_20 30 rfl) rfl rfl ?_
  refine ex_pu (ls' := [vR E0, vR 0, vR 165, vR 181, vI v4, j5, j6]) (st' := [vI (v4 + 2), vR E0, vI (Z.2 ((v4 + 1)).toNat), vR 0]) (dg dc332_20 31 rfl) rfl rfl ?_
  refine ex_ialdS (dg dc332_20 32 rfl) hZ hf (fun _ hf => ?_)
  refine ex_if (t := 1474) (dg dc332_20 33 rfl) rfl hf (fun _ hf => ?_) (fun _ hf => ?_)
  · refine ex_pu (ls' := [vR E0, vR 0, vR 165, vR 181, vI v4, j5, j6]) (st' := [vI 0, vI (Z.2 ((v4 + 1)).toNat), vR 0]) (dg dc332_20 36 rfl) rfl rfl ?_
    exact drv_main_J1475_ok hd hZ  kb v4 0 (Z.2 ((v4 + 1)).toNat) M _ _ hf
  · refine ex_pu (ls' := [vR E0, vR 0, vR 165, vR 181, vI v4, j5, j6]) (st' := [vI 1, vI (Z.2 ((v4 + 1)).toNat), vR 0]) (dg dc332_20 34 rfl) rfl rfl ?_
    refine ex_goto (t := 1475) (dg dc332_20 35 rfl) rfl rfl ?_
    exact drv_main_J1475_ok hd hZ  kb v4 1 (Z.2 ((v4 + 1)).toNat) M _ _ hf
def drv_main_J1538 (Z : Nat × (Nat → Int))  (Kb : Int → MM → OR) (v4 : Int) (M : MM) : OR :=
  (bI (gh_needed  M) fun z_225 M_224 => (bI (mo_needed  M_224) fun z_228 M_227 => (bif cmpB .eq z_225 z_228 then (Kb (v4 + 6) M_227) else some (rI 0, M_227))))
set_option maxRecDepth 4000 in
theorem drv_main_J1538_ok {Z : Nat × (Nat → Int)} {d : Nat} (hd : 52 ≤ d) (hZ : Z.1 < 2147483648)  {Kb : Int → MM → OR} {res : AR × MM} (kb : ∀ (x4 : Int) (M : MM) (j5 j6 : AV), Kb x4 M = some res → EX Z d 332 23 [vR E0, vR 0, vR 165, vR 181, vI x4, j5, j6] [] M res) : ∀ (v4 : Int) (M : MM) (j5 j6 : AV), drv_main_J1538 Z  Kb v4 M = some res → EX Z d 332 1538 [vR E0, vR 0, vR 165, vR 181, vI v4, j5, j6] [] M res := by
  obtain ⟨e9, rfl⟩ : ∃ e9, d = e9 + 1 := ⟨d - 1, by omega⟩
  intro v4 M j5 j6 hf
  unfold drv_main_J1538 at hf
  refine ex_pu (ls' := [vR E0, vR 0, vR 165, vR 181, vI v4, j5, j6]) (st' := [vR 0]) (dg dc332_21 35 rfl) rfl rfl ?_
  refine ex_cI (vs := [vR 0]) (st' := []) (F := (gh_needed  M)) (Or.inr (Or.inl ⟨rfl, (dg dc332_21 36 rfl)⟩)) rfl rfl (rk1 (LOC.st (Nat.le_of_ble_eq_true rfl) rfl) rfl) rfl (fun _ r9 => gh_needed_ok (Z := Z) (d := e9) (by omega)  r9) hf (fun z_225 M_224 he_223 hf => ?_)
  refine ex_pu (ls' := [vR E0, vR 0, vR 165, vR 181, vI v4, j5, j6]) (st' := [vR 165, vI z_225]) (dg dc332_21 37 rfl) rfl rfl ?_
  refine ex_cI (vs := [vR 165]) (st' := [vI z_225]) (F := (mo_needed  M_224)) (Or.inr (Or.inl ⟨rfl, (dg dc332_21 38 rfl)⟩)) rfl rfl (rk1 (LOC.st (Nat.le_of_ble_eq_true rfl) rfl) rfl) rfl (fun _ r9 => mo_needed_ok (Z := Z) (d := e9) (by omega)  r9) hf (fun z_228 M_227 he_226 hf => ?_)
  refine ex_icmp (t := 2318) (dg dc332_21 39 rfl) rfl hf (fun _ hf => ?_) (fun _ hf => ?_)
  · refine ex_pu (ls' := [vR E0, vR 0, vR 165, vR 181, vI (v4 + 6), j5, j6]) (st' := []) (dg dc332_34 18 rfl) rfl rfl ?_
    refine ex_goto (t := 23) (dg dc332_34 19 rfl) rfl rfl ?_
    exact kb (v4 + 6) M_227 _ _ hf
  · refine ex_pu (ls' := [vR E0, vR 0, vR 165, vR 181, vI v4, j5, j6]) (st' := [vI 0]) (dg dc332_22 0 rfl) rfl rfl ?_
    exact ex_ire (dg dc332_22 1 rfl) rfl hf
def drv_main_J1551 (Z : Nat × (Nat → Int))  (Kb : Int → MM → OR) (v4 : Int) (M : MM) : OR :=
  (bif inB (v4 + 1) Z.1 then (bif inB (v4 + 2) Z.1 then (bI (drv_far (Z.2 ((v4 + 1)).toNat) (Z.2 ((v4 + 2)).toNat) M) fun z_232 M_231 => (bif inB (v4 + 1) Z.1 then (bif inB (v4 + 2) Z.1 then (bI (mo_far (Z.2 ((v4 + 1)).toNat) (Z.2 ((v4 + 2)).toNat) M_231) fun z_235 M_234 => (bI (mo_thrown  M_234) fun z_238 M_237 => (bif cmpB .eq z_238 z_232 then (bif cmpB .ne z_232 0 then (Kb (v4 + 6) M_237) else (bif inB 0 1 then (bif cmpB .eq (lCmp (M_237 181 0) (w32 z_235)) 0 then (Kb (v4 + 6) M_237) else some (rI 0, M_237)) else none)) else some (rI 0, M_237)))) else none) else none)) else none) else none)
set_option maxRecDepth 4000 in
theorem drv_main_J1551_ok {Z : Nat × (Nat → Int)} {d : Nat} (hd : 52 ≤ d) (hZ : Z.1 < 2147483648)  {Kb : Int → MM → OR} {res : AR × MM} (kb : ∀ (x4 : Int) (M : MM) (j5 j6 : AV), Kb x4 M = some res → EX Z d 332 23 [vR E0, vR 0, vR 165, vR 181, vI x4, j5, j6] [] M res) : ∀ (v4 : Int) (M : MM) (j5 j6 : AV), drv_main_J1551 Z  Kb v4 M = some res → EX Z d 332 1551 [vR E0, vR 0, vR 165, vR 181, vI v4, j5, j6] [] M res := by
  obtain ⟨e9, rfl⟩ : ∃ e9, d = e9 + 1 := ⟨d - 1, by omega⟩
  intro v4 M j5 j6 hf
  unfold drv_main_J1551 at hf
  refine ex_pu (ls' := [vR E0, vR 0, vR 165, vR 181, vI v4, j5, j6]) (st' := [vR 0]) (dg dc332_22 2 rfl) rfl rfl ?_
  refine ex_pu (ls' := [vR E0, vR 0, vR 165, vR 181, vI v4, j5, j6]) (st' := [vR E0, vR 0]) (dg dc332_22 3 rfl) rfl rfl ?_
  refine ex_pu (ls' := [vR E0, vR 0, vR 165, vR 181, vI v4, j5, j6]) (st' := [vI v4, vR E0, vR 0]) (dg dc332_22 4 rfl) rfl rfl ?_
  refine ex_pu (ls' := [vR E0, vR 0, vR 165, vR 181, vI v4, j5, j6]) (st' := [vI 1, vI v4, vR E0, vR 0]) (dg dc332_22 5 rfl) rfl rfl ?_
  refine ex_pu (ls' := [vR E0, vR 0, vR 165, vR 181, vI v4, j5, j6]) (st' := [vI (v4 + 1), vR E0, vR 0]) (dg dc332_22 6 rfl) rfl rfl ?_
  refine ex_ialdS (dg dc332_22 7 rfl) hZ hf (fun _ hf => ?_)
  refine ex_pu (ls' := [vR E0, vR 0, vR 165, vR 181, vI v4, j5, j6]) (st' := [vR E0, vI (Z.2 ((v4 + 1)).toNat), vR 0]) (dg dc332_22 8 rfl) rfl rfl ?_
  refine ex_pu (ls' := [vR E0, vR 0, vR 165, vR 181, vI v4, j5, j6]) (st' := [vI v4, vR E0, vI (Z.2 ((v4 + 1)).toNat), vR 0]) (dg dc332_22 9 rfl) rfl rfl ?_
  refine ex_pu (ls' := [vR E0, vR 0, vR 165, vR 181, vI v4, j5, j6]) (st' := [vI 2, vI v4, vR E0, vI (Z.2 ((v4 + 1)).toNat), vR 0]) (dg dc332_22 10 rfl) rfl rfl ?_
  refine ex_pu (ls' := [vR E0, vR 0, vR 165, vR 181, vI v4, j5, j6]) (st' := [vI (v4 + 2), vR E0, vI (Z.2 ((v4 + 1)).toNat), vR 0]) (dg dc332_22 11 rfl) rfl rfl ?_
  refine ex_ialdS (dg dc332_22 12 rfl) hZ hf (fun _ hf => ?_)
  refine ex_pu (ls' := [vR E0, vR 0, vR 165, vR 181, vI v4, j5, j6]) (st' := [vR 181, vI (Z.2 ((v4 + 2)).toNat), vI (Z.2 ((v4 + 1)).toNat), vR 0]) (dg dc332_22 13 rfl) rfl rfl ?_
  refine ex_cI (vs := [vR 0, vI (Z.2 ((v4 + 1)).toNat), vI (Z.2 ((v4 + 2)).toNat), vR 181]) (st' := []) (F := (drv_far (Z.2 ((v4 + 1)).toNat) (Z.2 ((v4 + 2)).toNat) M)) (Or.inl ⟨rfl, (dg dc332_22 14 rfl)⟩) rfl rfl (Or.inl rfl) rfl (fun _ r9 => drv_far_ok (Z := Z) (d := e9) (by omega)  r9) hf (fun z_232 M_231 he_230 hf => ?_)
  refine ex_pu (ls' := [vR E0, vR 0, vR 165, vR 181, vI v4, vI z_232, j6]) (st' := []) (dg dc332_22 15 rfl) rfl rfl ?_
  refine ex_pu (ls' := [vR E0, vR 0, vR 165, vR 181, vI v4, vI z_232, j6]) (st' := [vR 165]) (dg dc332_22 16 rfl) rfl rfl ?_
  refine ex_pu (ls' := [vR E0, vR 0, vR 165, vR 181, vI v4, vI z_232, j6]) (st' := [vR E0, vR 165]) (dg dc332_22 17 rfl) rfl rfl ?_
  refine ex_pu (ls' := [vR E0, vR 0, vR 165, vR 181, vI v4, vI z_232, j6]) (st' := [vI v4, vR E0, vR 165]) (dg dc332_22 18 rfl) rfl rfl ?_
  refine ex_pu (ls' := [vR E0, vR 0, vR 165, vR 181, vI v4, vI z_232, j6]) (st' := [vI 1, vI v4, vR E0, vR 165]) (dg dc332_22 19 rfl) rfl rfl ?_
  refine ex_pu (ls' := [vR E0, vR 0, vR 165, vR 181, vI v4, vI z_232, j6]) (st' := [vI (v4 + 1), vR E0, vR 165]) (dg dc332_22 20 rfl) rfl rfl ?_
  refine ex_ialdS (dg dc332_22 21 rfl) hZ hf (fun _ hf => ?_)
  refine ex_pu (ls' := [vR E0, vR 0, vR 165, vR 181, vI v4, vI z_232, j6]) (st' := [vR E0, vI (Z.2 ((v4 + 1)).toNat), vR 165]) (dg dc332_22 22 rfl) rfl rfl ?_
  refine ex_pu (ls' := [vR E0, vR 0, vR 165, vR 181, vI v4, vI z_232, j6]) (st' := [vI v4, vR E0, vI (Z.2 ((v4 + 1)).toNat), vR 165]) (dg dc332_22 23 rfl) rfl rfl ?_
  refine ex_pu (ls' := [vR E0, vR 0, vR 165, vR 181, vI v4, vI z_232, j6]) (st' := [vI 2, vI v4, vR E0, vI (Z.2 ((v4 + 1)).toNat), vR 165]) (dg dc332_22 24 rfl) rfl rfl ?_
  refine ex_pu (ls' := [vR E0, vR 0, vR 165, vR 181, vI v4, vI z_232, j6]) (st' := [vI (v4 + 2), vR E0, vI (Z.2 ((v4 + 1)).toNat), vR 165]) (dg dc332_22 25 rfl) rfl rfl ?_
  refine ex_ialdS (dg dc332_22 26 rfl) hZ hf (fun _ hf => ?_)
  refine ex_cI (vs := [vR 165, vI (Z.2 ((v4 + 1)).toNat), vI (Z.2 ((v4 + 2)).toNat)]) (st' := []) (F := (mo_far (Z.2 ((v4 + 1)).toNat) (Z.2 ((v4 + 2)).toNat) M_231)) (Or.inr (Or.inl ⟨rfl, (dg dc332_22 27 rfl)⟩)) rfl rfl (rk1 (LOC.st (Nat.le_of_ble_eq_true rfl) rfl) rfl) rfl (fun _ r9 => mo_far_ok (Z := Z) (d := e9) (by omega)  r9) hf (fun z_235 M_234 he_233 hf => ?_)
  refine ex_pu (ls' := [vR E0, vR 0, vR 165, vR 181, vI v4, vI z_232, vI z_235]) (st' := []) (dg dc332_22 28 rfl) rfl rfl ?_
  refine ex_pu (ls' := [vR E0, vR 0, vR 165, vR 181, vI v4, vI z_232, vI z_235]) (st' := [vR 165]) (dg dc332_22 29 rfl) rfl rfl ?_
  refine ex_cI (vs := [vR 165]) (st' := []) (F := (mo_thrown  M_234)) (Or.inr (Or.inl ⟨rfl, (dg dc332_22 30 rfl)⟩)) rfl rfl (rk1 (LOC.st (Nat.le_of_ble_eq_true rfl) rfl) rfl) rfl (fun _ r9 => mo_thrown_ok (Z := Z) (d := e9) (by omega)  r9) hf (fun z_238 M_237 he_236 hf => ?_)
  refine ex_pu (ls' := [vR E0, vR 0, vR 165, vR 181, vI v4, vI z_232, vI z_235]) (st' := [vI z_232, vI z_238]) (dg dc332_22 31 rfl) rfl rfl ?_
  refine ex_icmp (t := 1599) (dg dc332_22 32 rfl) rfl hf (fun _ hf => ?_) (fun _ hf => ?_)
  · refine ex_pu (ls' := [vR E0, vR 0, vR 165, vR 181, vI v4, vI z_232, vI z_235]) (st' := [vI z_232]) (dg dc332_22 35 rfl) rfl rfl ?_
    refine ex_if (t := 1616) (dg dc332_22 36 rfl) rfl hf (fun _ hf => ?_) (fun _ hf => ?_)
    · refine ex_goto (t := 2318) (dg dc332_23 6 rfl) rfl rfl ?_
      refine ex_pu (ls' := [vR E0, vR 0, vR 165, vR 181, vI (v4 + 6), vI z_232, vI z_235]) (st' := []) (dg dc332_34 18 rfl) rfl rfl ?_
      refine ex_goto (t := 23) (dg dc332_34 19 rfl) rfl rfl ?_
      exact kb (v4 + 6) M_237 _ _ hf
    · refine ex_pu (ls' := [vR E0, vR 0, vR 165, vR 181, vI v4, vI z_232, vI z_235]) (st' := [vR 181]) (dg dc332_22 37 rfl) rfl rfl ?_
      refine ex_pu (ls' := [vR E0, vR 0, vR 165, vR 181, vI v4, vI z_232, vI z_235]) (st' := [vI 0, vR 181]) (dg dc332_22 38 rfl) rfl rfl ?_
      refine ex_lald (dg dc332_22 39 rfl) (LOC.st (Nat.le_of_ble_eq_true rfl) rfl) rfl hf (fun _ hf => ?_)
      refine ex_pu (ls' := [vR E0, vR 0, vR 165, vR 181, vI v4, vI z_232, vI z_235]) (st' := [vI z_235, vJ (M_237 181 0)]) (dg dc332_23 0 rfl) rfl rfl ?_
      refine ex_pu (ls' := [vR E0, vR 0, vR 165, vR 181, vI v4, vI z_232, vI z_235]) (st' := [vJ (w32 z_235), vJ (M_237 181 0)]) (dg dc332_23 1 rfl) rfl rfl ?_
      refine ex_pu (ls' := [vR E0, vR 0, vR 165, vR 181, vI v4, vI z_232, vI z_235]) (st' := [vI (lCmp (M_237 181 0) (w32 z_235))]) (dg dc332_23 2 rfl) rfl rfl ?_
      refine ex_if (t := 1616) (dg dc332_23 3 rfl) rfl hf (fun _ hf => ?_) (fun _ hf => ?_)
      · refine ex_goto (t := 2318) (dg dc332_23 6 rfl) rfl rfl ?_
        refine ex_pu (ls' := [vR E0, vR 0, vR 165, vR 181, vI (v4 + 6), vI z_232, vI z_235]) (st' := []) (dg dc332_34 18 rfl) rfl rfl ?_
        refine ex_goto (t := 23) (dg dc332_34 19 rfl) rfl rfl ?_
        exact kb (v4 + 6) M_237 _ _ hf
      · refine ex_pu (ls' := [vR E0, vR 0, vR 165, vR 181, vI v4, vI z_232, vI z_235]) (st' := [vI 0]) (dg dc332_23 4 rfl) rfl rfl ?_
        exact ex_ire (dg dc332_23 5 rfl) rfl hf
  · refine ex_pu (ls' := [vR E0, vR 0, vR 165, vR 181, vI v4, vI z_232, vI z_235]) (st' := [vI 0]) (dg dc332_22 33 rfl) rfl rfl ?_
    exact ex_ire (dg dc332_22 34 rfl) rfl hf
def drv_main_J1619 (Z : Nat × (Nat → Int))  (Kb : Int → MM → OR) (v4 : Int) (M : MM) : OR :=
  (bif inB (v4 + 1) Z.1 then (bI (drv_turnBack (Z.2 ((v4 + 1)).toNat) M) fun z_242 M_241 => (bif inB (v4 + 1) Z.1 then (bI (mo_turnBack (Z.2 ((v4 + 1)).toNat) M_241) fun z_245 M_244 => (bI (mo_thrown  M_244) fun z_248 M_247 => (bif cmpB .eq z_248 z_242 then (bif cmpB .ne z_242 0 then (Kb (v4 + 6) M_247) else (bif inB 0 1 then (bif cmpB .eq (lCmp (M_247 181 0) (w32 z_245)) 0 then (Kb (v4 + 6) M_247) else some (rI 0, M_247)) else none)) else some (rI 0, M_247)))) else none)) else none)
set_option maxRecDepth 4000 in
theorem drv_main_J1619_ok {Z : Nat × (Nat → Int)} {d : Nat} (hd : 52 ≤ d) (hZ : Z.1 < 2147483648)  {Kb : Int → MM → OR} {res : AR × MM} (kb : ∀ (x4 : Int) (M : MM) (j5 j6 : AV), Kb x4 M = some res → EX Z d 332 23 [vR E0, vR 0, vR 165, vR 181, vI x4, j5, j6] [] M res) : ∀ (v4 : Int) (M : MM) (j5 j6 : AV), drv_main_J1619 Z  Kb v4 M = some res → EX Z d 332 1619 [vR E0, vR 0, vR 165, vR 181, vI v4, j5, j6] [] M res := by
  obtain ⟨e9, rfl⟩ : ∃ e9, d = e9 + 1 := ⟨d - 1, by omega⟩
  intro v4 M j5 j6 hf
  unfold drv_main_J1619 at hf
  refine ex_pu (ls' := [vR E0, vR 0, vR 165, vR 181, vI v4, j5, j6]) (st' := [vR 0]) (dg dc332_23 7 rfl) rfl rfl ?_
  refine ex_pu (ls' := [vR E0, vR 0, vR 165, vR 181, vI v4, j5, j6]) (st' := [vR E0, vR 0]) (dg dc332_23 8 rfl) rfl rfl ?_
  refine ex_pu (ls' := [vR E0, vR 0, vR 165, vR 181, vI v4, j5, j6]) (st' := [vI v4, vR E0, vR 0]) (dg dc332_23 9 rfl) rfl rfl ?_
  refine ex_pu (ls' := [vR E0, vR 0, vR 165, vR 181, vI v4, j5, j6]) (st' := [vI 1, vI v4, vR E0, vR 0]) (dg dc332_23 10 rfl) rfl rfl ?_
  refine ex_pu (ls' := [vR E0, vR 0, vR 165, vR 181, vI v4, j5, j6]) (st' := [vI (v4 + 1), vR E0, vR 0]) (dg dc332_23 11 rfl) rfl rfl ?_
  refine ex_ialdS (dg dc332_23 12 rfl) hZ hf (fun _ hf => ?_)
  refine ex_pu (ls' := [vR E0, vR 0, vR 165, vR 181, vI v4, j5, j6]) (st' := [vR 181, vI (Z.2 ((v4 + 1)).toNat), vR 0]) (dg dc332_23 13 rfl) rfl rfl ?_
  refine ex_cI (vs := [vR 0, vI (Z.2 ((v4 + 1)).toNat), vR 181]) (st' := []) (F := (drv_turnBack (Z.2 ((v4 + 1)).toNat) M)) (Or.inl ⟨rfl, (dg dc332_23 14 rfl)⟩) rfl rfl (Or.inl rfl) rfl (fun _ r9 => drv_turnBack_ok (Z := Z) (d := e9) (by omega)  r9) hf (fun z_242 M_241 he_240 hf => ?_)
  refine ex_pu (ls' := [vR E0, vR 0, vR 165, vR 181, vI v4, vI z_242, j6]) (st' := []) (dg dc332_23 15 rfl) rfl rfl ?_
  refine ex_pu (ls' := [vR E0, vR 0, vR 165, vR 181, vI v4, vI z_242, j6]) (st' := [vR 165]) (dg dc332_23 16 rfl) rfl rfl ?_
  refine ex_pu (ls' := [vR E0, vR 0, vR 165, vR 181, vI v4, vI z_242, j6]) (st' := [vR E0, vR 165]) (dg dc332_23 17 rfl) rfl rfl ?_
  refine ex_pu (ls' := [vR E0, vR 0, vR 165, vR 181, vI v4, vI z_242, j6]) (st' := [vI v4, vR E0, vR 165]) (dg dc332_23 18 rfl) rfl rfl ?_
  refine ex_pu (ls' := [vR E0, vR 0, vR 165, vR 181, vI v4, vI z_242, j6]) (st' := [vI 1, vI v4, vR E0, vR 165]) (dg dc332_23 19 rfl) rfl rfl ?_
  refine ex_pu (ls' := [vR E0, vR 0, vR 165, vR 181, vI v4, vI z_242, j6]) (st' := [vI (v4 + 1), vR E0, vR 165]) (dg dc332_23 20 rfl) rfl rfl ?_
  refine ex_ialdS (dg dc332_23 21 rfl) hZ hf (fun _ hf => ?_)
  refine ex_cI (vs := [vR 165, vI (Z.2 ((v4 + 1)).toNat)]) (st' := []) (F := (mo_turnBack (Z.2 ((v4 + 1)).toNat) M_241)) (Or.inr (Or.inl ⟨rfl, (dg dc332_23 22 rfl)⟩)) rfl rfl (rk1 (LOC.st (Nat.le_of_ble_eq_true rfl) rfl) rfl) rfl (fun _ r9 => mo_turnBack_ok (Z := Z) (d := e9) (by omega)  r9) hf (fun z_245 M_244 he_243 hf => ?_)
  refine ex_pu (ls' := [vR E0, vR 0, vR 165, vR 181, vI v4, vI z_242, vI z_245]) (st' := []) (dg dc332_23 23 rfl) rfl rfl ?_
  refine ex_pu (ls' := [vR E0, vR 0, vR 165, vR 181, vI v4, vI z_242, vI z_245]) (st' := [vR 165]) (dg dc332_23 24 rfl) rfl rfl ?_
  refine ex_cI (vs := [vR 165]) (st' := []) (F := (mo_thrown  M_244)) (Or.inr (Or.inl ⟨rfl, (dg dc332_23 25 rfl)⟩)) rfl rfl (rk1 (LOC.st (Nat.le_of_ble_eq_true rfl) rfl) rfl) rfl (fun _ r9 => mo_thrown_ok (Z := Z) (d := e9) (by omega)  r9) hf (fun z_248 M_247 he_246 hf => ?_)
  refine ex_pu (ls' := [vR E0, vR 0, vR 165, vR 181, vI v4, vI z_242, vI z_245]) (st' := [vI z_242, vI z_248]) (dg dc332_23 26 rfl) rfl rfl ?_
  refine ex_icmp (t := 1655) (dg dc332_23 27 rfl) rfl hf (fun _ hf => ?_) (fun _ hf => ?_)
  · refine ex_pu (ls' := [vR E0, vR 0, vR 165, vR 181, vI v4, vI z_242, vI z_245]) (st' := [vI z_242]) (dg dc332_23 30 rfl) rfl rfl ?_
    refine ex_if (t := 1672) (dg dc332_23 31 rfl) rfl hf (fun _ hf => ?_) (fun _ hf => ?_)
    · refine ex_goto (t := 2318) (dg dc332_24 1 rfl) rfl rfl ?_
      refine ex_pu (ls' := [vR E0, vR 0, vR 165, vR 181, vI (v4 + 6), vI z_242, vI z_245]) (st' := []) (dg dc332_34 18 rfl) rfl rfl ?_
      refine ex_goto (t := 23) (dg dc332_34 19 rfl) rfl rfl ?_
      exact kb (v4 + 6) M_247 _ _ hf
    · refine ex_pu (ls' := [vR E0, vR 0, vR 165, vR 181, vI v4, vI z_242, vI z_245]) (st' := [vR 181]) (dg dc332_23 32 rfl) rfl rfl ?_
      refine ex_pu (ls' := [vR E0, vR 0, vR 165, vR 181, vI v4, vI z_242, vI z_245]) (st' := [vI 0, vR 181]) (dg dc332_23 33 rfl) rfl rfl ?_
      refine ex_lald (dg dc332_23 34 rfl) (LOC.st (Nat.le_of_ble_eq_true rfl) rfl) rfl hf (fun _ hf => ?_)
      refine ex_pu (ls' := [vR E0, vR 0, vR 165, vR 181, vI v4, vI z_242, vI z_245]) (st' := [vI z_245, vJ (M_247 181 0)]) (dg dc332_23 35 rfl) rfl rfl ?_
      refine ex_pu (ls' := [vR E0, vR 0, vR 165, vR 181, vI v4, vI z_242, vI z_245]) (st' := [vJ (w32 z_245), vJ (M_247 181 0)]) (dg dc332_23 36 rfl) rfl rfl ?_
      refine ex_pu (ls' := [vR E0, vR 0, vR 165, vR 181, vI v4, vI z_242, vI z_245]) (st' := [vI (lCmp (M_247 181 0) (w32 z_245))]) (dg dc332_23 37 rfl) rfl rfl ?_
      refine ex_if (t := 1672) (dg dc332_23 38 rfl) rfl hf (fun _ hf => ?_) (fun _ hf => ?_)
      · refine ex_goto (t := 2318) (dg dc332_24 1 rfl) rfl rfl ?_
        refine ex_pu (ls' := [vR E0, vR 0, vR 165, vR 181, vI (v4 + 6), vI z_242, vI z_245]) (st' := []) (dg dc332_34 18 rfl) rfl rfl ?_
        refine ex_goto (t := 23) (dg dc332_34 19 rfl) rfl rfl ?_
        exact kb (v4 + 6) M_247 _ _ hf
      · refine ex_pu (ls' := [vR E0, vR 0, vR 165, vR 181, vI v4, vI z_242, vI z_245]) (st' := [vI 0]) (dg dc332_23 39 rfl) rfl rfl ?_
        exact ex_ire (dg dc332_24 0 rfl) rfl hf
  · refine ex_pu (ls' := [vR E0, vR 0, vR 165, vR 181, vI v4, vI z_242, vI z_245]) (st' := [vI 0]) (dg dc332_23 28 rfl) rfl rfl ?_
    exact ex_ire (dg dc332_23 29 rfl) rfl hf
def drv_main_J1735 (Z : Nat × (Nat → Int))  (Kb : Int → MM → OR) (v4 v5 s0 s1 s2 : Int) (M : MM) : OR :=
  (bI (mo_meet s2 s1 s0 M) fun z_255 M_254 => (bI (mo_thrown  M_254) fun z_258 M_257 => (bif cmpB .eq z_258 v5 then (bif cmpB .ne v5 0 then (Kb (v4 + 6) M_257) else (bif inB 0 1 then (bif cmpB .eq (lCmp (M_257 181 0) (w32 z_255)) 0 then (Kb (v4 + 6) M_257) else some (rI 0, M_257)) else none)) else some (rI 0, M_257))))
set_option maxRecDepth 4000 in
theorem drv_main_J1735_ok {Z : Nat × (Nat → Int)} {d : Nat} (hd : 52 ≤ d) (hZ : Z.1 < 2147483648)  {Kb : Int → MM → OR} {res : AR × MM} (kb : ∀ (x4 : Int) (M : MM) (j5 j6 : AV), Kb x4 M = some res → EX Z d 332 23 [vR E0, vR 0, vR 165, vR 181, vI x4, j5, j6] [] M res) : ∀ (v4 v5 s0 s1 s2 : Int) (M : MM) (j6 : AV), drv_main_J1735 Z  Kb v4 v5 s0 s1 s2 M = some res → EX Z d 332 1735 [vR E0, vR 0, vR 165, vR 181, vI v4, vI v5, j6] [vI s0, vI s1, vI s2, vR 165] M res := by
  obtain ⟨e9, rfl⟩ : ∃ e9, d = e9 + 1 := ⟨d - 1, by omega⟩
  intro v4 v5 s0 s1 s2 M j6 hf
  unfold drv_main_J1735 at hf
  refine ex_cI (vs := [vR 165, vI s2, vI s1, vI s0]) (st' := []) (F := (mo_meet s2 s1 s0 M)) (Or.inr (Or.inl ⟨rfl, (dg dc332_25 5 rfl)⟩)) rfl rfl (rk1 (LOC.st (Nat.le_of_ble_eq_true rfl) rfl) rfl) rfl (fun _ r9 => mo_meet_ok (Z := Z) (d := e9) (by omega)  r9) hf (fun z_255 M_254 he_253 hf => ?_)
  refine ex_pu (ls' := [vR E0, vR 0, vR 165, vR 181, vI v4, vI v5, vI z_255]) (st' := []) (dg dc332_25 6 rfl) rfl rfl ?_
  refine ex_pu (ls' := [vR E0, vR 0, vR 165, vR 181, vI v4, vI v5, vI z_255]) (st' := [vR 165]) (dg dc332_25 7 rfl) rfl rfl ?_
  refine ex_cI (vs := [vR 165]) (st' := []) (F := (mo_thrown  M_254)) (Or.inr (Or.inl ⟨rfl, (dg dc332_25 8 rfl)⟩)) rfl rfl (rk1 (LOC.st (Nat.le_of_ble_eq_true rfl) rfl) rfl) rfl (fun _ r9 => mo_thrown_ok (Z := Z) (d := e9) (by omega)  r9) hf (fun z_258 M_257 he_256 hf => ?_)
  refine ex_pu (ls' := [vR E0, vR 0, vR 165, vR 181, vI v4, vI v5, vI z_255]) (st' := [vI v5, vI z_258]) (dg dc332_25 9 rfl) rfl rfl ?_
  refine ex_icmp (t := 1751) (dg dc332_25 10 rfl) rfl hf (fun _ hf => ?_) (fun _ hf => ?_)
  · refine ex_pu (ls' := [vR E0, vR 0, vR 165, vR 181, vI v4, vI v5, vI z_255]) (st' := [vI v5]) (dg dc332_25 13 rfl) rfl rfl ?_
    refine ex_if (t := 1768) (dg dc332_25 14 rfl) rfl hf (fun _ hf => ?_) (fun _ hf => ?_)
    · refine ex_goto (t := 2318) (dg dc332_25 24 rfl) rfl rfl ?_
      refine ex_pu (ls' := [vR E0, vR 0, vR 165, vR 181, vI (v4 + 6), vI v5, vI z_255]) (st' := []) (dg dc332_34 18 rfl) rfl rfl ?_
      refine ex_goto (t := 23) (dg dc332_34 19 rfl) rfl rfl ?_
      exact kb (v4 + 6) M_257 _ _ hf
    · refine ex_pu (ls' := [vR E0, vR 0, vR 165, vR 181, vI v4, vI v5, vI z_255]) (st' := [vR 181]) (dg dc332_25 15 rfl) rfl rfl ?_
      refine ex_pu (ls' := [vR E0, vR 0, vR 165, vR 181, vI v4, vI v5, vI z_255]) (st' := [vI 0, vR 181]) (dg dc332_25 16 rfl) rfl rfl ?_
      refine ex_lald (dg dc332_25 17 rfl) (LOC.st (Nat.le_of_ble_eq_true rfl) rfl) rfl hf (fun _ hf => ?_)
      refine ex_pu (ls' := [vR E0, vR 0, vR 165, vR 181, vI v4, vI v5, vI z_255]) (st' := [vI z_255, vJ (M_257 181 0)]) (dg dc332_25 18 rfl) rfl rfl ?_
      refine ex_pu (ls' := [vR E0, vR 0, vR 165, vR 181, vI v4, vI v5, vI z_255]) (st' := [vJ (w32 z_255), vJ (M_257 181 0)]) (dg dc332_25 19 rfl) rfl rfl ?_
      refine ex_pu (ls' := [vR E0, vR 0, vR 165, vR 181, vI v4, vI v5, vI z_255]) (st' := [vI (lCmp (M_257 181 0) (w32 z_255))]) (dg dc332_25 20 rfl) rfl rfl ?_
      refine ex_if (t := 1768) (dg dc332_25 21 rfl) rfl hf (fun _ hf => ?_) (fun _ hf => ?_)
      · refine ex_goto (t := 2318) (dg dc332_25 24 rfl) rfl rfl ?_
        refine ex_pu (ls' := [vR E0, vR 0, vR 165, vR 181, vI (v4 + 6), vI v5, vI z_255]) (st' := []) (dg dc332_34 18 rfl) rfl rfl ?_
        refine ex_goto (t := 23) (dg dc332_34 19 rfl) rfl rfl ?_
        exact kb (v4 + 6) M_257 _ _ hf
      · refine ex_pu (ls' := [vR E0, vR 0, vR 165, vR 181, vI v4, vI v5, vI z_255]) (st' := [vI 0]) (dg dc332_25 22 rfl) rfl rfl ?_
        exact ex_ire (dg dc332_25 23 rfl) rfl hf
  · refine ex_pu (ls' := [vR E0, vR 0, vR 165, vR 181, vI v4, vI v5, vI z_255]) (st' := [vI 0]) (dg dc332_25 11 rfl) rfl rfl ?_
    exact ex_ire (dg dc332_25 12 rfl) rfl hf
def drv_main_J1702 (Z : Nat × (Nat → Int))  (Kb : Int → MM → OR) (v4 s0 s1 s2 : Int) (M : MM) : OR :=
  (bI (drv_meet s2 s1 s0 M) fun z_252 M_251 => (bif inB (v4 + 1) Z.1 then (bif inB (v4 + 2) Z.1 then (bif inB (v4 + 3) Z.1 then (bif cmpB .eq (Z.2 ((v4 + 3)).toNat) 0 then (drv_main_J1735 Z  Kb v4 z_252 0 (Z.2 ((v4 + 2)).toNat) (Z.2 ((v4 + 1)).toNat) M_251) else (drv_main_J1735 Z  Kb v4 z_252 1 (Z.2 ((v4 + 2)).toNat) (Z.2 ((v4 + 1)).toNat) M_251)) else none) else none) else none))
set_option maxRecDepth 4000 in
theorem drv_main_J1702_ok {Z : Nat × (Nat → Int)} {d : Nat} (hd : 52 ≤ d) (hZ : Z.1 < 2147483648)  {Kb : Int → MM → OR} {res : AR × MM} (kb : ∀ (x4 : Int) (M : MM) (j5 j6 : AV), Kb x4 M = some res → EX Z d 332 23 [vR E0, vR 0, vR 165, vR 181, vI x4, j5, j6] [] M res) : ∀ (v4 s0 s1 s2 : Int) (M : MM) (j5 j6 : AV), drv_main_J1702 Z  Kb v4 s0 s1 s2 M = some res → EX Z d 332 1702 [vR E0, vR 0, vR 165, vR 181, vI v4, j5, j6] [vI s0, vI s1, vI s2, vR 0] M res := by
  obtain ⟨e9, rfl⟩ : ∃ e9, d = e9 + 1 := ⟨d - 1, by omega⟩
  intro v4 s0 s1 s2 M j5 j6 hf
  unfold drv_main_J1702 at hf
  refine ex_pu (ls' := [vR E0, vR 0, vR 165, vR 181, vI v4, j5, j6]) (st' := [vR 181, vI s0, vI s1, vI s2, vR 0]) (dg dc332_24 22 rfl) rfl rfl ?_
  refine ex_cI (vs := [vR 0, vI s2, vI s1, vI s0, vR 181]) (st' := []) (F := (drv_meet s2 s1 s0 M)) (Or.inl ⟨rfl, (dg dc332_24 23 rfl)⟩) rfl rfl (Or.inl rfl) rfl (fun _ r9 => drv_meet_ok (Z := Z) (d := e9) (by omega)  r9) hf (fun z_252 M_251 he_250 hf => ?_)
  refine ex_pu (ls' := [vR E0, vR 0, vR 165, vR 181, vI v4, vI z_252, j6]) (st' := []) (dg dc332_24 24 rfl) rfl rfl ?_
  refine ex_pu (ls' := [vR E0, vR 0, vR 165, vR 181, vI v4, vI z_252, j6]) (st' := [vR 165]) (dg dc332_24 25 rfl) rfl rfl ?_
  refine ex_pu (ls' := [vR E0, vR 0, vR 165, vR 181, vI v4, vI z_252, j6]) (st' := [vR E0, vR 165]) (dg dc332_24 26 rfl) rfl rfl ?_
  refine ex_pu (ls' := [vR E0, vR 0, vR 165, vR 181, vI v4, vI z_252, j6]) (st' := [vI v4, vR E0, vR 165]) (dg dc332_24 27 rfl) rfl rfl ?_
  refine ex_pu (ls' := [vR E0, vR 0, vR 165, vR 181, vI v4, vI z_252, j6]) (st' := [vI 1, vI v4, vR E0, vR 165]) (dg dc332_24 28 rfl) rfl rfl ?_
  refine ex_pu (ls' := [vR E0, vR 0, vR 165, vR 181, vI v4, vI z_252, j6]) (st' := [vI (v4 + 1), vR E0, vR 165]) (dg dc332_24 29 rfl) rfl rfl ?_
  refine ex_ialdS (dg dc332_24 30 rfl) hZ hf (fun _ hf => ?_)
  refine ex_pu (ls' := [vR E0, vR 0, vR 165, vR 181, vI v4, vI z_252, j6]) (st' := [vR E0, vI (Z.2 ((v4 + 1)).toNat), vR 165]) (dg dc332_24 31 rfl) rfl rfl ?_
  refine ex_pu (ls' := [vR E0, vR 0, vR 165, vR 181, vI v4, vI z_252, j6]) (st' := [vI v4, vR E0, vI (Z.2 ((v4 + 1)).toNat), vR 165]) (dg dc332_24 32 rfl) rfl rfl ?_
  refine ex_pu (ls' := [vR E0, vR 0, vR 165, vR 181, vI v4, vI z_252, j6]) (st' := [vI 2, vI v4, vR E0, vI (Z.2 ((v4 + 1)).toNat), vR 165]) (dg dc332_24 33 rfl) rfl rfl ?_
  refine ex_pu (ls' := [vR E0, vR 0, vR 165, vR 181, vI v4, vI z_252, j6]) (st' := [vI (v4 + 2), vR E0, vI (Z.2 ((v4 + 1)).toNat), vR 165]) (dg dc332_24 34 rfl) rfl rfl ?_
  refine ex_ialdS (dg dc332_24 35 rfl) hZ hf (fun _ hf => ?_)
  refine ex_pu (ls' := [vR E0, vR 0, vR 165, vR 181, vI v4, vI z_252, j6]) (st' := [vR E0, vI (Z.2 ((v4 + 2)).toNat), vI (Z.2 ((v4 + 1)).toNat), vR 165]) (dg dc332_24 36 rfl) rfl rfl ?_
  refine ex_pu (ls' := [vR E0, vR 0, vR 165, vR 181, vI v4, vI z_252, j6]) (st' := [vI v4, vR E0, vI (Z.2 ((v4 + 2)).toNat), vI (Z.2 ((v4 + 1)).toNat), vR 165]) (dg dc332_24 37 rfl) rfl rfl ?_
  refine ex_pu (ls' := [vR E0, vR 0, vR 165, vR 181, vI v4, vI z_252, j6]) (st' := [vI 3, vI v4, vR E0, vI (Z.2 ((v4 + 2)).toNat), vI (Z.2 ((v4 + 1)).toNat), vR 165]) (dg dc332_24 38 rfl) rfl rfl ?_
  refine ex_pu (ls' := [vR E0, vR 0, vR 165, vR 181, vI v4, vI z_252, j6]) (st' := [vI (v4 + 3), vR E0, vI (Z.2 ((v4 + 2)).toNat), vI (Z.2 ((v4 + 1)).toNat), vR 165]) (dg dc332_24 39 rfl) rfl rfl ?_
  refine ex_ialdS (dg dc332_25 0 rfl) hZ hf (fun _ hf => ?_)
  refine ex_if (t := 1734) (dg dc332_25 1 rfl) rfl hf (fun _ hf => ?_) (fun _ hf => ?_)
  · refine ex_pu (ls' := [vR E0, vR 0, vR 165, vR 181, vI v4, vI z_252, j6]) (st' := [vI 0, vI (Z.2 ((v4 + 2)).toNat), vI (Z.2 ((v4 + 1)).toNat), vR 165]) (dg dc332_25 4 rfl) rfl rfl ?_
    exact drv_main_J1735_ok hd hZ  kb v4 z_252 0 (Z.2 ((v4 + 2)).toNat) (Z.2 ((v4 + 1)).toNat) M_251 _ hf
  · refine ex_pu (ls' := [vR E0, vR 0, vR 165, vR 181, vI v4, vI z_252, j6]) (st' := [vI 1, vI (Z.2 ((v4 + 2)).toNat), vI (Z.2 ((v4 + 1)).toNat), vR 165]) (dg dc332_25 2 rfl) rfl rfl ?_
    refine ex_goto (t := 1735) (dg dc332_25 3 rfl) rfl rfl ?_
    exact drv_main_J1735_ok hd hZ  kb v4 z_252 1 (Z.2 ((v4 + 2)).toNat) (Z.2 ((v4 + 1)).toNat) M_251 _ hf
def drv_main_J1675 (Z : Nat × (Nat → Int))  (Kb : Int → MM → OR) (v4 : Int) (M : MM) : OR :=
  (bif inB (v4 + 1) Z.1 then (bif inB (v4 + 2) Z.1 then (bif inB (v4 + 3) Z.1 then (bif cmpB .eq (Z.2 ((v4 + 3)).toNat) 0 then (drv_main_J1702 Z  Kb v4 0 (Z.2 ((v4 + 2)).toNat) (Z.2 ((v4 + 1)).toNat) M) else (drv_main_J1702 Z  Kb v4 1 (Z.2 ((v4 + 2)).toNat) (Z.2 ((v4 + 1)).toNat) M)) else none) else none) else none)
set_option maxRecDepth 4000 in
theorem drv_main_J1675_ok {Z : Nat × (Nat → Int)} {d : Nat} (hd : 52 ≤ d) (hZ : Z.1 < 2147483648)  {Kb : Int → MM → OR} {res : AR × MM} (kb : ∀ (x4 : Int) (M : MM) (j5 j6 : AV), Kb x4 M = some res → EX Z d 332 23 [vR E0, vR 0, vR 165, vR 181, vI x4, j5, j6] [] M res) : ∀ (v4 : Int) (M : MM) (j5 j6 : AV), drv_main_J1675 Z  Kb v4 M = some res → EX Z d 332 1675 [vR E0, vR 0, vR 165, vR 181, vI v4, j5, j6] [] M res := by
  obtain ⟨e9, rfl⟩ : ∃ e9, d = e9 + 1 := ⟨d - 1, by omega⟩
  intro v4 M j5 j6 hf
  unfold drv_main_J1675 at hf
  refine ex_pu (ls' := [vR E0, vR 0, vR 165, vR 181, vI v4, j5, j6]) (st' := [vR 0]) (dg dc332_24 2 rfl) rfl rfl ?_
  refine ex_pu (ls' := [vR E0, vR 0, vR 165, vR 181, vI v4, j5, j6]) (st' := [vR E0, vR 0]) (dg dc332_24 3 rfl) rfl rfl ?_
  refine ex_pu (ls' := [vR E0, vR 0, vR 165, vR 181, vI v4, j5, j6]) (st' := [vI v4, vR E0, vR 0]) (dg dc332_24 4 rfl) rfl rfl ?_
  refine ex_pu (ls' := [vR E0, vR 0, vR 165, vR 181, vI v4, j5, j6]) (st' := [vI 1, vI v4, vR E0, vR 0]) (dg dc332_24 5 rfl) rfl rfl ?_
  refine ex_pu (ls' := [vR E0, vR 0, vR 165, vR 181, vI v4, j5, j6]) (st' := [vI (v4 + 1), vR E0, vR 0]) (dg dc332_24 6 rfl) rfl rfl ?_
  refine ex_ialdS (dg dc332_24 7 rfl) hZ hf (fun _ hf => ?_)
  refine ex_pu (ls' := [vR E0, vR 0, vR 165, vR 181, vI v4, j5, j6]) (st' := [vR E0, vI (Z.2 ((v4 + 1)).toNat), vR 0]) (dg dc332_24 8 rfl) rfl rfl ?_
  refine ex_pu (ls' := [vR E0, vR 0, vR 165, vR 181, vI v4, j5, j6]) (st' := [vI v4, vR E0, vI (Z.2 ((v4 + 1)).toNat), vR 0]) (dg dc332_24 9 rfl) rfl rfl ?_
  refine ex_pu (ls' := [vR E0, vR 0, vR 165, vR 181, vI v4, j5, j6]) (st' := [vI 2, vI v4, vR E0, vI (Z.2 ((v4 + 1)).toNat), vR 0]) (dg dc332_24 10 rfl) rfl rfl ?_
  refine ex_pu (ls' := [vR E0, vR 0, vR 165, vR 181, vI v4, j5, j6]) (st' := [vI (v4 + 2), vR E0, vI (Z.2 ((v4 + 1)).toNat), vR 0]) (dg dc332_24 11 rfl) rfl rfl ?_
  refine ex_ialdS (dg dc332_24 12 rfl) hZ hf (fun _ hf => ?_)
  refine ex_pu (ls' := [vR E0, vR 0, vR 165, vR 181, vI v4, j5, j6]) (st' := [vR E0, vI (Z.2 ((v4 + 2)).toNat), vI (Z.2 ((v4 + 1)).toNat), vR 0]) (dg dc332_24 13 rfl) rfl rfl ?_
  refine ex_pu (ls' := [vR E0, vR 0, vR 165, vR 181, vI v4, j5, j6]) (st' := [vI v4, vR E0, vI (Z.2 ((v4 + 2)).toNat), vI (Z.2 ((v4 + 1)).toNat), vR 0]) (dg dc332_24 14 rfl) rfl rfl ?_
  refine ex_pu (ls' := [vR E0, vR 0, vR 165, vR 181, vI v4, j5, j6]) (st' := [vI 3, vI v4, vR E0, vI (Z.2 ((v4 + 2)).toNat), vI (Z.2 ((v4 + 1)).toNat), vR 0]) (dg dc332_24 15 rfl) rfl rfl ?_
  refine ex_pu (ls' := [vR E0, vR 0, vR 165, vR 181, vI v4, j5, j6]) (st' := [vI (v4 + 3), vR E0, vI (Z.2 ((v4 + 2)).toNat), vI (Z.2 ((v4 + 1)).toNat), vR 0]) (dg dc332_24 16 rfl) rfl rfl ?_
  refine ex_ialdS (dg dc332_24 17 rfl) hZ hf (fun _ hf => ?_)
  refine ex_if (t := 1701) (dg dc332_24 18 rfl) rfl hf (fun _ hf => ?_) (fun _ hf => ?_)
  · refine ex_pu (ls' := [vR E0, vR 0, vR 165, vR 181, vI v4, j5, j6]) (st' := [vI 0, vI (Z.2 ((v4 + 2)).toNat), vI (Z.2 ((v4 + 1)).toNat), vR 0]) (dg dc332_24 21 rfl) rfl rfl ?_
    exact drv_main_J1702_ok hd hZ  kb v4 0 (Z.2 ((v4 + 2)).toNat) (Z.2 ((v4 + 1)).toNat) M _ _ hf
  · refine ex_pu (ls' := [vR E0, vR 0, vR 165, vR 181, vI v4, j5, j6]) (st' := [vI 1, vI (Z.2 ((v4 + 2)).toNat), vI (Z.2 ((v4 + 1)).toNat), vR 0]) (dg dc332_24 19 rfl) rfl rfl ?_
    refine ex_goto (t := 1702) (dg dc332_24 20 rfl) rfl rfl ?_
    exact drv_main_J1702_ok hd hZ  kb v4 1 (Z.2 ((v4 + 2)).toNat) (Z.2 ((v4 + 1)).toNat) M _ _ hf
def drv_main_J1771 (Z : Nat × (Nat → Int))  (Kb : Int → MM → OR) (v4 : Int) (M : MM) : OR :=
  (bif inB (v4 + 1) Z.1 then (bif inB (v4 + 2) Z.1 then (bI (drv_surest (Z.2 ((v4 + 1)).toNat) (Z.2 ((v4 + 2)).toNat) M) fun z_262 M_261 => (bif inB (v4 + 1) Z.1 then (bif inB (v4 + 2) Z.1 then (bI (mo_surest (Z.2 ((v4 + 1)).toNat) (Z.2 ((v4 + 2)).toNat) M_261) fun z_265 M_264 => (bI (mo_thrown  M_264) fun z_268 M_267 => (bif cmpB .eq z_268 z_262 then (bif cmpB .ne z_262 0 then (Kb (v4 + 6) M_267) else (bif inB 0 1 then (bif cmpB .eq (lCmp (M_267 181 0) (w32 z_265)) 0 then (Kb (v4 + 6) M_267) else some (rI 0, M_267)) else none)) else some (rI 0, M_267)))) else none) else none)) else none) else none)
set_option maxRecDepth 4000 in
theorem drv_main_J1771_ok {Z : Nat × (Nat → Int)} {d : Nat} (hd : 52 ≤ d) (hZ : Z.1 < 2147483648)  {Kb : Int → MM → OR} {res : AR × MM} (kb : ∀ (x4 : Int) (M : MM) (j5 j6 : AV), Kb x4 M = some res → EX Z d 332 23 [vR E0, vR 0, vR 165, vR 181, vI x4, j5, j6] [] M res) : ∀ (v4 : Int) (M : MM) (j5 j6 : AV), drv_main_J1771 Z  Kb v4 M = some res → EX Z d 332 1771 [vR E0, vR 0, vR 165, vR 181, vI v4, j5, j6] [] M res := by
  obtain ⟨e9, rfl⟩ : ∃ e9, d = e9 + 1 := ⟨d - 1, by omega⟩
  intro v4 M j5 j6 hf
  unfold drv_main_J1771 at hf
  refine ex_pu (ls' := [vR E0, vR 0, vR 165, vR 181, vI v4, j5, j6]) (st' := [vR 0]) (dg dc332_25 25 rfl) rfl rfl ?_
  refine ex_pu (ls' := [vR E0, vR 0, vR 165, vR 181, vI v4, j5, j6]) (st' := [vR E0, vR 0]) (dg dc332_25 26 rfl) rfl rfl ?_
  refine ex_pu (ls' := [vR E0, vR 0, vR 165, vR 181, vI v4, j5, j6]) (st' := [vI v4, vR E0, vR 0]) (dg dc332_25 27 rfl) rfl rfl ?_
  refine ex_pu (ls' := [vR E0, vR 0, vR 165, vR 181, vI v4, j5, j6]) (st' := [vI 1, vI v4, vR E0, vR 0]) (dg dc332_25 28 rfl) rfl rfl ?_
  refine ex_pu (ls' := [vR E0, vR 0, vR 165, vR 181, vI v4, j5, j6]) (st' := [vI (v4 + 1), vR E0, vR 0]) (dg dc332_25 29 rfl) rfl rfl ?_
  refine ex_ialdS (dg dc332_25 30 rfl) hZ hf (fun _ hf => ?_)
  refine ex_pu (ls' := [vR E0, vR 0, vR 165, vR 181, vI v4, j5, j6]) (st' := [vR E0, vI (Z.2 ((v4 + 1)).toNat), vR 0]) (dg dc332_25 31 rfl) rfl rfl ?_
  refine ex_pu (ls' := [vR E0, vR 0, vR 165, vR 181, vI v4, j5, j6]) (st' := [vI v4, vR E0, vI (Z.2 ((v4 + 1)).toNat), vR 0]) (dg dc332_25 32 rfl) rfl rfl ?_
  refine ex_pu (ls' := [vR E0, vR 0, vR 165, vR 181, vI v4, j5, j6]) (st' := [vI 2, vI v4, vR E0, vI (Z.2 ((v4 + 1)).toNat), vR 0]) (dg dc332_25 33 rfl) rfl rfl ?_
  refine ex_pu (ls' := [vR E0, vR 0, vR 165, vR 181, vI v4, j5, j6]) (st' := [vI (v4 + 2), vR E0, vI (Z.2 ((v4 + 1)).toNat), vR 0]) (dg dc332_25 34 rfl) rfl rfl ?_
  refine ex_ialdS (dg dc332_25 35 rfl) hZ hf (fun _ hf => ?_)
  refine ex_pu (ls' := [vR E0, vR 0, vR 165, vR 181, vI v4, j5, j6]) (st' := [vR 181, vI (Z.2 ((v4 + 2)).toNat), vI (Z.2 ((v4 + 1)).toNat), vR 0]) (dg dc332_25 36 rfl) rfl rfl ?_
  refine ex_cI (vs := [vR 0, vI (Z.2 ((v4 + 1)).toNat), vI (Z.2 ((v4 + 2)).toNat), vR 181]) (st' := []) (F := (drv_surest (Z.2 ((v4 + 1)).toNat) (Z.2 ((v4 + 2)).toNat) M)) (Or.inl ⟨rfl, (dg dc332_25 37 rfl)⟩) rfl rfl (Or.inl rfl) rfl (fun _ r9 => drv_surest_ok (Z := Z) (d := e9) (by omega)  r9) hf (fun z_262 M_261 he_260 hf => ?_)
  refine ex_pu (ls' := [vR E0, vR 0, vR 165, vR 181, vI v4, vI z_262, j6]) (st' := []) (dg dc332_25 38 rfl) rfl rfl ?_
  refine ex_pu (ls' := [vR E0, vR 0, vR 165, vR 181, vI v4, vI z_262, j6]) (st' := [vR 165]) (dg dc332_25 39 rfl) rfl rfl ?_
  refine ex_pu (ls' := [vR E0, vR 0, vR 165, vR 181, vI v4, vI z_262, j6]) (st' := [vR E0, vR 165]) (dg dc332_26 0 rfl) rfl rfl ?_
  refine ex_pu (ls' := [vR E0, vR 0, vR 165, vR 181, vI v4, vI z_262, j6]) (st' := [vI v4, vR E0, vR 165]) (dg dc332_26 1 rfl) rfl rfl ?_
  refine ex_pu (ls' := [vR E0, vR 0, vR 165, vR 181, vI v4, vI z_262, j6]) (st' := [vI 1, vI v4, vR E0, vR 165]) (dg dc332_26 2 rfl) rfl rfl ?_
  refine ex_pu (ls' := [vR E0, vR 0, vR 165, vR 181, vI v4, vI z_262, j6]) (st' := [vI (v4 + 1), vR E0, vR 165]) (dg dc332_26 3 rfl) rfl rfl ?_
  refine ex_ialdS (dg dc332_26 4 rfl) hZ hf (fun _ hf => ?_)
  refine ex_pu (ls' := [vR E0, vR 0, vR 165, vR 181, vI v4, vI z_262, j6]) (st' := [vR E0, vI (Z.2 ((v4 + 1)).toNat), vR 165]) (dg dc332_26 5 rfl) rfl rfl ?_
  refine ex_pu (ls' := [vR E0, vR 0, vR 165, vR 181, vI v4, vI z_262, j6]) (st' := [vI v4, vR E0, vI (Z.2 ((v4 + 1)).toNat), vR 165]) (dg dc332_26 6 rfl) rfl rfl ?_
  refine ex_pu (ls' := [vR E0, vR 0, vR 165, vR 181, vI v4, vI z_262, j6]) (st' := [vI 2, vI v4, vR E0, vI (Z.2 ((v4 + 1)).toNat), vR 165]) (dg dc332_26 7 rfl) rfl rfl ?_
  refine ex_pu (ls' := [vR E0, vR 0, vR 165, vR 181, vI v4, vI z_262, j6]) (st' := [vI (v4 + 2), vR E0, vI (Z.2 ((v4 + 1)).toNat), vR 165]) (dg dc332_26 8 rfl) rfl rfl ?_
  refine ex_ialdS (dg dc332_26 9 rfl) hZ hf (fun _ hf => ?_)
  refine ex_cI (vs := [vR 165, vI (Z.2 ((v4 + 1)).toNat), vI (Z.2 ((v4 + 2)).toNat)]) (st' := []) (F := (mo_surest (Z.2 ((v4 + 1)).toNat) (Z.2 ((v4 + 2)).toNat) M_261)) (Or.inr (Or.inl ⟨rfl, (dg dc332_26 10 rfl)⟩)) rfl rfl (rk1 (LOC.st (Nat.le_of_ble_eq_true rfl) rfl) rfl) rfl (fun _ r9 => mo_surest_ok (Z := Z) (d := e9) (by omega)  r9) hf (fun z_265 M_264 he_263 hf => ?_)
  refine ex_pu (ls' := [vR E0, vR 0, vR 165, vR 181, vI v4, vI z_262, vI z_265]) (st' := []) (dg dc332_26 11 rfl) rfl rfl ?_
  refine ex_pu (ls' := [vR E0, vR 0, vR 165, vR 181, vI v4, vI z_262, vI z_265]) (st' := [vR 165]) (dg dc332_26 12 rfl) rfl rfl ?_
  refine ex_cI (vs := [vR 165]) (st' := []) (F := (mo_thrown  M_264)) (Or.inr (Or.inl ⟨rfl, (dg dc332_26 13 rfl)⟩)) rfl rfl (rk1 (LOC.st (Nat.le_of_ble_eq_true rfl) rfl) rfl) rfl (fun _ r9 => mo_thrown_ok (Z := Z) (d := e9) (by omega)  r9) hf (fun z_268 M_267 he_266 hf => ?_)
  refine ex_pu (ls' := [vR E0, vR 0, vR 165, vR 181, vI v4, vI z_262, vI z_265]) (st' := [vI z_262, vI z_268]) (dg dc332_26 14 rfl) rfl rfl ?_
  refine ex_icmp (t := 1819) (dg dc332_26 15 rfl) rfl hf (fun _ hf => ?_) (fun _ hf => ?_)
  · refine ex_pu (ls' := [vR E0, vR 0, vR 165, vR 181, vI v4, vI z_262, vI z_265]) (st' := [vI z_262]) (dg dc332_26 18 rfl) rfl rfl ?_
    refine ex_if (t := 1836) (dg dc332_26 19 rfl) rfl hf (fun _ hf => ?_) (fun _ hf => ?_)
    · refine ex_goto (t := 2318) (dg dc332_26 29 rfl) rfl rfl ?_
      refine ex_pu (ls' := [vR E0, vR 0, vR 165, vR 181, vI (v4 + 6), vI z_262, vI z_265]) (st' := []) (dg dc332_34 18 rfl) rfl rfl ?_
      refine ex_goto (t := 23) (dg dc332_34 19 rfl) rfl rfl ?_
      exact kb (v4 + 6) M_267 _ _ hf
    · refine ex_pu (ls' := [vR E0, vR 0, vR 165, vR 181, vI v4, vI z_262, vI z_265]) (st' := [vR 181]) (dg dc332_26 20 rfl) rfl rfl ?_
      refine ex_pu (ls' := [vR E0, vR 0, vR 165, vR 181, vI v4, vI z_262, vI z_265]) (st' := [vI 0, vR 181]) (dg dc332_26 21 rfl) rfl rfl ?_
      refine ex_lald (dg dc332_26 22 rfl) (LOC.st (Nat.le_of_ble_eq_true rfl) rfl) rfl hf (fun _ hf => ?_)
      refine ex_pu (ls' := [vR E0, vR 0, vR 165, vR 181, vI v4, vI z_262, vI z_265]) (st' := [vI z_265, vJ (M_267 181 0)]) (dg dc332_26 23 rfl) rfl rfl ?_
      refine ex_pu (ls' := [vR E0, vR 0, vR 165, vR 181, vI v4, vI z_262, vI z_265]) (st' := [vJ (w32 z_265), vJ (M_267 181 0)]) (dg dc332_26 24 rfl) rfl rfl ?_
      refine ex_pu (ls' := [vR E0, vR 0, vR 165, vR 181, vI v4, vI z_262, vI z_265]) (st' := [vI (lCmp (M_267 181 0) (w32 z_265))]) (dg dc332_26 25 rfl) rfl rfl ?_
      refine ex_if (t := 1836) (dg dc332_26 26 rfl) rfl hf (fun _ hf => ?_) (fun _ hf => ?_)
      · refine ex_goto (t := 2318) (dg dc332_26 29 rfl) rfl rfl ?_
        refine ex_pu (ls' := [vR E0, vR 0, vR 165, vR 181, vI (v4 + 6), vI z_262, vI z_265]) (st' := []) (dg dc332_34 18 rfl) rfl rfl ?_
        refine ex_goto (t := 23) (dg dc332_34 19 rfl) rfl rfl ?_
        exact kb (v4 + 6) M_267 _ _ hf
      · refine ex_pu (ls' := [vR E0, vR 0, vR 165, vR 181, vI v4, vI z_262, vI z_265]) (st' := [vI 0]) (dg dc332_26 27 rfl) rfl rfl ?_
        exact ex_ire (dg dc332_26 28 rfl) rfl hf
  · refine ex_pu (ls' := [vR E0, vR 0, vR 165, vR 181, vI v4, vI z_262, vI z_265]) (st' := [vI 0]) (dg dc332_26 16 rfl) rfl rfl ?_
    exact ex_ire (dg dc332_26 17 rfl) rfl hf
def drv_main_J1839 (Z : Nat × (Nat → Int))  (Kb : Int → MM → OR) (v4 : Int) (M : MM) : OR :=
  (bif inB (v4 + 1) Z.1 then (bI (gh_gate (Z.2 ((v4 + 1)).toNat) M) fun z_272 M_271 => (bif inB (v4 + 1) Z.1 then (bI (mo_gate (Z.2 ((v4 + 1)).toNat) M_271) fun z_275 M_274 => (bif cmpB .eq z_272 z_275 then (Kb (v4 + 6) M_274) else some (rI 0, M_274))) else none)) else none)
set_option maxRecDepth 4000 in
theorem drv_main_J1839_ok {Z : Nat × (Nat → Int)} {d : Nat} (hd : 52 ≤ d) (hZ : Z.1 < 2147483648)  {Kb : Int → MM → OR} {res : AR × MM} (kb : ∀ (x4 : Int) (M : MM) (j5 j6 : AV), Kb x4 M = some res → EX Z d 332 23 [vR E0, vR 0, vR 165, vR 181, vI x4, j5, j6] [] M res) : ∀ (v4 : Int) (M : MM) (j5 j6 : AV), drv_main_J1839 Z  Kb v4 M = some res → EX Z d 332 1839 [vR E0, vR 0, vR 165, vR 181, vI v4, j5, j6] [] M res := by
  obtain ⟨e9, rfl⟩ : ∃ e9, d = e9 + 1 := ⟨d - 1, by omega⟩
  intro v4 M j5 j6 hf
  unfold drv_main_J1839 at hf
  refine ex_pu (ls' := [vR E0, vR 0, vR 165, vR 181, vI v4, j5, j6]) (st' := [vR 0]) (dg dc332_26 30 rfl) rfl rfl ?_
  refine ex_pu (ls' := [vR E0, vR 0, vR 165, vR 181, vI v4, j5, j6]) (st' := [vR E0, vR 0]) (dg dc332_26 31 rfl) rfl rfl ?_
  refine ex_pu (ls' := [vR E0, vR 0, vR 165, vR 181, vI v4, j5, j6]) (st' := [vI v4, vR E0, vR 0]) (dg dc332_26 32 rfl) rfl rfl ?_
  refine ex_pu (ls' := [vR E0, vR 0, vR 165, vR 181, vI v4, j5, j6]) (st' := [vI 1, vI v4, vR E0, vR 0]) (dg dc332_26 33 rfl) rfl rfl ?_
  refine ex_pu (ls' := [vR E0, vR 0, vR 165, vR 181, vI v4, j5, j6]) (st' := [vI (v4 + 1), vR E0, vR 0]) (dg dc332_26 34 rfl) rfl rfl ?_
  refine ex_ialdS (dg dc332_26 35 rfl) hZ hf (fun _ hf => ?_)
  refine ex_cI (vs := [vR 0, vI (Z.2 ((v4 + 1)).toNat)]) (st' := []) (F := (gh_gate (Z.2 ((v4 + 1)).toNat) M)) (Or.inr (Or.inl ⟨rfl, (dg dc332_26 36 rfl)⟩)) rfl rfl (rk1 (LOC.st (Nat.le_of_ble_eq_true rfl) rfl) rfl) rfl (fun _ r9 => gh_gate_ok (Z := Z) (d := e9) (by omega)  r9) hf (fun z_272 M_271 he_270 hf => ?_)
  refine ex_pu (ls' := [vR E0, vR 0, vR 165, vR 181, vI v4, j5, j6]) (st' := [vR 165, vI z_272]) (dg dc332_26 37 rfl) rfl rfl ?_
  refine ex_pu (ls' := [vR E0, vR 0, vR 165, vR 181, vI v4, j5, j6]) (st' := [vR E0, vR 165, vI z_272]) (dg dc332_26 38 rfl) rfl rfl ?_
  refine ex_pu (ls' := [vR E0, vR 0, vR 165, vR 181, vI v4, j5, j6]) (st' := [vI v4, vR E0, vR 165, vI z_272]) (dg dc332_26 39 rfl) rfl rfl ?_
  refine ex_pu (ls' := [vR E0, vR 0, vR 165, vR 181, vI v4, j5, j6]) (st' := [vI 1, vI v4, vR E0, vR 165, vI z_272]) (dg dc332_27 0 rfl) rfl rfl ?_
  refine ex_pu (ls' := [vR E0, vR 0, vR 165, vR 181, vI v4, j5, j6]) (st' := [vI (v4 + 1), vR E0, vR 165, vI z_272]) (dg dc332_27 1 rfl) rfl rfl ?_
  refine ex_ialdS (dg dc332_27 2 rfl) hZ hf (fun _ hf => ?_)
  refine ex_cI (vs := [vR 165, vI (Z.2 ((v4 + 1)).toNat)]) (st' := [vI z_272]) (F := (mo_gate (Z.2 ((v4 + 1)).toNat) M_271)) (Or.inr (Or.inl ⟨rfl, (dg dc332_27 3 rfl)⟩)) rfl rfl (rk1 (LOC.st (Nat.le_of_ble_eq_true rfl) rfl) rfl) rfl (fun _ r9 => mo_gate_ok (Z := Z) (d := e9) (by omega)  r9) hf (fun z_275 M_274 he_273 hf => ?_)
  refine ex_icmp (t := 2318) (dg dc332_27 4 rfl) rfl hf (fun _ hf => ?_) (fun _ hf => ?_)
  · refine ex_pu (ls' := [vR E0, vR 0, vR 165, vR 181, vI (v4 + 6), j5, j6]) (st' := []) (dg dc332_34 18 rfl) rfl rfl ?_
    refine ex_goto (t := 23) (dg dc332_34 19 rfl) rfl rfl ?_
    exact kb (v4 + 6) M_274 _ _ hf
  · refine ex_pu (ls' := [vR E0, vR 0, vR 165, vR 181, vI v4, j5, j6]) (st' := [vI 0]) (dg dc332_27 5 rfl) rfl rfl ?_
    exact ex_ire (dg dc332_27 6 rfl) rfl hf
def drv_main_J1864 (Z : Nat × (Nat → Int))  (Kb : Int → MM → OR) (v4 : Int) (M : MM) : OR :=
  (bif inB (v4 + 1) Z.1 then (bI (drv_plates (Z.2 ((v4 + 1)).toNat) M) fun z_279 M_278 => (bif inB (v4 + 1) Z.1 then (bI (mo_plates (Z.2 ((v4 + 1)).toNat) M_278) fun z_282 M_281 => (bI (mo_thrown  M_281) fun z_285 M_284 => (bif cmpB .eq z_285 z_279 then (bif cmpB .ne z_279 0 then (Kb (v4 + 6) M_284) else (bif inB 0 1 then (bif cmpB .eq (lCmp (M_284 181 0) (w32 z_282)) 0 then (Kb (v4 + 6) M_284) else some (rI 0, M_284)) else none)) else some (rI 0, M_284)))) else none)) else none)
set_option maxRecDepth 4000 in
theorem drv_main_J1864_ok {Z : Nat × (Nat → Int)} {d : Nat} (hd : 52 ≤ d) (hZ : Z.1 < 2147483648)  {Kb : Int → MM → OR} {res : AR × MM} (kb : ∀ (x4 : Int) (M : MM) (j5 j6 : AV), Kb x4 M = some res → EX Z d 332 23 [vR E0, vR 0, vR 165, vR 181, vI x4, j5, j6] [] M res) : ∀ (v4 : Int) (M : MM) (j5 j6 : AV), drv_main_J1864 Z  Kb v4 M = some res → EX Z d 332 1864 [vR E0, vR 0, vR 165, vR 181, vI v4, j5, j6] [] M res := by
  obtain ⟨e9, rfl⟩ : ∃ e9, d = e9 + 1 := ⟨d - 1, by omega⟩
  intro v4 M j5 j6 hf
  unfold drv_main_J1864 at hf
  refine ex_pu (ls' := [vR E0, vR 0, vR 165, vR 181, vI v4, j5, j6]) (st' := [vR 0]) (dg dc332_27 7 rfl) rfl rfl ?_
  refine ex_pu (ls' := [vR E0, vR 0, vR 165, vR 181, vI v4, j5, j6]) (st' := [vR E0, vR 0]) (dg dc332_27 8 rfl) rfl rfl ?_
  refine ex_pu (ls' := [vR E0, vR 0, vR 165, vR 181, vI v4, j5, j6]) (st' := [vI v4, vR E0, vR 0]) (dg dc332_27 9 rfl) rfl rfl ?_
  refine ex_pu (ls' := [vR E0, vR 0, vR 165, vR 181, vI v4, j5, j6]) (st' := [vI 1, vI v4, vR E0, vR 0]) (dg dc332_27 10 rfl) rfl rfl ?_
  refine ex_pu (ls' := [vR E0, vR 0, vR 165, vR 181, vI v4, j5, j6]) (st' := [vI (v4 + 1), vR E0, vR 0]) (dg dc332_27 11 rfl) rfl rfl ?_
  refine ex_ialdS (dg dc332_27 12 rfl) hZ hf (fun _ hf => ?_)
  refine ex_pu (ls' := [vR E0, vR 0, vR 165, vR 181, vI v4, j5, j6]) (st' := [vR 181, vI (Z.2 ((v4 + 1)).toNat), vR 0]) (dg dc332_27 13 rfl) rfl rfl ?_
  refine ex_cI (vs := [vR 0, vI (Z.2 ((v4 + 1)).toNat), vR 181]) (st' := []) (F := (drv_plates (Z.2 ((v4 + 1)).toNat) M)) (Or.inl ⟨rfl, (dg dc332_27 14 rfl)⟩) rfl rfl (Or.inl rfl) rfl (fun _ r9 => drv_plates_ok (Z := Z) (d := e9) (by omega)  r9) hf (fun z_279 M_278 he_277 hf => ?_)
  refine ex_pu (ls' := [vR E0, vR 0, vR 165, vR 181, vI v4, vI z_279, j6]) (st' := []) (dg dc332_27 15 rfl) rfl rfl ?_
  refine ex_pu (ls' := [vR E0, vR 0, vR 165, vR 181, vI v4, vI z_279, j6]) (st' := [vR 165]) (dg dc332_27 16 rfl) rfl rfl ?_
  refine ex_pu (ls' := [vR E0, vR 0, vR 165, vR 181, vI v4, vI z_279, j6]) (st' := [vR E0, vR 165]) (dg dc332_27 17 rfl) rfl rfl ?_
  refine ex_pu (ls' := [vR E0, vR 0, vR 165, vR 181, vI v4, vI z_279, j6]) (st' := [vI v4, vR E0, vR 165]) (dg dc332_27 18 rfl) rfl rfl ?_
  refine ex_pu (ls' := [vR E0, vR 0, vR 165, vR 181, vI v4, vI z_279, j6]) (st' := [vI 1, vI v4, vR E0, vR 165]) (dg dc332_27 19 rfl) rfl rfl ?_
  refine ex_pu (ls' := [vR E0, vR 0, vR 165, vR 181, vI v4, vI z_279, j6]) (st' := [vI (v4 + 1), vR E0, vR 165]) (dg dc332_27 20 rfl) rfl rfl ?_
  refine ex_ialdS (dg dc332_27 21 rfl) hZ hf (fun _ hf => ?_)
  refine ex_cI (vs := [vR 165, vI (Z.2 ((v4 + 1)).toNat)]) (st' := []) (F := (mo_plates (Z.2 ((v4 + 1)).toNat) M_278)) (Or.inr (Or.inl ⟨rfl, (dg dc332_27 22 rfl)⟩)) rfl rfl (rk1 (LOC.st (Nat.le_of_ble_eq_true rfl) rfl) rfl) rfl (fun _ r9 => mo_plates_ok (Z := Z) (d := e9) (by omega)  r9) hf (fun z_282 M_281 he_280 hf => ?_)
  refine ex_pu (ls' := [vR E0, vR 0, vR 165, vR 181, vI v4, vI z_279, vI z_282]) (st' := []) (dg dc332_27 23 rfl) rfl rfl ?_
  refine ex_pu (ls' := [vR E0, vR 0, vR 165, vR 181, vI v4, vI z_279, vI z_282]) (st' := [vR 165]) (dg dc332_27 24 rfl) rfl rfl ?_
  refine ex_cI (vs := [vR 165]) (st' := []) (F := (mo_thrown  M_281)) (Or.inr (Or.inl ⟨rfl, (dg dc332_27 25 rfl)⟩)) rfl rfl (rk1 (LOC.st (Nat.le_of_ble_eq_true rfl) rfl) rfl) rfl (fun _ r9 => mo_thrown_ok (Z := Z) (d := e9) (by omega)  r9) hf (fun z_285 M_284 he_283 hf => ?_)
  refine ex_pu (ls' := [vR E0, vR 0, vR 165, vR 181, vI v4, vI z_279, vI z_282]) (st' := [vI z_279, vI z_285]) (dg dc332_27 26 rfl) rfl rfl ?_
  refine ex_icmp (t := 1900) (dg dc332_27 27 rfl) rfl hf (fun _ hf => ?_) (fun _ hf => ?_)
  · refine ex_pu (ls' := [vR E0, vR 0, vR 165, vR 181, vI v4, vI z_279, vI z_282]) (st' := [vI z_279]) (dg dc332_27 30 rfl) rfl rfl ?_
    refine ex_if (t := 1917) (dg dc332_27 31 rfl) rfl hf (fun _ hf => ?_) (fun _ hf => ?_)
    · refine ex_goto (t := 2318) (dg dc332_28 1 rfl) rfl rfl ?_
      refine ex_pu (ls' := [vR E0, vR 0, vR 165, vR 181, vI (v4 + 6), vI z_279, vI z_282]) (st' := []) (dg dc332_34 18 rfl) rfl rfl ?_
      refine ex_goto (t := 23) (dg dc332_34 19 rfl) rfl rfl ?_
      exact kb (v4 + 6) M_284 _ _ hf
    · refine ex_pu (ls' := [vR E0, vR 0, vR 165, vR 181, vI v4, vI z_279, vI z_282]) (st' := [vR 181]) (dg dc332_27 32 rfl) rfl rfl ?_
      refine ex_pu (ls' := [vR E0, vR 0, vR 165, vR 181, vI v4, vI z_279, vI z_282]) (st' := [vI 0, vR 181]) (dg dc332_27 33 rfl) rfl rfl ?_
      refine ex_lald (dg dc332_27 34 rfl) (LOC.st (Nat.le_of_ble_eq_true rfl) rfl) rfl hf (fun _ hf => ?_)
      refine ex_pu (ls' := [vR E0, vR 0, vR 165, vR 181, vI v4, vI z_279, vI z_282]) (st' := [vI z_282, vJ (M_284 181 0)]) (dg dc332_27 35 rfl) rfl rfl ?_
      refine ex_pu (ls' := [vR E0, vR 0, vR 165, vR 181, vI v4, vI z_279, vI z_282]) (st' := [vJ (w32 z_282), vJ (M_284 181 0)]) (dg dc332_27 36 rfl) rfl rfl ?_
      refine ex_pu (ls' := [vR E0, vR 0, vR 165, vR 181, vI v4, vI z_279, vI z_282]) (st' := [vI (lCmp (M_284 181 0) (w32 z_282))]) (dg dc332_27 37 rfl) rfl rfl ?_
      refine ex_if (t := 1917) (dg dc332_27 38 rfl) rfl hf (fun _ hf => ?_) (fun _ hf => ?_)
      · refine ex_goto (t := 2318) (dg dc332_28 1 rfl) rfl rfl ?_
        refine ex_pu (ls' := [vR E0, vR 0, vR 165, vR 181, vI (v4 + 6), vI z_279, vI z_282]) (st' := []) (dg dc332_34 18 rfl) rfl rfl ?_
        refine ex_goto (t := 23) (dg dc332_34 19 rfl) rfl rfl ?_
        exact kb (v4 + 6) M_284 _ _ hf
      · refine ex_pu (ls' := [vR E0, vR 0, vR 165, vR 181, vI v4, vI z_279, vI z_282]) (st' := [vI 0]) (dg dc332_27 39 rfl) rfl rfl ?_
        exact ex_ire (dg dc332_28 0 rfl) rfl hf
  · refine ex_pu (ls' := [vR E0, vR 0, vR 165, vR 181, vI v4, vI z_279, vI z_282]) (st' := [vI 0]) (dg dc332_27 28 rfl) rfl rfl ?_
    exact ex_ire (dg dc332_27 29 rfl) rfl hf
def drv_main_J1956 (Z : Nat × (Nat → Int))  (Kb : Int → MM → OR) (v4 v5 s0 : Int) (M : MM) : OR :=
  (bI (mo_locks s0 M) fun z_292 M_291 => (bI (mo_thrown  M_291) fun z_295 M_294 => (bif cmpB .eq z_295 v5 then (bif cmpB .ne v5 0 then (Kb (v4 + 6) M_294) else (bif inB 0 1 then (bif cmpB .eq (lCmp (M_294 181 0) (w32 z_292)) 0 then (Kb (v4 + 6) M_294) else some (rI 0, M_294)) else none)) else some (rI 0, M_294))))
set_option maxRecDepth 4000 in
theorem drv_main_J1956_ok {Z : Nat × (Nat → Int)} {d : Nat} (hd : 52 ≤ d) (hZ : Z.1 < 2147483648)  {Kb : Int → MM → OR} {res : AR × MM} (kb : ∀ (x4 : Int) (M : MM) (j5 j6 : AV), Kb x4 M = some res → EX Z d 332 23 [vR E0, vR 0, vR 165, vR 181, vI x4, j5, j6] [] M res) : ∀ (v4 v5 s0 : Int) (M : MM) (j6 : AV), drv_main_J1956 Z  Kb v4 v5 s0 M = some res → EX Z d 332 1956 [vR E0, vR 0, vR 165, vR 181, vI v4, vI v5, j6] [vI s0, vR 165] M res := by
  obtain ⟨e9, rfl⟩ : ∃ e9, d = e9 + 1 := ⟨d - 1, by omega⟩
  intro v4 v5 s0 M j6 hf
  unfold drv_main_J1956 at hf
  refine ex_cI (vs := [vR 165, vI s0]) (st' := []) (F := (mo_locks s0 M)) (Or.inr (Or.inl ⟨rfl, (dg dc332_28 25 rfl)⟩)) rfl rfl (rk1 (LOC.st (Nat.le_of_ble_eq_true rfl) rfl) rfl) rfl (fun _ r9 => mo_locks_ok (Z := Z) (d := e9) (by omega)  r9) hf (fun z_292 M_291 he_290 hf => ?_)
  refine ex_pu (ls' := [vR E0, vR 0, vR 165, vR 181, vI v4, vI v5, vI z_292]) (st' := []) (dg dc332_28 26 rfl) rfl rfl ?_
  refine ex_pu (ls' := [vR E0, vR 0, vR 165, vR 181, vI v4, vI v5, vI z_292]) (st' := [vR 165]) (dg dc332_28 27 rfl) rfl rfl ?_
  refine ex_cI (vs := [vR 165]) (st' := []) (F := (mo_thrown  M_291)) (Or.inr (Or.inl ⟨rfl, (dg dc332_28 28 rfl)⟩)) rfl rfl (rk1 (LOC.st (Nat.le_of_ble_eq_true rfl) rfl) rfl) rfl (fun _ r9 => mo_thrown_ok (Z := Z) (d := e9) (by omega)  r9) hf (fun z_295 M_294 he_293 hf => ?_)
  refine ex_pu (ls' := [vR E0, vR 0, vR 165, vR 181, vI v4, vI v5, vI z_292]) (st' := [vI v5, vI z_295]) (dg dc332_28 29 rfl) rfl rfl ?_
  refine ex_icmp (t := 1972) (dg dc332_28 30 rfl) rfl hf (fun _ hf => ?_) (fun _ hf => ?_)
  · refine ex_pu (ls' := [vR E0, vR 0, vR 165, vR 181, vI v4, vI v5, vI z_292]) (st' := [vI v5]) (dg dc332_28 33 rfl) rfl rfl ?_
    refine ex_if (t := 1989) (dg dc332_28 34 rfl) rfl hf (fun _ hf => ?_) (fun _ hf => ?_)
    · refine ex_goto (t := 2318) (dg dc332_29 4 rfl) rfl rfl ?_
      refine ex_pu (ls' := [vR E0, vR 0, vR 165, vR 181, vI (v4 + 6), vI v5, vI z_292]) (st' := []) (dg dc332_34 18 rfl) rfl rfl ?_
      refine ex_goto (t := 23) (dg dc332_34 19 rfl) rfl rfl ?_
      exact kb (v4 + 6) M_294 _ _ hf
    · refine ex_pu (ls' := [vR E0, vR 0, vR 165, vR 181, vI v4, vI v5, vI z_292]) (st' := [vR 181]) (dg dc332_28 35 rfl) rfl rfl ?_
      refine ex_pu (ls' := [vR E0, vR 0, vR 165, vR 181, vI v4, vI v5, vI z_292]) (st' := [vI 0, vR 181]) (dg dc332_28 36 rfl) rfl rfl ?_
      refine ex_lald (dg dc332_28 37 rfl) (LOC.st (Nat.le_of_ble_eq_true rfl) rfl) rfl hf (fun _ hf => ?_)
      refine ex_pu (ls' := [vR E0, vR 0, vR 165, vR 181, vI v4, vI v5, vI z_292]) (st' := [vI z_292, vJ (M_294 181 0)]) (dg dc332_28 38 rfl) rfl rfl ?_
      refine ex_pu (ls' := [vR E0, vR 0, vR 165, vR 181, vI v4, vI v5, vI z_292]) (st' := [vJ (w32 z_292), vJ (M_294 181 0)]) (dg dc332_28 39 rfl) rfl rfl ?_
      refine ex_pu (ls' := [vR E0, vR 0, vR 165, vR 181, vI v4, vI v5, vI z_292]) (st' := [vI (lCmp (M_294 181 0) (w32 z_292))]) (dg dc332_29 0 rfl) rfl rfl ?_
      refine ex_if (t := 1989) (dg dc332_29 1 rfl) rfl hf (fun _ hf => ?_) (fun _ hf => ?_)
      · refine ex_goto (t := 2318) (dg dc332_29 4 rfl) rfl rfl ?_
        refine ex_pu (ls' := [vR E0, vR 0, vR 165, vR 181, vI (v4 + 6), vI v5, vI z_292]) (st' := []) (dg dc332_34 18 rfl) rfl rfl ?_
        refine ex_goto (t := 23) (dg dc332_34 19 rfl) rfl rfl ?_
        exact kb (v4 + 6) M_294 _ _ hf
      · refine ex_pu (ls' := [vR E0, vR 0, vR 165, vR 181, vI v4, vI v5, vI z_292]) (st' := [vI 0]) (dg dc332_29 2 rfl) rfl rfl ?_
        exact ex_ire (dg dc332_29 3 rfl) rfl hf
  · refine ex_pu (ls' := [vR E0, vR 0, vR 165, vR 181, vI v4, vI v5, vI z_292]) (st' := [vI 0]) (dg dc332_28 31 rfl) rfl rfl ?_
    exact ex_ire (dg dc332_28 32 rfl) rfl hf
def drv_main_J1935 (Z : Nat × (Nat → Int))  (Kb : Int → MM → OR) (v4 s0 : Int) (M : MM) : OR :=
  (bI (drv_locks s0 M) fun z_289 M_288 => (bif inB (v4 + 1) Z.1 then (bif cmpB .eq (Z.2 ((v4 + 1)).toNat) 0 then (drv_main_J1956 Z  Kb v4 z_289 0 M_288) else (drv_main_J1956 Z  Kb v4 z_289 1 M_288)) else none))
set_option maxRecDepth 4000 in
theorem drv_main_J1935_ok {Z : Nat × (Nat → Int)} {d : Nat} (hd : 52 ≤ d) (hZ : Z.1 < 2147483648)  {Kb : Int → MM → OR} {res : AR × MM} (kb : ∀ (x4 : Int) (M : MM) (j5 j6 : AV), Kb x4 M = some res → EX Z d 332 23 [vR E0, vR 0, vR 165, vR 181, vI x4, j5, j6] [] M res) : ∀ (v4 s0 : Int) (M : MM) (j5 j6 : AV), drv_main_J1935 Z  Kb v4 s0 M = some res → EX Z d 332 1935 [vR E0, vR 0, vR 165, vR 181, vI v4, j5, j6] [vI s0, vR 0] M res := by
  obtain ⟨e9, rfl⟩ : ∃ e9, d = e9 + 1 := ⟨d - 1, by omega⟩
  intro v4 s0 M j5 j6 hf
  unfold drv_main_J1935 at hf
  refine ex_pu (ls' := [vR E0, vR 0, vR 165, vR 181, vI v4, j5, j6]) (st' := [vR 181, vI s0, vR 0]) (dg dc332_28 12 rfl) rfl rfl ?_
  refine ex_cI (vs := [vR 0, vI s0, vR 181]) (st' := []) (F := (drv_locks s0 M)) (Or.inl ⟨rfl, (dg dc332_28 13 rfl)⟩) rfl rfl (Or.inl rfl) rfl (fun _ r9 => drv_locks_ok (Z := Z) (d := e9) (by omega)  r9) hf (fun z_289 M_288 he_287 hf => ?_)
  refine ex_pu (ls' := [vR E0, vR 0, vR 165, vR 181, vI v4, vI z_289, j6]) (st' := []) (dg dc332_28 14 rfl) rfl rfl ?_
  refine ex_pu (ls' := [vR E0, vR 0, vR 165, vR 181, vI v4, vI z_289, j6]) (st' := [vR 165]) (dg dc332_28 15 rfl) rfl rfl ?_
  refine ex_pu (ls' := [vR E0, vR 0, vR 165, vR 181, vI v4, vI z_289, j6]) (st' := [vR E0, vR 165]) (dg dc332_28 16 rfl) rfl rfl ?_
  refine ex_pu (ls' := [vR E0, vR 0, vR 165, vR 181, vI v4, vI z_289, j6]) (st' := [vI v4, vR E0, vR 165]) (dg dc332_28 17 rfl) rfl rfl ?_
  refine ex_pu (ls' := [vR E0, vR 0, vR 165, vR 181, vI v4, vI z_289, j6]) (st' := [vI 1, vI v4, vR E0, vR 165]) (dg dc332_28 18 rfl) rfl rfl ?_
  refine ex_pu (ls' := [vR E0, vR 0, vR 165, vR 181, vI v4, vI z_289, j6]) (st' := [vI (v4 + 1), vR E0, vR 165]) (dg dc332_28 19 rfl) rfl rfl ?_
  refine ex_ialdS (dg dc332_28 20 rfl) hZ hf (fun _ hf => ?_)
  refine ex_if (t := 1955) (dg dc332_28 21 rfl) rfl hf (fun _ hf => ?_) (fun _ hf => ?_)
  · refine ex_pu (ls' := [vR E0, vR 0, vR 165, vR 181, vI v4, vI z_289, j6]) (st' := [vI 0, vR 165]) (dg dc332_28 24 rfl) rfl rfl ?_
    exact drv_main_J1956_ok hd hZ  kb v4 z_289 0 M_288 _ hf
  · refine ex_pu (ls' := [vR E0, vR 0, vR 165, vR 181, vI v4, vI z_289, j6]) (st' := [vI 1, vR 165]) (dg dc332_28 22 rfl) rfl rfl ?_
    refine ex_goto (t := 1956) (dg dc332_28 23 rfl) rfl rfl ?_
    exact drv_main_J1956_ok hd hZ  kb v4 z_289 1 M_288 _ hf
def drv_main_J1920 (Z : Nat × (Nat → Int))  (Kb : Int → MM → OR) (v4 : Int) (M : MM) : OR :=
  (bif inB (v4 + 1) Z.1 then (bif cmpB .eq (Z.2 ((v4 + 1)).toNat) 0 then (drv_main_J1935 Z  Kb v4 0 M) else (drv_main_J1935 Z  Kb v4 1 M)) else none)
set_option maxRecDepth 4000 in
theorem drv_main_J1920_ok {Z : Nat × (Nat → Int)} {d : Nat} (hd : 52 ≤ d) (hZ : Z.1 < 2147483648)  {Kb : Int → MM → OR} {res : AR × MM} (kb : ∀ (x4 : Int) (M : MM) (j5 j6 : AV), Kb x4 M = some res → EX Z d 332 23 [vR E0, vR 0, vR 165, vR 181, vI x4, j5, j6] [] M res) : ∀ (v4 : Int) (M : MM) (j5 j6 : AV), drv_main_J1920 Z  Kb v4 M = some res → EX Z d 332 1920 [vR E0, vR 0, vR 165, vR 181, vI v4, j5, j6] [] M res := by
  obtain ⟨e9, rfl⟩ : ∃ e9, d = e9 + 1 := ⟨d - 1, by omega⟩
  intro v4 M j5 j6 hf
  unfold drv_main_J1920 at hf
  refine ex_pu (ls' := [vR E0, vR 0, vR 165, vR 181, vI v4, j5, j6]) (st' := [vR 0]) (dg dc332_28 2 rfl) rfl rfl ?_
  refine ex_pu (ls' := [vR E0, vR 0, vR 165, vR 181, vI v4, j5, j6]) (st' := [vR E0, vR 0]) (dg dc332_28 3 rfl) rfl rfl ?_
  refine ex_pu (ls' := [vR E0, vR 0, vR 165, vR 181, vI v4, j5, j6]) (st' := [vI v4, vR E0, vR 0]) (dg dc332_28 4 rfl) rfl rfl ?_
  refine ex_pu (ls' := [vR E0, vR 0, vR 165, vR 181, vI v4, j5, j6]) (st' := [vI 1, vI v4, vR E0, vR 0]) (dg dc332_28 5 rfl) rfl rfl ?_
  refine ex_pu (ls' := [vR E0, vR 0, vR 165, vR 181, vI v4, j5, j6]) (st' := [vI (v4 + 1), vR E0, vR 0]) (dg dc332_28 6 rfl) rfl rfl ?_
  refine ex_ialdS (dg dc332_28 7 rfl) hZ hf (fun _ hf => ?_)
  refine ex_if (t := 1934) (dg dc332_28 8 rfl) rfl hf (fun _ hf => ?_) (fun _ hf => ?_)
  · refine ex_pu (ls' := [vR E0, vR 0, vR 165, vR 181, vI v4, j5, j6]) (st' := [vI 0, vR 0]) (dg dc332_28 11 rfl) rfl rfl ?_
    exact drv_main_J1935_ok hd hZ  kb v4 0 M _ _ hf
  · refine ex_pu (ls' := [vR E0, vR 0, vR 165, vR 181, vI v4, j5, j6]) (st' := [vI 1, vR 0]) (dg dc332_28 9 rfl) rfl rfl ?_
    refine ex_goto (t := 1935) (dg dc332_28 10 rfl) rfl rfl ?_
    exact drv_main_J1935_ok hd hZ  kb v4 1 M _ _ hf
def drv_main_J2096 (Z : Nat × (Nat → Int))  (Kb : Int → MM → OR) (v4 v5 s0 s1 s2 s3 : Int) (M : MM) : OR :=
  (bI (mo_shirts s3 s2 s1 s0 M) fun z_302 M_301 => (bI (mo_thrown  M_301) fun z_305 M_304 => (bif cmpB .eq z_305 v5 then (bif cmpB .ne v5 0 then (Kb (v4 + 6) M_304) else (bif inB 0 1 then (bif cmpB .eq (lCmp (M_304 181 0) (w32 z_302)) 0 then (Kb (v4 + 6) M_304) else some (rI 0, M_304)) else none)) else some (rI 0, M_304))))
set_option maxRecDepth 4000 in
theorem drv_main_J2096_ok {Z : Nat × (Nat → Int)} {d : Nat} (hd : 52 ≤ d) (hZ : Z.1 < 2147483648)  {Kb : Int → MM → OR} {res : AR × MM} (kb : ∀ (x4 : Int) (M : MM) (j5 j6 : AV), Kb x4 M = some res → EX Z d 332 23 [vR E0, vR 0, vR 165, vR 181, vI x4, j5, j6] [] M res) : ∀ (v4 v5 s0 s1 s2 s3 : Int) (M : MM) (j6 : AV), drv_main_J2096 Z  Kb v4 v5 s0 s1 s2 s3 M = some res → EX Z d 332 2096 [vR E0, vR 0, vR 165, vR 181, vI v4, vI v5, j6] [vI s0, vJ s1, vI s2, vI s3, vR 165] M res := by
  obtain ⟨e9, rfl⟩ : ∃ e9, d = e9 + 1 := ⟨d - 1, by omega⟩
  intro v4 v5 s0 s1 s2 s3 M j6 hf
  unfold drv_main_J2096 at hf
  refine ex_cI (vs := [vR 165, vI s3, vI s2, vJ s1, vI s0]) (st' := []) (F := (mo_shirts s3 s2 s1 s0 M)) (Or.inr (Or.inl ⟨rfl, (dg dc332_31 2 rfl)⟩)) rfl rfl (rk1 (LOC.st (Nat.le_of_ble_eq_true rfl) rfl) rfl) rfl (fun _ r9 => mo_shirts_ok (Z := Z) (d := e9) (by omega)  r9) hf (fun z_302 M_301 he_300 hf => ?_)
  refine ex_pu (ls' := [vR E0, vR 0, vR 165, vR 181, vI v4, vI v5, vI z_302]) (st' := []) (dg dc332_31 3 rfl) rfl rfl ?_
  refine ex_pu (ls' := [vR E0, vR 0, vR 165, vR 181, vI v4, vI v5, vI z_302]) (st' := [vR 165]) (dg dc332_31 4 rfl) rfl rfl ?_
  refine ex_cI (vs := [vR 165]) (st' := []) (F := (mo_thrown  M_301)) (Or.inr (Or.inl ⟨rfl, (dg dc332_31 5 rfl)⟩)) rfl rfl (rk1 (LOC.st (Nat.le_of_ble_eq_true rfl) rfl) rfl) rfl (fun _ r9 => mo_thrown_ok (Z := Z) (d := e9) (by omega)  r9) hf (fun z_305 M_304 he_303 hf => ?_)
  refine ex_pu (ls' := [vR E0, vR 0, vR 165, vR 181, vI v4, vI v5, vI z_302]) (st' := [vI v5, vI z_305]) (dg dc332_31 6 rfl) rfl rfl ?_
  refine ex_icmp (t := 2112) (dg dc332_31 7 rfl) rfl hf (fun _ hf => ?_) (fun _ hf => ?_)
  · refine ex_pu (ls' := [vR E0, vR 0, vR 165, vR 181, vI v4, vI v5, vI z_302]) (st' := [vI v5]) (dg dc332_31 10 rfl) rfl rfl ?_
    refine ex_if (t := 2129) (dg dc332_31 11 rfl) rfl hf (fun _ hf => ?_) (fun _ hf => ?_)
    · refine ex_goto (t := 2318) (dg dc332_31 21 rfl) rfl rfl ?_
      refine ex_pu (ls' := [vR E0, vR 0, vR 165, vR 181, vI (v4 + 6), vI v5, vI z_302]) (st' := []) (dg dc332_34 18 rfl) rfl rfl ?_
      refine ex_goto (t := 23) (dg dc332_34 19 rfl) rfl rfl ?_
      exact kb (v4 + 6) M_304 _ _ hf
    · refine ex_pu (ls' := [vR E0, vR 0, vR 165, vR 181, vI v4, vI v5, vI z_302]) (st' := [vR 181]) (dg dc332_31 12 rfl) rfl rfl ?_
      refine ex_pu (ls' := [vR E0, vR 0, vR 165, vR 181, vI v4, vI v5, vI z_302]) (st' := [vI 0, vR 181]) (dg dc332_31 13 rfl) rfl rfl ?_
      refine ex_lald (dg dc332_31 14 rfl) (LOC.st (Nat.le_of_ble_eq_true rfl) rfl) rfl hf (fun _ hf => ?_)
      refine ex_pu (ls' := [vR E0, vR 0, vR 165, vR 181, vI v4, vI v5, vI z_302]) (st' := [vI z_302, vJ (M_304 181 0)]) (dg dc332_31 15 rfl) rfl rfl ?_
      refine ex_pu (ls' := [vR E0, vR 0, vR 165, vR 181, vI v4, vI v5, vI z_302]) (st' := [vJ (w32 z_302), vJ (M_304 181 0)]) (dg dc332_31 16 rfl) rfl rfl ?_
      refine ex_pu (ls' := [vR E0, vR 0, vR 165, vR 181, vI v4, vI v5, vI z_302]) (st' := [vI (lCmp (M_304 181 0) (w32 z_302))]) (dg dc332_31 17 rfl) rfl rfl ?_
      refine ex_if (t := 2129) (dg dc332_31 18 rfl) rfl hf (fun _ hf => ?_) (fun _ hf => ?_)
      · refine ex_goto (t := 2318) (dg dc332_31 21 rfl) rfl rfl ?_
        refine ex_pu (ls' := [vR E0, vR 0, vR 165, vR 181, vI (v4 + 6), vI v5, vI z_302]) (st' := []) (dg dc332_34 18 rfl) rfl rfl ?_
        refine ex_goto (t := 23) (dg dc332_34 19 rfl) rfl rfl ?_
        exact kb (v4 + 6) M_304 _ _ hf
      · refine ex_pu (ls' := [vR E0, vR 0, vR 165, vR 181, vI v4, vI v5, vI z_302]) (st' := [vI 0]) (dg dc332_31 19 rfl) rfl rfl ?_
        exact ex_ire (dg dc332_31 20 rfl) rfl hf
  · refine ex_pu (ls' := [vR E0, vR 0, vR 165, vR 181, vI v4, vI v5, vI z_302]) (st' := [vI 0]) (dg dc332_31 8 rfl) rfl rfl ?_
    exact ex_ire (dg dc332_31 9 rfl) rfl hf
def drv_main_J2041 (Z : Nat × (Nat → Int))  (Kb : Int → MM → OR) (v4 s0 s1 s2 s3 : Int) (M : MM) : OR :=
  (bI (drv_shirts s3 s2 s1 s0 M) fun z_299 M_298 => (bif inB (v4 + 1) Z.1 then (bif inB (v4 + 2) Z.1 then (bif inB (v4 + 3) Z.1 then (bif inB (v4 + 4) Z.1 then (bif inB (v4 + 5) Z.1 then (bif cmpB .eq (Z.2 ((v4 + 5)).toNat) 0 then (drv_main_J2096 Z  Kb v4 z_299 0 (lOr (lShl (w32 (Z.2 ((v4 + 3)).toNat)) 32) (lAnd (w32 (Z.2 ((v4 + 4)).toNat)) 4294967295)) (Z.2 ((v4 + 2)).toNat) (Z.2 ((v4 + 1)).toNat) M_298) else (drv_main_J2096 Z  Kb v4 z_299 1 (lOr (lShl (w32 (Z.2 ((v4 + 3)).toNat)) 32) (lAnd (w32 (Z.2 ((v4 + 4)).toNat)) 4294967295)) (Z.2 ((v4 + 2)).toNat) (Z.2 ((v4 + 1)).toNat) M_298)) else none) else none) else none) else none) else none))
set_option maxRecDepth 4000 in
theorem drv_main_J2041_ok {Z : Nat × (Nat → Int)} {d : Nat} (hd : 52 ≤ d) (hZ : Z.1 < 2147483648)  {Kb : Int → MM → OR} {res : AR × MM} (kb : ∀ (x4 : Int) (M : MM) (j5 j6 : AV), Kb x4 M = some res → EX Z d 332 23 [vR E0, vR 0, vR 165, vR 181, vI x4, j5, j6] [] M res) : ∀ (v4 s0 s1 s2 s3 : Int) (M : MM) (j5 j6 : AV), drv_main_J2041 Z  Kb v4 s0 s1 s2 s3 M = some res → EX Z d 332 2041 [vR E0, vR 0, vR 165, vR 181, vI v4, j5, j6] [vI s0, vJ s1, vI s2, vI s3, vR 0] M res := by
  obtain ⟨e9, rfl⟩ : ∃ e9, d = e9 + 1 := ⟨d - 1, by omega⟩
  intro v4 s0 s1 s2 s3 M j5 j6 hf
  unfold drv_main_J2041 at hf
  refine ex_pu (ls' := [vR E0, vR 0, vR 165, vR 181, vI v4, j5, j6]) (st' := [vR 181, vI s0, vJ s1, vI s2, vI s3, vR 0]) (dg dc332_30 2 rfl) rfl rfl ?_
  refine ex_cI (vs := [vR 0, vI s3, vI s2, vJ s1, vI s0, vR 181]) (st' := []) (F := (drv_shirts s3 s2 s1 s0 M)) (Or.inl ⟨rfl, (dg dc332_30 3 rfl)⟩) rfl rfl (Or.inl rfl) rfl (fun _ r9 => drv_shirts_ok (Z := Z) (d := e9) (by omega)  r9) hf (fun z_299 M_298 he_297 hf => ?_)
  refine ex_pu (ls' := [vR E0, vR 0, vR 165, vR 181, vI v4, vI z_299, j6]) (st' := []) (dg dc332_30 4 rfl) rfl rfl ?_
  refine ex_pu (ls' := [vR E0, vR 0, vR 165, vR 181, vI v4, vI z_299, j6]) (st' := [vR 165]) (dg dc332_30 5 rfl) rfl rfl ?_
  refine ex_pu (ls' := [vR E0, vR 0, vR 165, vR 181, vI v4, vI z_299, j6]) (st' := [vR E0, vR 165]) (dg dc332_30 6 rfl) rfl rfl ?_
  refine ex_pu (ls' := [vR E0, vR 0, vR 165, vR 181, vI v4, vI z_299, j6]) (st' := [vI v4, vR E0, vR 165]) (dg dc332_30 7 rfl) rfl rfl ?_
  refine ex_pu (ls' := [vR E0, vR 0, vR 165, vR 181, vI v4, vI z_299, j6]) (st' := [vI 1, vI v4, vR E0, vR 165]) (dg dc332_30 8 rfl) rfl rfl ?_
  refine ex_pu (ls' := [vR E0, vR 0, vR 165, vR 181, vI v4, vI z_299, j6]) (st' := [vI (v4 + 1), vR E0, vR 165]) (dg dc332_30 9 rfl) rfl rfl ?_
  refine ex_ialdS (dg dc332_30 10 rfl) hZ hf (fun _ hf => ?_)
  refine ex_pu (ls' := [vR E0, vR 0, vR 165, vR 181, vI v4, vI z_299, j6]) (st' := [vR E0, vI (Z.2 ((v4 + 1)).toNat), vR 165]) (dg dc332_30 11 rfl) rfl rfl ?_
  refine ex_pu (ls' := [vR E0, vR 0, vR 165, vR 181, vI v4, vI z_299, j6]) (st' := [vI v4, vR E0, vI (Z.2 ((v4 + 1)).toNat), vR 165]) (dg dc332_30 12 rfl) rfl rfl ?_
  refine ex_pu (ls' := [vR E0, vR 0, vR 165, vR 181, vI v4, vI z_299, j6]) (st' := [vI 2, vI v4, vR E0, vI (Z.2 ((v4 + 1)).toNat), vR 165]) (dg dc332_30 13 rfl) rfl rfl ?_
  refine ex_pu (ls' := [vR E0, vR 0, vR 165, vR 181, vI v4, vI z_299, j6]) (st' := [vI (v4 + 2), vR E0, vI (Z.2 ((v4 + 1)).toNat), vR 165]) (dg dc332_30 14 rfl) rfl rfl ?_
  refine ex_ialdS (dg dc332_30 15 rfl) hZ hf (fun _ hf => ?_)
  refine ex_pu (ls' := [vR E0, vR 0, vR 165, vR 181, vI v4, vI z_299, j6]) (st' := [vR E0, vI (Z.2 ((v4 + 2)).toNat), vI (Z.2 ((v4 + 1)).toNat), vR 165]) (dg dc332_30 16 rfl) rfl rfl ?_
  refine ex_pu (ls' := [vR E0, vR 0, vR 165, vR 181, vI v4, vI z_299, j6]) (st' := [vI v4, vR E0, vI (Z.2 ((v4 + 2)).toNat), vI (Z.2 ((v4 + 1)).toNat), vR 165]) (dg dc332_30 17 rfl) rfl rfl ?_
  refine ex_pu (ls' := [vR E0, vR 0, vR 165, vR 181, vI v4, vI z_299, j6]) (st' := [vI 3, vI v4, vR E0, vI (Z.2 ((v4 + 2)).toNat), vI (Z.2 ((v4 + 1)).toNat), vR 165]) (dg dc332_30 18 rfl) rfl rfl ?_
  refine ex_pu (ls' := [vR E0, vR 0, vR 165, vR 181, vI v4, vI z_299, j6]) (st' := [vI (v4 + 3), vR E0, vI (Z.2 ((v4 + 2)).toNat), vI (Z.2 ((v4 + 1)).toNat), vR 165]) (dg dc332_30 19 rfl) rfl rfl ?_
  refine ex_ialdS (dg dc332_30 20 rfl) hZ hf (fun _ hf => ?_)
  refine ex_pu (ls' := [vR E0, vR 0, vR 165, vR 181, vI v4, vI z_299, j6]) (st' := [vJ (w32 (Z.2 ((v4 + 3)).toNat)), vI (Z.2 ((v4 + 2)).toNat), vI (Z.2 ((v4 + 1)).toNat), vR 165]) (dg dc332_30 21 rfl) rfl rfl ?_
  refine ex_pu (ls' := [vR E0, vR 0, vR 165, vR 181, vI v4, vI z_299, j6]) (st' := [vI 32, vJ (w32 (Z.2 ((v4 + 3)).toNat)), vI (Z.2 ((v4 + 2)).toNat), vI (Z.2 ((v4 + 1)).toNat), vR 165]) (dg dc332_30 22 rfl) rfl rfl ?_
  refine ex_pu (ls' := [vR E0, vR 0, vR 165, vR 181, vI v4, vI z_299, j6]) (st' := [vJ (lShl (w32 (Z.2 ((v4 + 3)).toNat)) 32), vI (Z.2 ((v4 + 2)).toNat), vI (Z.2 ((v4 + 1)).toNat), vR 165]) (dg dc332_30 23 rfl) rfl rfl ?_
  refine ex_pu (ls' := [vR E0, vR 0, vR 165, vR 181, vI v4, vI z_299, j6]) (st' := [vR E0, vJ (lShl (w32 (Z.2 ((v4 + 3)).toNat)) 32), vI (Z.2 ((v4 + 2)).toNat), vI (Z.2 ((v4 + 1)).toNat), vR 165]) (dg dc332_30 24 rfl) rfl rfl ?_
  refine ex_pu (ls' := [vR E0, vR 0, vR 165, vR 181, vI v4, vI z_299, j6]) (st' := [vI v4, vR E0, vJ (lShl (w32 (Z.2 ((v4 + 3)).toNat)) 32), vI (Z.2 ((v4 + 2)).toNat), vI (Z.2 ((v4 + 1)).toNat), vR 165]) (dg dc332_30 25 rfl) rfl rfl ?_
  refine ex_pu (ls' := [vR E0, vR 0, vR 165, vR 181, vI v4, vI z_299, j6]) (st' := [vI 4, vI v4, vR E0, vJ (lShl (w32 (Z.2 ((v4 + 3)).toNat)) 32), vI (Z.2 ((v4 + 2)).toNat), vI (Z.2 ((v4 + 1)).toNat), vR 165]) (dg dc332_30 26 rfl) rfl rfl ?_
  refine ex_pu (ls' := [vR E0, vR 0, vR 165, vR 181, vI v4, vI z_299, j6]) (st' := [vI (v4 + 4), vR E0, vJ (lShl (w32 (Z.2 ((v4 + 3)).toNat)) 32), vI (Z.2 ((v4 + 2)).toNat), vI (Z.2 ((v4 + 1)).toNat), vR 165]) (dg dc332_30 27 rfl) rfl rfl ?_
  refine ex_ialdS (dg dc332_30 28 rfl) hZ hf (fun _ hf => ?_)
  refine ex_pu (ls' := [vR E0, vR 0, vR 165, vR 181, vI v4, vI z_299, j6]) (st' := [vJ (w32 (Z.2 ((v4 + 4)).toNat)), vJ (lShl (w32 (Z.2 ((v4 + 3)).toNat)) 32), vI (Z.2 ((v4 + 2)).toNat), vI (Z.2 ((v4 + 1)).toNat), vR 165]) (dg dc332_30 29 rfl) rfl rfl ?_
  refine ex_ldc2 (dg dc332_30 30 rfl) rfl ?_
  refine ex_pu (ls' := [vR E0, vR 0, vR 165, vR 181, vI v4, vI z_299, j6]) (st' := [vJ (lAnd (w32 (Z.2 ((v4 + 4)).toNat)) 4294967295), vJ (lShl (w32 (Z.2 ((v4 + 3)).toNat)) 32), vI (Z.2 ((v4 + 2)).toNat), vI (Z.2 ((v4 + 1)).toNat), vR 165]) (dg dc332_30 31 rfl) rfl rfl ?_
  refine ex_pu (ls' := [vR E0, vR 0, vR 165, vR 181, vI v4, vI z_299, j6]) (st' := [vJ (lOr (lShl (w32 (Z.2 ((v4 + 3)).toNat)) 32) (lAnd (w32 (Z.2 ((v4 + 4)).toNat)) 4294967295)), vI (Z.2 ((v4 + 2)).toNat), vI (Z.2 ((v4 + 1)).toNat), vR 165]) (dg dc332_30 32 rfl) rfl rfl ?_
  refine ex_pu (ls' := [vR E0, vR 0, vR 165, vR 181, vI v4, vI z_299, j6]) (st' := [vR E0, vJ (lOr (lShl (w32 (Z.2 ((v4 + 3)).toNat)) 32) (lAnd (w32 (Z.2 ((v4 + 4)).toNat)) 4294967295)), vI (Z.2 ((v4 + 2)).toNat), vI (Z.2 ((v4 + 1)).toNat), vR 165]) (dg dc332_30 33 rfl) rfl rfl ?_
  refine ex_pu (ls' := [vR E0, vR 0, vR 165, vR 181, vI v4, vI z_299, j6]) (st' := [vI v4, vR E0, vJ (lOr (lShl (w32 (Z.2 ((v4 + 3)).toNat)) 32) (lAnd (w32 (Z.2 ((v4 + 4)).toNat)) 4294967295)), vI (Z.2 ((v4 + 2)).toNat), vI (Z.2 ((v4 + 1)).toNat), vR 165]) (dg dc332_30 34 rfl) rfl rfl ?_
  refine ex_pu (ls' := [vR E0, vR 0, vR 165, vR 181, vI v4, vI z_299, j6]) (st' := [vI 5, vI v4, vR E0, vJ (lOr (lShl (w32 (Z.2 ((v4 + 3)).toNat)) 32) (lAnd (w32 (Z.2 ((v4 + 4)).toNat)) 4294967295)), vI (Z.2 ((v4 + 2)).toNat), vI (Z.2 ((v4 + 1)).toNat), vR 165]) (dg dc332_30 35 rfl) rfl rfl ?_
  refine ex_pu (ls' := [vR E0, vR 0, vR 165, vR 181, vI v4, vI z_299, j6]) (st' := [vI (v4 + 5), vR E0, vJ (lOr (lShl (w32 (Z.2 ((v4 + 3)).toNat)) 32) (lAnd (w32 (Z.2 ((v4 + 4)).toNat)) 4294967295)), vI (Z.2 ((v4 + 2)).toNat), vI (Z.2 ((v4 + 1)).toNat), vR 165]) (dg dc332_30 36 rfl) rfl rfl ?_
  refine ex_ialdS (dg dc332_30 37 rfl) hZ hf (fun _ hf => ?_)
  refine ex_if (t := 2095) (dg dc332_30 38 rfl) rfl hf (fun _ hf => ?_) (fun _ hf => ?_)
  · refine ex_pu (ls' := [vR E0, vR 0, vR 165, vR 181, vI v4, vI z_299, j6]) (st' := [vI 0, vJ (lOr (lShl (w32 (Z.2 ((v4 + 3)).toNat)) 32) (lAnd (w32 (Z.2 ((v4 + 4)).toNat)) 4294967295)), vI (Z.2 ((v4 + 2)).toNat), vI (Z.2 ((v4 + 1)).toNat), vR 165]) (dg dc332_31 1 rfl) rfl rfl ?_
    exact drv_main_J2096_ok hd hZ  kb v4 z_299 0 (lOr (lShl (w32 (Z.2 ((v4 + 3)).toNat)) 32) (lAnd (w32 (Z.2 ((v4 + 4)).toNat)) 4294967295)) (Z.2 ((v4 + 2)).toNat) (Z.2 ((v4 + 1)).toNat) M_298 _ hf
  · refine ex_pu (ls' := [vR E0, vR 0, vR 165, vR 181, vI v4, vI z_299, j6]) (st' := [vI 1, vJ (lOr (lShl (w32 (Z.2 ((v4 + 3)).toNat)) 32) (lAnd (w32 (Z.2 ((v4 + 4)).toNat)) 4294967295)), vI (Z.2 ((v4 + 2)).toNat), vI (Z.2 ((v4 + 1)).toNat), vR 165]) (dg dc332_30 39 rfl) rfl rfl ?_
    refine ex_goto (t := 2096) (dg dc332_31 0 rfl) rfl rfl ?_
    exact drv_main_J2096_ok hd hZ  kb v4 z_299 1 (lOr (lShl (w32 (Z.2 ((v4 + 3)).toNat)) 32) (lAnd (w32 (Z.2 ((v4 + 4)).toNat)) 4294967295)) (Z.2 ((v4 + 2)).toNat) (Z.2 ((v4 + 1)).toNat) M_298 _ hf
def drv_main_J1992 (Z : Nat × (Nat → Int))  (Kb : Int → MM → OR) (v4 : Int) (M : MM) : OR :=
  (bif inB (v4 + 1) Z.1 then (bif inB (v4 + 2) Z.1 then (bif inB (v4 + 3) Z.1 then (bif inB (v4 + 4) Z.1 then (bif inB (v4 + 5) Z.1 then (bif cmpB .eq (Z.2 ((v4 + 5)).toNat) 0 then (drv_main_J2041 Z  Kb v4 0 (lOr (lShl (w32 (Z.2 ((v4 + 3)).toNat)) 32) (lAnd (w32 (Z.2 ((v4 + 4)).toNat)) 4294967295)) (Z.2 ((v4 + 2)).toNat) (Z.2 ((v4 + 1)).toNat) M) else (drv_main_J2041 Z  Kb v4 1 (lOr (lShl (w32 (Z.2 ((v4 + 3)).toNat)) 32) (lAnd (w32 (Z.2 ((v4 + 4)).toNat)) 4294967295)) (Z.2 ((v4 + 2)).toNat) (Z.2 ((v4 + 1)).toNat) M)) else none) else none) else none) else none) else none)
set_option maxRecDepth 4000 in
theorem drv_main_J1992_ok {Z : Nat × (Nat → Int)} {d : Nat} (hd : 52 ≤ d) (hZ : Z.1 < 2147483648)  {Kb : Int → MM → OR} {res : AR × MM} (kb : ∀ (x4 : Int) (M : MM) (j5 j6 : AV), Kb x4 M = some res → EX Z d 332 23 [vR E0, vR 0, vR 165, vR 181, vI x4, j5, j6] [] M res) : ∀ (v4 : Int) (M : MM) (j5 j6 : AV), drv_main_J1992 Z  Kb v4 M = some res → EX Z d 332 1992 [vR E0, vR 0, vR 165, vR 181, vI v4, j5, j6] [] M res := by
  obtain ⟨e9, rfl⟩ : ∃ e9, d = e9 + 1 := ⟨d - 1, by omega⟩
  intro v4 M j5 j6 hf
  unfold drv_main_J1992 at hf
  refine ex_pu (ls' := [vR E0, vR 0, vR 165, vR 181, vI v4, j5, j6]) (st' := [vR 0]) (dg dc332_29 5 rfl) rfl rfl ?_
  refine ex_pu (ls' := [vR E0, vR 0, vR 165, vR 181, vI v4, j5, j6]) (st' := [vR E0, vR 0]) (dg dc332_29 6 rfl) rfl rfl ?_
  refine ex_pu (ls' := [vR E0, vR 0, vR 165, vR 181, vI v4, j5, j6]) (st' := [vI v4, vR E0, vR 0]) (dg dc332_29 7 rfl) rfl rfl ?_
  refine ex_pu (ls' := [vR E0, vR 0, vR 165, vR 181, vI v4, j5, j6]) (st' := [vI 1, vI v4, vR E0, vR 0]) (dg dc332_29 8 rfl) rfl rfl ?_
  refine ex_pu (ls' := [vR E0, vR 0, vR 165, vR 181, vI v4, j5, j6]) (st' := [vI (v4 + 1), vR E0, vR 0]) (dg dc332_29 9 rfl) rfl rfl ?_
  refine ex_ialdS (dg dc332_29 10 rfl) hZ hf (fun _ hf => ?_)
  refine ex_pu (ls' := [vR E0, vR 0, vR 165, vR 181, vI v4, j5, j6]) (st' := [vR E0, vI (Z.2 ((v4 + 1)).toNat), vR 0]) (dg dc332_29 11 rfl) rfl rfl ?_
  refine ex_pu (ls' := [vR E0, vR 0, vR 165, vR 181, vI v4, j5, j6]) (st' := [vI v4, vR E0, vI (Z.2 ((v4 + 1)).toNat), vR 0]) (dg dc332_29 12 rfl) rfl rfl ?_
  refine ex_pu (ls' := [vR E0, vR 0, vR 165, vR 181, vI v4, j5, j6]) (st' := [vI 2, vI v4, vR E0, vI (Z.2 ((v4 + 1)).toNat), vR 0]) (dg dc332_29 13 rfl) rfl rfl ?_
  refine ex_pu (ls' := [vR E0, vR 0, vR 165, vR 181, vI v4, j5, j6]) (st' := [vI (v4 + 2), vR E0, vI (Z.2 ((v4 + 1)).toNat), vR 0]) (dg dc332_29 14 rfl) rfl rfl ?_
  refine ex_ialdS (dg dc332_29 15 rfl) hZ hf (fun _ hf => ?_)
  refine ex_pu (ls' := [vR E0, vR 0, vR 165, vR 181, vI v4, j5, j6]) (st' := [vR E0, vI (Z.2 ((v4 + 2)).toNat), vI (Z.2 ((v4 + 1)).toNat), vR 0]) (dg dc332_29 16 rfl) rfl rfl ?_
  refine ex_pu (ls' := [vR E0, vR 0, vR 165, vR 181, vI v4, j5, j6]) (st' := [vI v4, vR E0, vI (Z.2 ((v4 + 2)).toNat), vI (Z.2 ((v4 + 1)).toNat), vR 0]) (dg dc332_29 17 rfl) rfl rfl ?_
  refine ex_pu (ls' := [vR E0, vR 0, vR 165, vR 181, vI v4, j5, j6]) (st' := [vI 3, vI v4, vR E0, vI (Z.2 ((v4 + 2)).toNat), vI (Z.2 ((v4 + 1)).toNat), vR 0]) (dg dc332_29 18 rfl) rfl rfl ?_
  refine ex_pu (ls' := [vR E0, vR 0, vR 165, vR 181, vI v4, j5, j6]) (st' := [vI (v4 + 3), vR E0, vI (Z.2 ((v4 + 2)).toNat), vI (Z.2 ((v4 + 1)).toNat), vR 0]) (dg dc332_29 19 rfl) rfl rfl ?_
  refine ex_ialdS (dg dc332_29 20 rfl) hZ hf (fun _ hf => ?_)
  refine ex_pu (ls' := [vR E0, vR 0, vR 165, vR 181, vI v4, j5, j6]) (st' := [vJ (w32 (Z.2 ((v4 + 3)).toNat)), vI (Z.2 ((v4 + 2)).toNat), vI (Z.2 ((v4 + 1)).toNat), vR 0]) (dg dc332_29 21 rfl) rfl rfl ?_
  refine ex_pu (ls' := [vR E0, vR 0, vR 165, vR 181, vI v4, j5, j6]) (st' := [vI 32, vJ (w32 (Z.2 ((v4 + 3)).toNat)), vI (Z.2 ((v4 + 2)).toNat), vI (Z.2 ((v4 + 1)).toNat), vR 0]) (dg dc332_29 22 rfl) rfl rfl ?_
  refine ex_pu (ls' := [vR E0, vR 0, vR 165, vR 181, vI v4, j5, j6]) (st' := [vJ (lShl (w32 (Z.2 ((v4 + 3)).toNat)) 32), vI (Z.2 ((v4 + 2)).toNat), vI (Z.2 ((v4 + 1)).toNat), vR 0]) (dg dc332_29 23 rfl) rfl rfl ?_
  refine ex_pu (ls' := [vR E0, vR 0, vR 165, vR 181, vI v4, j5, j6]) (st' := [vR E0, vJ (lShl (w32 (Z.2 ((v4 + 3)).toNat)) 32), vI (Z.2 ((v4 + 2)).toNat), vI (Z.2 ((v4 + 1)).toNat), vR 0]) (dg dc332_29 24 rfl) rfl rfl ?_
  refine ex_pu (ls' := [vR E0, vR 0, vR 165, vR 181, vI v4, j5, j6]) (st' := [vI v4, vR E0, vJ (lShl (w32 (Z.2 ((v4 + 3)).toNat)) 32), vI (Z.2 ((v4 + 2)).toNat), vI (Z.2 ((v4 + 1)).toNat), vR 0]) (dg dc332_29 25 rfl) rfl rfl ?_
  refine ex_pu (ls' := [vR E0, vR 0, vR 165, vR 181, vI v4, j5, j6]) (st' := [vI 4, vI v4, vR E0, vJ (lShl (w32 (Z.2 ((v4 + 3)).toNat)) 32), vI (Z.2 ((v4 + 2)).toNat), vI (Z.2 ((v4 + 1)).toNat), vR 0]) (dg dc332_29 26 rfl) rfl rfl ?_
  refine ex_pu (ls' := [vR E0, vR 0, vR 165, vR 181, vI v4, j5, j6]) (st' := [vI (v4 + 4), vR E0, vJ (lShl (w32 (Z.2 ((v4 + 3)).toNat)) 32), vI (Z.2 ((v4 + 2)).toNat), vI (Z.2 ((v4 + 1)).toNat), vR 0]) (dg dc332_29 27 rfl) rfl rfl ?_
  refine ex_ialdS (dg dc332_29 28 rfl) hZ hf (fun _ hf => ?_)
  refine ex_pu (ls' := [vR E0, vR 0, vR 165, vR 181, vI v4, j5, j6]) (st' := [vJ (w32 (Z.2 ((v4 + 4)).toNat)), vJ (lShl (w32 (Z.2 ((v4 + 3)).toNat)) 32), vI (Z.2 ((v4 + 2)).toNat), vI (Z.2 ((v4 + 1)).toNat), vR 0]) (dg dc332_29 29 rfl) rfl rfl ?_
  refine ex_ldc2 (dg dc332_29 30 rfl) rfl ?_
  refine ex_pu (ls' := [vR E0, vR 0, vR 165, vR 181, vI v4, j5, j6]) (st' := [vJ (lAnd (w32 (Z.2 ((v4 + 4)).toNat)) 4294967295), vJ (lShl (w32 (Z.2 ((v4 + 3)).toNat)) 32), vI (Z.2 ((v4 + 2)).toNat), vI (Z.2 ((v4 + 1)).toNat), vR 0]) (dg dc332_29 31 rfl) rfl rfl ?_
  refine ex_pu (ls' := [vR E0, vR 0, vR 165, vR 181, vI v4, j5, j6]) (st' := [vJ (lOr (lShl (w32 (Z.2 ((v4 + 3)).toNat)) 32) (lAnd (w32 (Z.2 ((v4 + 4)).toNat)) 4294967295)), vI (Z.2 ((v4 + 2)).toNat), vI (Z.2 ((v4 + 1)).toNat), vR 0]) (dg dc332_29 32 rfl) rfl rfl ?_
  refine ex_pu (ls' := [vR E0, vR 0, vR 165, vR 181, vI v4, j5, j6]) (st' := [vR E0, vJ (lOr (lShl (w32 (Z.2 ((v4 + 3)).toNat)) 32) (lAnd (w32 (Z.2 ((v4 + 4)).toNat)) 4294967295)), vI (Z.2 ((v4 + 2)).toNat), vI (Z.2 ((v4 + 1)).toNat), vR 0]) (dg dc332_29 33 rfl) rfl rfl ?_
  refine ex_pu (ls' := [vR E0, vR 0, vR 165, vR 181, vI v4, j5, j6]) (st' := [vI v4, vR E0, vJ (lOr (lShl (w32 (Z.2 ((v4 + 3)).toNat)) 32) (lAnd (w32 (Z.2 ((v4 + 4)).toNat)) 4294967295)), vI (Z.2 ((v4 + 2)).toNat), vI (Z.2 ((v4 + 1)).toNat), vR 0]) (dg dc332_29 34 rfl) rfl rfl ?_
  refine ex_pu (ls' := [vR E0, vR 0, vR 165, vR 181, vI v4, j5, j6]) (st' := [vI 5, vI v4, vR E0, vJ (lOr (lShl (w32 (Z.2 ((v4 + 3)).toNat)) 32) (lAnd (w32 (Z.2 ((v4 + 4)).toNat)) 4294967295)), vI (Z.2 ((v4 + 2)).toNat), vI (Z.2 ((v4 + 1)).toNat), vR 0]) (dg dc332_29 35 rfl) rfl rfl ?_
  refine ex_pu (ls' := [vR E0, vR 0, vR 165, vR 181, vI v4, j5, j6]) (st' := [vI (v4 + 5), vR E0, vJ (lOr (lShl (w32 (Z.2 ((v4 + 3)).toNat)) 32) (lAnd (w32 (Z.2 ((v4 + 4)).toNat)) 4294967295)), vI (Z.2 ((v4 + 2)).toNat), vI (Z.2 ((v4 + 1)).toNat), vR 0]) (dg dc332_29 36 rfl) rfl rfl ?_
  refine ex_ialdS (dg dc332_29 37 rfl) hZ hf (fun _ hf => ?_)
  refine ex_if (t := 2040) (dg dc332_29 38 rfl) rfl hf (fun _ hf => ?_) (fun _ hf => ?_)
  · refine ex_pu (ls' := [vR E0, vR 0, vR 165, vR 181, vI v4, j5, j6]) (st' := [vI 0, vJ (lOr (lShl (w32 (Z.2 ((v4 + 3)).toNat)) 32) (lAnd (w32 (Z.2 ((v4 + 4)).toNat)) 4294967295)), vI (Z.2 ((v4 + 2)).toNat), vI (Z.2 ((v4 + 1)).toNat), vR 0]) (dg dc332_30 1 rfl) rfl rfl ?_
    exact drv_main_J2041_ok hd hZ  kb v4 0 (lOr (lShl (w32 (Z.2 ((v4 + 3)).toNat)) 32) (lAnd (w32 (Z.2 ((v4 + 4)).toNat)) 4294967295)) (Z.2 ((v4 + 2)).toNat) (Z.2 ((v4 + 1)).toNat) M _ _ hf
  · refine ex_pu (ls' := [vR E0, vR 0, vR 165, vR 181, vI v4, j5, j6]) (st' := [vI 1, vJ (lOr (lShl (w32 (Z.2 ((v4 + 3)).toNat)) 32) (lAnd (w32 (Z.2 ((v4 + 4)).toNat)) 4294967295)), vI (Z.2 ((v4 + 2)).toNat), vI (Z.2 ((v4 + 1)).toNat), vR 0]) (dg dc332_29 39 rfl) rfl rfl ?_
    refine ex_goto (t := 2041) (dg dc332_30 0 rfl) rfl rfl ?_
    exact drv_main_J2041_ok hd hZ  kb v4 1 (lOr (lShl (w32 (Z.2 ((v4 + 3)).toNat)) 32) (lAnd (w32 (Z.2 ((v4 + 4)).toNat)) 4294967295)) (Z.2 ((v4 + 2)).toNat) (Z.2 ((v4 + 1)).toNat) M _ _ hf
def drv_main_J2132 (Z : Nat × (Nat → Int))  (Kb : Int → MM → OR) (v4 : Int) (M : MM) : OR :=
  (bif inB (v4 + 1) Z.1 then (bI (drv_sign (Z.2 ((v4 + 1)).toNat) M) fun z_309 M_308 => (bif inB (v4 + 1) Z.1 then (bI (mo_sign (Z.2 ((v4 + 1)).toNat) M_308) fun z_312 M_311 => (bI (mo_thrown  M_311) fun z_315 M_314 => (bif cmpB .eq z_315 z_309 then (bif cmpB .ne z_309 0 then (Kb (v4 + 6) M_314) else (bif inB 0 1 then (bif cmpB .eq (lCmp (M_314 181 0) (w32 z_312)) 0 then (Kb (v4 + 6) M_314) else some (rI 0, M_314)) else none)) else some (rI 0, M_314)))) else none)) else none)
set_option maxRecDepth 4000 in
theorem drv_main_J2132_ok {Z : Nat × (Nat → Int)} {d : Nat} (hd : 52 ≤ d) (hZ : Z.1 < 2147483648)  {Kb : Int → MM → OR} {res : AR × MM} (kb : ∀ (x4 : Int) (M : MM) (j5 j6 : AV), Kb x4 M = some res → EX Z d 332 23 [vR E0, vR 0, vR 165, vR 181, vI x4, j5, j6] [] M res) : ∀ (v4 : Int) (M : MM) (j5 j6 : AV), drv_main_J2132 Z  Kb v4 M = some res → EX Z d 332 2132 [vR E0, vR 0, vR 165, vR 181, vI v4, j5, j6] [] M res := by
  obtain ⟨e9, rfl⟩ : ∃ e9, d = e9 + 1 := ⟨d - 1, by omega⟩
  intro v4 M j5 j6 hf
  unfold drv_main_J2132 at hf
  refine ex_pu (ls' := [vR E0, vR 0, vR 165, vR 181, vI v4, j5, j6]) (st' := [vR 0]) (dg dc332_31 22 rfl) rfl rfl ?_
  refine ex_pu (ls' := [vR E0, vR 0, vR 165, vR 181, vI v4, j5, j6]) (st' := [vR E0, vR 0]) (dg dc332_31 23 rfl) rfl rfl ?_
  refine ex_pu (ls' := [vR E0, vR 0, vR 165, vR 181, vI v4, j5, j6]) (st' := [vI v4, vR E0, vR 0]) (dg dc332_31 24 rfl) rfl rfl ?_
  refine ex_pu (ls' := [vR E0, vR 0, vR 165, vR 181, vI v4, j5, j6]) (st' := [vI 1, vI v4, vR E0, vR 0]) (dg dc332_31 25 rfl) rfl rfl ?_
  refine ex_pu (ls' := [vR E0, vR 0, vR 165, vR 181, vI v4, j5, j6]) (st' := [vI (v4 + 1), vR E0, vR 0]) (dg dc332_31 26 rfl) rfl rfl ?_
  refine ex_ialdS (dg dc332_31 27 rfl) hZ hf (fun _ hf => ?_)
  refine ex_pu (ls' := [vR E0, vR 0, vR 165, vR 181, vI v4, j5, j6]) (st' := [vR 181, vI (Z.2 ((v4 + 1)).toNat), vR 0]) (dg dc332_31 28 rfl) rfl rfl ?_
  refine ex_cI (vs := [vR 0, vI (Z.2 ((v4 + 1)).toNat), vR 181]) (st' := []) (F := (drv_sign (Z.2 ((v4 + 1)).toNat) M)) (Or.inl ⟨rfl, (dg dc332_31 29 rfl)⟩) rfl rfl (Or.inl rfl) rfl (fun _ r9 => drv_sign_ok (Z := Z) (d := e9) (by omega)  r9) hf (fun z_309 M_308 he_307 hf => ?_)
  refine ex_pu (ls' := [vR E0, vR 0, vR 165, vR 181, vI v4, vI z_309, j6]) (st' := []) (dg dc332_31 30 rfl) rfl rfl ?_
  refine ex_pu (ls' := [vR E0, vR 0, vR 165, vR 181, vI v4, vI z_309, j6]) (st' := [vR 165]) (dg dc332_31 31 rfl) rfl rfl ?_
  refine ex_pu (ls' := [vR E0, vR 0, vR 165, vR 181, vI v4, vI z_309, j6]) (st' := [vR E0, vR 165]) (dg dc332_31 32 rfl) rfl rfl ?_
  refine ex_pu (ls' := [vR E0, vR 0, vR 165, vR 181, vI v4, vI z_309, j6]) (st' := [vI v4, vR E0, vR 165]) (dg dc332_31 33 rfl) rfl rfl ?_
  refine ex_pu (ls' := [vR E0, vR 0, vR 165, vR 181, vI v4, vI z_309, j6]) (st' := [vI 1, vI v4, vR E0, vR 165]) (dg dc332_31 34 rfl) rfl rfl ?_
  refine ex_pu (ls' := [vR E0, vR 0, vR 165, vR 181, vI v4, vI z_309, j6]) (st' := [vI (v4 + 1), vR E0, vR 165]) (dg dc332_31 35 rfl) rfl rfl ?_
  refine ex_ialdS (dg dc332_31 36 rfl) hZ hf (fun _ hf => ?_)
  refine ex_cI (vs := [vR 165, vI (Z.2 ((v4 + 1)).toNat)]) (st' := []) (F := (mo_sign (Z.2 ((v4 + 1)).toNat) M_308)) (Or.inr (Or.inl ⟨rfl, (dg dc332_31 37 rfl)⟩)) rfl rfl (rk1 (LOC.st (Nat.le_of_ble_eq_true rfl) rfl) rfl) rfl (fun _ r9 => mo_sign_ok (Z := Z) (d := e9) (by omega)  r9) hf (fun z_312 M_311 he_310 hf => ?_)
  refine ex_pu (ls' := [vR E0, vR 0, vR 165, vR 181, vI v4, vI z_309, vI z_312]) (st' := []) (dg dc332_31 38 rfl) rfl rfl ?_
  refine ex_pu (ls' := [vR E0, vR 0, vR 165, vR 181, vI v4, vI z_309, vI z_312]) (st' := [vR 165]) (dg dc332_31 39 rfl) rfl rfl ?_
  refine ex_cI (vs := [vR 165]) (st' := []) (F := (mo_thrown  M_311)) (Or.inr (Or.inl ⟨rfl, (dg dc332_32 0 rfl)⟩)) rfl rfl (rk1 (LOC.st (Nat.le_of_ble_eq_true rfl) rfl) rfl) rfl (fun _ r9 => mo_thrown_ok (Z := Z) (d := e9) (by omega)  r9) hf (fun z_315 M_314 he_313 hf => ?_)
  refine ex_pu (ls' := [vR E0, vR 0, vR 165, vR 181, vI v4, vI z_309, vI z_312]) (st' := [vI z_309, vI z_315]) (dg dc332_32 1 rfl) rfl rfl ?_
  refine ex_icmp (t := 2168) (dg dc332_32 2 rfl) rfl hf (fun _ hf => ?_) (fun _ hf => ?_)
  · refine ex_pu (ls' := [vR E0, vR 0, vR 165, vR 181, vI v4, vI z_309, vI z_312]) (st' := [vI z_309]) (dg dc332_32 5 rfl) rfl rfl ?_
    refine ex_if (t := 2185) (dg dc332_32 6 rfl) rfl hf (fun _ hf => ?_) (fun _ hf => ?_)
    · refine ex_goto (t := 2318) (dg dc332_32 16 rfl) rfl rfl ?_
      refine ex_pu (ls' := [vR E0, vR 0, vR 165, vR 181, vI (v4 + 6), vI z_309, vI z_312]) (st' := []) (dg dc332_34 18 rfl) rfl rfl ?_
      refine ex_goto (t := 23) (dg dc332_34 19 rfl) rfl rfl ?_
      exact kb (v4 + 6) M_314 _ _ hf
    · refine ex_pu (ls' := [vR E0, vR 0, vR 165, vR 181, vI v4, vI z_309, vI z_312]) (st' := [vR 181]) (dg dc332_32 7 rfl) rfl rfl ?_
      refine ex_pu (ls' := [vR E0, vR 0, vR 165, vR 181, vI v4, vI z_309, vI z_312]) (st' := [vI 0, vR 181]) (dg dc332_32 8 rfl) rfl rfl ?_
      refine ex_lald (dg dc332_32 9 rfl) (LOC.st (Nat.le_of_ble_eq_true rfl) rfl) rfl hf (fun _ hf => ?_)
      refine ex_pu (ls' := [vR E0, vR 0, vR 165, vR 181, vI v4, vI z_309, vI z_312]) (st' := [vI z_312, vJ (M_314 181 0)]) (dg dc332_32 10 rfl) rfl rfl ?_
      refine ex_pu (ls' := [vR E0, vR 0, vR 165, vR 181, vI v4, vI z_309, vI z_312]) (st' := [vJ (w32 z_312), vJ (M_314 181 0)]) (dg dc332_32 11 rfl) rfl rfl ?_
      refine ex_pu (ls' := [vR E0, vR 0, vR 165, vR 181, vI v4, vI z_309, vI z_312]) (st' := [vI (lCmp (M_314 181 0) (w32 z_312))]) (dg dc332_32 12 rfl) rfl rfl ?_
      refine ex_if (t := 2185) (dg dc332_32 13 rfl) rfl hf (fun _ hf => ?_) (fun _ hf => ?_)
      · refine ex_goto (t := 2318) (dg dc332_32 16 rfl) rfl rfl ?_
        refine ex_pu (ls' := [vR E0, vR 0, vR 165, vR 181, vI (v4 + 6), vI z_309, vI z_312]) (st' := []) (dg dc332_34 18 rfl) rfl rfl ?_
        refine ex_goto (t := 23) (dg dc332_34 19 rfl) rfl rfl ?_
        exact kb (v4 + 6) M_314 _ _ hf
      · refine ex_pu (ls' := [vR E0, vR 0, vR 165, vR 181, vI v4, vI z_309, vI z_312]) (st' := [vI 0]) (dg dc332_32 14 rfl) rfl rfl ?_
        exact ex_ire (dg dc332_32 15 rfl) rfl hf
  · refine ex_pu (ls' := [vR E0, vR 0, vR 165, vR 181, vI v4, vI z_309, vI z_312]) (st' := [vI 0]) (dg dc332_32 3 rfl) rfl rfl ?_
    exact ex_ire (dg dc332_32 4 rfl) rfl hf
def drv_main_J2188 (Z : Nat × (Nat → Int))  (Kb : Int → MM → OR) (v4 : Int) (M : MM) : OR :=
  (bif inB (v4 + 1) Z.1 then (bif inB (v4 + 2) Z.1 then (bI (drv_log (Z.2 ((v4 + 1)).toNat) (Z.2 ((v4 + 2)).toNat) M) fun z_319 M_318 => (bif inB (v4 + 1) Z.1 then (bif inB (v4 + 2) Z.1 then (bI (mo_log (Z.2 ((v4 + 1)).toNat) (Z.2 ((v4 + 2)).toNat) M_318) fun z_322 M_321 => (bI (mo_thrown  M_321) fun z_325 M_324 => (bif cmpB .eq z_325 z_319 then (bif cmpB .ne z_319 0 then (Kb (v4 + 6) M_324) else (bif inB 0 1 then (bif cmpB .eq (lCmp (M_324 181 0) (w32 z_322)) 0 then (Kb (v4 + 6) M_324) else some (rI 0, M_324)) else none)) else some (rI 0, M_324)))) else none) else none)) else none) else none)
set_option maxRecDepth 4000 in
theorem drv_main_J2188_ok {Z : Nat × (Nat → Int)} {d : Nat} (hd : 52 ≤ d) (hZ : Z.1 < 2147483648)  {Kb : Int → MM → OR} {res : AR × MM} (kb : ∀ (x4 : Int) (M : MM) (j5 j6 : AV), Kb x4 M = some res → EX Z d 332 23 [vR E0, vR 0, vR 165, vR 181, vI x4, j5, j6] [] M res) : ∀ (v4 : Int) (M : MM) (j5 j6 : AV), drv_main_J2188 Z  Kb v4 M = some res → EX Z d 332 2188 [vR E0, vR 0, vR 165, vR 181, vI v4, j5, j6] [] M res := by
  obtain ⟨e9, rfl⟩ : ∃ e9, d = e9 + 1 := ⟨d - 1, by omega⟩
  intro v4 M j5 j6 hf
  unfold drv_main_J2188 at hf
  refine ex_pu (ls' := [vR E0, vR 0, vR 165, vR 181, vI v4, j5, j6]) (st' := [vR 0]) (dg dc332_32 17 rfl) rfl rfl ?_
  refine ex_pu (ls' := [vR E0, vR 0, vR 165, vR 181, vI v4, j5, j6]) (st' := [vR E0, vR 0]) (dg dc332_32 18 rfl) rfl rfl ?_
  refine ex_pu (ls' := [vR E0, vR 0, vR 165, vR 181, vI v4, j5, j6]) (st' := [vI v4, vR E0, vR 0]) (dg dc332_32 19 rfl) rfl rfl ?_
  refine ex_pu (ls' := [vR E0, vR 0, vR 165, vR 181, vI v4, j5, j6]) (st' := [vI 1, vI v4, vR E0, vR 0]) (dg dc332_32 20 rfl) rfl rfl ?_
  refine ex_pu (ls' := [vR E0, vR 0, vR 165, vR 181, vI v4, j5, j6]) (st' := [vI (v4 + 1), vR E0, vR 0]) (dg dc332_32 21 rfl) rfl rfl ?_
  refine ex_ialdS (dg dc332_32 22 rfl) hZ hf (fun _ hf => ?_)
  refine ex_pu (ls' := [vR E0, vR 0, vR 165, vR 181, vI v4, j5, j6]) (st' := [vR E0, vI (Z.2 ((v4 + 1)).toNat), vR 0]) (dg dc332_32 23 rfl) rfl rfl ?_
  refine ex_pu (ls' := [vR E0, vR 0, vR 165, vR 181, vI v4, j5, j6]) (st' := [vI v4, vR E0, vI (Z.2 ((v4 + 1)).toNat), vR 0]) (dg dc332_32 24 rfl) rfl rfl ?_
  refine ex_pu (ls' := [vR E0, vR 0, vR 165, vR 181, vI v4, j5, j6]) (st' := [vI 2, vI v4, vR E0, vI (Z.2 ((v4 + 1)).toNat), vR 0]) (dg dc332_32 25 rfl) rfl rfl ?_
  refine ex_pu (ls' := [vR E0, vR 0, vR 165, vR 181, vI v4, j5, j6]) (st' := [vI (v4 + 2), vR E0, vI (Z.2 ((v4 + 1)).toNat), vR 0]) (dg dc332_32 26 rfl) rfl rfl ?_
  refine ex_ialdS (dg dc332_32 27 rfl) hZ hf (fun _ hf => ?_)
  refine ex_pu (ls' := [vR E0, vR 0, vR 165, vR 181, vI v4, j5, j6]) (st' := [vR 181, vI (Z.2 ((v4 + 2)).toNat), vI (Z.2 ((v4 + 1)).toNat), vR 0]) (dg dc332_32 28 rfl) rfl rfl ?_
  refine ex_cI (vs := [vR 0, vI (Z.2 ((v4 + 1)).toNat), vI (Z.2 ((v4 + 2)).toNat), vR 181]) (st' := []) (F := (drv_log (Z.2 ((v4 + 1)).toNat) (Z.2 ((v4 + 2)).toNat) M)) (Or.inl ⟨rfl, (dg dc332_32 29 rfl)⟩) rfl rfl (Or.inl rfl) rfl (fun _ r9 => drv_log_ok (Z := Z) (d := e9) (by omega)  r9) hf (fun z_319 M_318 he_317 hf => ?_)
  refine ex_pu (ls' := [vR E0, vR 0, vR 165, vR 181, vI v4, vI z_319, j6]) (st' := []) (dg dc332_32 30 rfl) rfl rfl ?_
  refine ex_pu (ls' := [vR E0, vR 0, vR 165, vR 181, vI v4, vI z_319, j6]) (st' := [vR 165]) (dg dc332_32 31 rfl) rfl rfl ?_
  refine ex_pu (ls' := [vR E0, vR 0, vR 165, vR 181, vI v4, vI z_319, j6]) (st' := [vR E0, vR 165]) (dg dc332_32 32 rfl) rfl rfl ?_
  refine ex_pu (ls' := [vR E0, vR 0, vR 165, vR 181, vI v4, vI z_319, j6]) (st' := [vI v4, vR E0, vR 165]) (dg dc332_32 33 rfl) rfl rfl ?_
  refine ex_pu (ls' := [vR E0, vR 0, vR 165, vR 181, vI v4, vI z_319, j6]) (st' := [vI 1, vI v4, vR E0, vR 165]) (dg dc332_32 34 rfl) rfl rfl ?_
  refine ex_pu (ls' := [vR E0, vR 0, vR 165, vR 181, vI v4, vI z_319, j6]) (st' := [vI (v4 + 1), vR E0, vR 165]) (dg dc332_32 35 rfl) rfl rfl ?_
  refine ex_ialdS (dg dc332_32 36 rfl) hZ hf (fun _ hf => ?_)
  refine ex_pu (ls' := [vR E0, vR 0, vR 165, vR 181, vI v4, vI z_319, j6]) (st' := [vR E0, vI (Z.2 ((v4 + 1)).toNat), vR 165]) (dg dc332_32 37 rfl) rfl rfl ?_
  refine ex_pu (ls' := [vR E0, vR 0, vR 165, vR 181, vI v4, vI z_319, j6]) (st' := [vI v4, vR E0, vI (Z.2 ((v4 + 1)).toNat), vR 165]) (dg dc332_32 38 rfl) rfl rfl ?_
  refine ex_pu (ls' := [vR E0, vR 0, vR 165, vR 181, vI v4, vI z_319, j6]) (st' := [vI 2, vI v4, vR E0, vI (Z.2 ((v4 + 1)).toNat), vR 165]) (dg dc332_32 39 rfl) rfl rfl ?_
  refine ex_pu (ls' := [vR E0, vR 0, vR 165, vR 181, vI v4, vI z_319, j6]) (st' := [vI (v4 + 2), vR E0, vI (Z.2 ((v4 + 1)).toNat), vR 165]) (dg dc332_33 0 rfl) rfl rfl ?_
  refine ex_ialdS (dg dc332_33 1 rfl) hZ hf (fun _ hf => ?_)
  refine ex_cI (vs := [vR 165, vI (Z.2 ((v4 + 1)).toNat), vI (Z.2 ((v4 + 2)).toNat)]) (st' := []) (F := (mo_log (Z.2 ((v4 + 1)).toNat) (Z.2 ((v4 + 2)).toNat) M_318)) (Or.inr (Or.inl ⟨rfl, (dg dc332_33 2 rfl)⟩)) rfl rfl (rk1 (LOC.st (Nat.le_of_ble_eq_true rfl) rfl) rfl) rfl (fun _ r9 => mo_log_ok (Z := Z) (d := e9) (by omega)  r9) hf (fun z_322 M_321 he_320 hf => ?_)
  refine ex_pu (ls' := [vR E0, vR 0, vR 165, vR 181, vI v4, vI z_319, vI z_322]) (st' := []) (dg dc332_33 3 rfl) rfl rfl ?_
  refine ex_pu (ls' := [vR E0, vR 0, vR 165, vR 181, vI v4, vI z_319, vI z_322]) (st' := [vR 165]) (dg dc332_33 4 rfl) rfl rfl ?_
  refine ex_cI (vs := [vR 165]) (st' := []) (F := (mo_thrown  M_321)) (Or.inr (Or.inl ⟨rfl, (dg dc332_33 5 rfl)⟩)) rfl rfl (rk1 (LOC.st (Nat.le_of_ble_eq_true rfl) rfl) rfl) rfl (fun _ r9 => mo_thrown_ok (Z := Z) (d := e9) (by omega)  r9) hf (fun z_325 M_324 he_323 hf => ?_)
  refine ex_pu (ls' := [vR E0, vR 0, vR 165, vR 181, vI v4, vI z_319, vI z_322]) (st' := [vI z_319, vI z_325]) (dg dc332_33 6 rfl) rfl rfl ?_
  refine ex_icmp (t := 2236) (dg dc332_33 7 rfl) rfl hf (fun _ hf => ?_) (fun _ hf => ?_)
  · refine ex_pu (ls' := [vR E0, vR 0, vR 165, vR 181, vI v4, vI z_319, vI z_322]) (st' := [vI z_319]) (dg dc332_33 10 rfl) rfl rfl ?_
    refine ex_if (t := 2253) (dg dc332_33 11 rfl) rfl hf (fun _ hf => ?_) (fun _ hf => ?_)
    · refine ex_goto (t := 2318) (dg dc332_33 21 rfl) rfl rfl ?_
      refine ex_pu (ls' := [vR E0, vR 0, vR 165, vR 181, vI (v4 + 6), vI z_319, vI z_322]) (st' := []) (dg dc332_34 18 rfl) rfl rfl ?_
      refine ex_goto (t := 23) (dg dc332_34 19 rfl) rfl rfl ?_
      exact kb (v4 + 6) M_324 _ _ hf
    · refine ex_pu (ls' := [vR E0, vR 0, vR 165, vR 181, vI v4, vI z_319, vI z_322]) (st' := [vR 181]) (dg dc332_33 12 rfl) rfl rfl ?_
      refine ex_pu (ls' := [vR E0, vR 0, vR 165, vR 181, vI v4, vI z_319, vI z_322]) (st' := [vI 0, vR 181]) (dg dc332_33 13 rfl) rfl rfl ?_
      refine ex_lald (dg dc332_33 14 rfl) (LOC.st (Nat.le_of_ble_eq_true rfl) rfl) rfl hf (fun _ hf => ?_)
      refine ex_pu (ls' := [vR E0, vR 0, vR 165, vR 181, vI v4, vI z_319, vI z_322]) (st' := [vI z_322, vJ (M_324 181 0)]) (dg dc332_33 15 rfl) rfl rfl ?_
      refine ex_pu (ls' := [vR E0, vR 0, vR 165, vR 181, vI v4, vI z_319, vI z_322]) (st' := [vJ (w32 z_322), vJ (M_324 181 0)]) (dg dc332_33 16 rfl) rfl rfl ?_
      refine ex_pu (ls' := [vR E0, vR 0, vR 165, vR 181, vI v4, vI z_319, vI z_322]) (st' := [vI (lCmp (M_324 181 0) (w32 z_322))]) (dg dc332_33 17 rfl) rfl rfl ?_
      refine ex_if (t := 2253) (dg dc332_33 18 rfl) rfl hf (fun _ hf => ?_) (fun _ hf => ?_)
      · refine ex_goto (t := 2318) (dg dc332_33 21 rfl) rfl rfl ?_
        refine ex_pu (ls' := [vR E0, vR 0, vR 165, vR 181, vI (v4 + 6), vI z_319, vI z_322]) (st' := []) (dg dc332_34 18 rfl) rfl rfl ?_
        refine ex_goto (t := 23) (dg dc332_34 19 rfl) rfl rfl ?_
        exact kb (v4 + 6) M_324 _ _ hf
      · refine ex_pu (ls' := [vR E0, vR 0, vR 165, vR 181, vI v4, vI z_319, vI z_322]) (st' := [vI 0]) (dg dc332_33 19 rfl) rfl rfl ?_
        exact ex_ire (dg dc332_33 20 rfl) rfl hf
  · refine ex_pu (ls' := [vR E0, vR 0, vR 165, vR 181, vI v4, vI z_319, vI z_322]) (st' := [vI 0]) (dg dc332_33 8 rfl) rfl rfl ?_
    exact ex_ire (dg dc332_33 9 rfl) rfl hf
def drv_main_J2256 (Z : Nat × (Nat → Int))  (Kb : Int → MM → OR) (v4 : Int) (M : MM) : OR :=
  (bI (gh_undo  M) fun z_329 M_328 => (bI (mo_undo  M_328) fun z_332 M_331 => (bif cmpB .eq z_329 z_332 then (Kb (v4 + 6) M_331) else some (rI 0, M_331))))
set_option maxRecDepth 4000 in
theorem drv_main_J2256_ok {Z : Nat × (Nat → Int)} {d : Nat} (hd : 52 ≤ d) (hZ : Z.1 < 2147483648)  {Kb : Int → MM → OR} {res : AR × MM} (kb : ∀ (x4 : Int) (M : MM) (j5 j6 : AV), Kb x4 M = some res → EX Z d 332 23 [vR E0, vR 0, vR 165, vR 181, vI x4, j5, j6] [] M res) : ∀ (v4 : Int) (M : MM) (j5 j6 : AV), drv_main_J2256 Z  Kb v4 M = some res → EX Z d 332 2256 [vR E0, vR 0, vR 165, vR 181, vI v4, j5, j6] [] M res := by
  obtain ⟨e9, rfl⟩ : ∃ e9, d = e9 + 1 := ⟨d - 1, by omega⟩
  intro v4 M j5 j6 hf
  unfold drv_main_J2256 at hf
  refine ex_pu (ls' := [vR E0, vR 0, vR 165, vR 181, vI v4, j5, j6]) (st' := [vR 0]) (dg dc332_33 22 rfl) rfl rfl ?_
  refine ex_cI (vs := [vR 0]) (st' := []) (F := (gh_undo  M)) (Or.inr (Or.inl ⟨rfl, (dg dc332_33 23 rfl)⟩)) rfl rfl (rk1 (LOC.st (Nat.le_of_ble_eq_true rfl) rfl) rfl) rfl (fun _ r9 => gh_undo_ok (Z := Z) (d := e9) (by omega)  r9) hf (fun z_329 M_328 he_327 hf => ?_)
  refine ex_pu (ls' := [vR E0, vR 0, vR 165, vR 181, vI v4, j5, j6]) (st' := [vR 165, vI z_329]) (dg dc332_33 24 rfl) rfl rfl ?_
  refine ex_cI (vs := [vR 165]) (st' := [vI z_329]) (F := (mo_undo  M_328)) (Or.inr (Or.inl ⟨rfl, (dg dc332_33 25 rfl)⟩)) rfl rfl (rk1 (LOC.st (Nat.le_of_ble_eq_true rfl) rfl) rfl) rfl (fun _ r9 => mo_undo_ok (Z := Z) (d := e9) (by omega)  r9) hf (fun z_332 M_331 he_330 hf => ?_)
  refine ex_icmp (t := 2318) (dg dc332_33 26 rfl) rfl hf (fun _ hf => ?_) (fun _ hf => ?_)
  · refine ex_pu (ls' := [vR E0, vR 0, vR 165, vR 181, vI (v4 + 6), j5, j6]) (st' := []) (dg dc332_34 18 rfl) rfl rfl ?_
    refine ex_goto (t := 23) (dg dc332_34 19 rfl) rfl rfl ?_
    exact kb (v4 + 6) M_331 _ _ hf
  · refine ex_pu (ls' := [vR E0, vR 0, vR 165, vR 181, vI v4, j5, j6]) (st' := [vI 0]) (dg dc332_33 27 rfl) rfl rfl ?_
    exact ex_ire (dg dc332_33 28 rfl) rfl hf
def drv_main_J2269 (Z : Nat × (Nat → Int))  (Kb : Int → MM → OR) (v4 : Int) (M : MM) : OR :=
  (bV (gh_image  M) fun M_335 => (bV (mo_image  M_335) fun M_338 => (Kb (v4 + 6) M_338)))
set_option maxRecDepth 4000 in
theorem drv_main_J2269_ok {Z : Nat × (Nat → Int)} {d : Nat} (hd : 52 ≤ d) (hZ : Z.1 < 2147483648)  {Kb : Int → MM → OR} {res : AR × MM} (kb : ∀ (x4 : Int) (M : MM) (j5 j6 : AV), Kb x4 M = some res → EX Z d 332 23 [vR E0, vR 0, vR 165, vR 181, vI x4, j5, j6] [] M res) : ∀ (v4 : Int) (M : MM) (j5 j6 : AV), drv_main_J2269 Z  Kb v4 M = some res → EX Z d 332 2269 [vR E0, vR 0, vR 165, vR 181, vI v4, j5, j6] [] M res := by
  obtain ⟨e9, rfl⟩ : ∃ e9, d = e9 + 1 := ⟨d - 1, by omega⟩
  intro v4 M j5 j6 hf
  unfold drv_main_J2269 at hf
  refine ex_pu (ls' := [vR E0, vR 0, vR 165, vR 181, vI v4, j5, j6]) (st' := [vR 0]) (dg dc332_33 29 rfl) rfl rfl ?_
  refine ex_cV (vs := [vR 0]) (st' := []) (F := (gh_image  M)) (Or.inr (Or.inl ⟨rfl, (dg dc332_33 30 rfl)⟩)) rfl rfl (rk1 (LOC.st (Nat.le_of_ble_eq_true rfl) rfl) rfl) rfl (fun _ r9 => gh_image_ok (Z := Z) (d := e9) (by omega)  r9) hf (fun M_335 he_334 hf => ?_)
  refine ex_pu (ls' := [vR E0, vR 0, vR 165, vR 181, vI v4, j5, j6]) (st' := [vR 165]) (dg dc332_33 31 rfl) rfl rfl ?_
  refine ex_cV (vs := [vR 165]) (st' := []) (F := (mo_image  M_335)) (Or.inr (Or.inl ⟨rfl, (dg dc332_33 32 rfl)⟩)) rfl rfl (rk1 (LOC.st (Nat.le_of_ble_eq_true rfl) rfl) rfl) rfl (fun _ r9 => mo_image_ok (Z := Z) (d := e9) (by omega)  r9) hf (fun M_338 he_337 hf => ?_)
  refine ex_goto (t := 2318) (dg dc332_33 33 rfl) rfl rfl ?_
  refine ex_pu (ls' := [vR E0, vR 0, vR 165, vR 181, vI (v4 + 6), j5, j6]) (st' := []) (dg dc332_34 18 rfl) rfl rfl ?_
  refine ex_goto (t := 23) (dg dc332_34 19 rfl) rfl rfl ?_
  exact kb (v4 + 6) M_338 _ _ hf
def drv_main_J2280 (Z : Nat × (Nat → Int))  (Kb : Int → MM → OR) (v4 : Int) (M : MM) : OR :=
  (bI (gh_back  M) fun z_343 M_342 => (bI (mo_back  M_342) fun z_346 M_345 => (bif cmpB .eq z_343 z_346 then (Kb (v4 + 6) M_345) else some (rI 0, M_345))))
set_option maxRecDepth 4000 in
theorem drv_main_J2280_ok {Z : Nat × (Nat → Int)} {d : Nat} (hd : 52 ≤ d) (hZ : Z.1 < 2147483648)  {Kb : Int → MM → OR} {res : AR × MM} (kb : ∀ (x4 : Int) (M : MM) (j5 j6 : AV), Kb x4 M = some res → EX Z d 332 23 [vR E0, vR 0, vR 165, vR 181, vI x4, j5, j6] [] M res) : ∀ (v4 : Int) (M : MM) (j5 j6 : AV), drv_main_J2280 Z  Kb v4 M = some res → EX Z d 332 2280 [vR E0, vR 0, vR 165, vR 181, vI v4, j5, j6] [] M res := by
  obtain ⟨e9, rfl⟩ : ∃ e9, d = e9 + 1 := ⟨d - 1, by omega⟩
  intro v4 M j5 j6 hf
  unfold drv_main_J2280 at hf
  refine ex_pu (ls' := [vR E0, vR 0, vR 165, vR 181, vI v4, j5, j6]) (st' := [vR 0]) (dg dc332_33 34 rfl) rfl rfl ?_
  refine ex_cI (vs := [vR 0]) (st' := []) (F := (gh_back  M)) (Or.inr (Or.inl ⟨rfl, (dg dc332_33 35 rfl)⟩)) rfl rfl (rk1 (LOC.st (Nat.le_of_ble_eq_true rfl) rfl) rfl) rfl (fun _ r9 => gh_back_ok (Z := Z) (d := e9) (by omega)  r9) hf (fun z_343 M_342 he_341 hf => ?_)
  refine ex_pu (ls' := [vR E0, vR 0, vR 165, vR 181, vI v4, j5, j6]) (st' := [vR 165, vI z_343]) (dg dc332_33 36 rfl) rfl rfl ?_
  refine ex_cI (vs := [vR 165]) (st' := [vI z_343]) (F := (mo_back  M_342)) (Or.inr (Or.inl ⟨rfl, (dg dc332_33 37 rfl)⟩)) rfl rfl (rk1 (LOC.st (Nat.le_of_ble_eq_true rfl) rfl) rfl) rfl (fun _ r9 => mo_back_ok (Z := Z) (d := e9) (by omega)  r9) hf (fun z_346 M_345 he_344 hf => ?_)
  refine ex_icmp (t := 2318) (dg dc332_33 38 rfl) rfl hf (fun _ hf => ?_) (fun _ hf => ?_)
  · refine ex_pu (ls' := [vR E0, vR 0, vR 165, vR 181, vI (v4 + 6), j5, j6]) (st' := []) (dg dc332_34 18 rfl) rfl rfl ?_
    refine ex_goto (t := 23) (dg dc332_34 19 rfl) rfl rfl ?_
    exact kb (v4 + 6) M_345 _ _ hf
  · refine ex_pu (ls' := [vR E0, vR 0, vR 165, vR 181, vI v4, j5, j6]) (st' := [vI 0]) (dg dc332_33 39 rfl) rfl rfl ?_
    exact ex_ire (dg dc332_34 0 rfl) rfl hf
def drv_main_J2293 (Z : Nat × (Nat → Int))  (Kb : Int → MM → OR) (v4 : Int) (M : MM) : OR :=
  (bif inB (v4 + 1) Z.1 then (bI (gh_count (Z.2 ((v4 + 1)).toNat) M) fun z_350 M_349 => (bif inB (v4 + 1) Z.1 then (bI (mo_count (Z.2 ((v4 + 1)).toNat) M_349) fun z_353 M_352 => (bif cmpB .eq z_350 z_353 then (Kb (v4 + 6) M_352) else some (rI 0, M_352))) else none)) else none)
set_option maxRecDepth 4000 in
theorem drv_main_J2293_ok {Z : Nat × (Nat → Int)} {d : Nat} (hd : 52 ≤ d) (hZ : Z.1 < 2147483648)  {Kb : Int → MM → OR} {res : AR × MM} (kb : ∀ (x4 : Int) (M : MM) (j5 j6 : AV), Kb x4 M = some res → EX Z d 332 23 [vR E0, vR 0, vR 165, vR 181, vI x4, j5, j6] [] M res) : ∀ (v4 : Int) (M : MM) (j5 j6 : AV), drv_main_J2293 Z  Kb v4 M = some res → EX Z d 332 2293 [vR E0, vR 0, vR 165, vR 181, vI v4, j5, j6] [] M res := by
  obtain ⟨e9, rfl⟩ : ∃ e9, d = e9 + 1 := ⟨d - 1, by omega⟩
  intro v4 M j5 j6 hf
  unfold drv_main_J2293 at hf
  refine ex_pu (ls' := [vR E0, vR 0, vR 165, vR 181, vI v4, j5, j6]) (st' := [vR 0]) (dg dc332_34 1 rfl) rfl rfl ?_
  refine ex_pu (ls' := [vR E0, vR 0, vR 165, vR 181, vI v4, j5, j6]) (st' := [vR E0, vR 0]) (dg dc332_34 2 rfl) rfl rfl ?_
  refine ex_pu (ls' := [vR E0, vR 0, vR 165, vR 181, vI v4, j5, j6]) (st' := [vI v4, vR E0, vR 0]) (dg dc332_34 3 rfl) rfl rfl ?_
  refine ex_pu (ls' := [vR E0, vR 0, vR 165, vR 181, vI v4, j5, j6]) (st' := [vI 1, vI v4, vR E0, vR 0]) (dg dc332_34 4 rfl) rfl rfl ?_
  refine ex_pu (ls' := [vR E0, vR 0, vR 165, vR 181, vI v4, j5, j6]) (st' := [vI (v4 + 1), vR E0, vR 0]) (dg dc332_34 5 rfl) rfl rfl ?_
  refine ex_ialdS (dg dc332_34 6 rfl) hZ hf (fun _ hf => ?_)
  refine ex_cI (vs := [vR 0, vI (Z.2 ((v4 + 1)).toNat)]) (st' := []) (F := (gh_count (Z.2 ((v4 + 1)).toNat) M)) (Or.inr (Or.inl ⟨rfl, (dg dc332_34 7 rfl)⟩)) rfl rfl (rk1 (LOC.st (Nat.le_of_ble_eq_true rfl) rfl) rfl) rfl (fun _ r9 => gh_count_ok (Z := Z) (d := e9) (by omega)  r9) hf (fun z_350 M_349 he_348 hf => ?_)
  refine ex_pu (ls' := [vR E0, vR 0, vR 165, vR 181, vI v4, j5, j6]) (st' := [vR 165, vI z_350]) (dg dc332_34 8 rfl) rfl rfl ?_
  refine ex_pu (ls' := [vR E0, vR 0, vR 165, vR 181, vI v4, j5, j6]) (st' := [vR E0, vR 165, vI z_350]) (dg dc332_34 9 rfl) rfl rfl ?_
  refine ex_pu (ls' := [vR E0, vR 0, vR 165, vR 181, vI v4, j5, j6]) (st' := [vI v4, vR E0, vR 165, vI z_350]) (dg dc332_34 10 rfl) rfl rfl ?_
  refine ex_pu (ls' := [vR E0, vR 0, vR 165, vR 181, vI v4, j5, j6]) (st' := [vI 1, vI v4, vR E0, vR 165, vI z_350]) (dg dc332_34 11 rfl) rfl rfl ?_
  refine ex_pu (ls' := [vR E0, vR 0, vR 165, vR 181, vI v4, j5, j6]) (st' := [vI (v4 + 1), vR E0, vR 165, vI z_350]) (dg dc332_34 12 rfl) rfl rfl ?_
  refine ex_ialdS (dg dc332_34 13 rfl) hZ hf (fun _ hf => ?_)
  refine ex_cI (vs := [vR 165, vI (Z.2 ((v4 + 1)).toNat)]) (st' := [vI z_350]) (F := (mo_count (Z.2 ((v4 + 1)).toNat) M_349)) (Or.inr (Or.inl ⟨rfl, (dg dc332_34 14 rfl)⟩)) rfl rfl (rk1 (LOC.st (Nat.le_of_ble_eq_true rfl) rfl) rfl) rfl (fun _ r9 => mo_count_ok (Z := Z) (d := e9) (by omega)  r9) hf (fun z_353 M_352 he_351 hf => ?_)
  refine ex_icmp (t := 2318) (dg dc332_34 15 rfl) rfl hf (fun _ hf => ?_) (fun _ hf => ?_)
  · refine ex_pu (ls' := [vR E0, vR 0, vR 165, vR 181, vI (v4 + 6), j5, j6]) (st' := []) (dg dc332_34 18 rfl) rfl rfl ?_
    refine ex_goto (t := 23) (dg dc332_34 19 rfl) rfl rfl ?_
    exact kb (v4 + 6) M_352 _ _ hf
  · refine ex_pu (ls' := [vR E0, vR 0, vR 165, vR 181, vI v4, j5, j6]) (st' := [vI 0]) (dg dc332_34 16 rfl) rfl rfl ?_
    exact ex_ire (dg dc332_34 17 rfl) rfl hf
def drv_main_L23 (Z : Nat × (Nat → Int))   : Nat → Int → MM → OR
  | 0, _, _ => none
  | n + 1, v4, M => (bif cmpB .gt v4 (Z.1 - 6) then some (rI 1, M) else (bif inB v4 Z.1 then (bif cmpB .eq (iAnd (Z.2 (v4).toNat) 63) 0 then (drv_main_J208 Z  (drv_main_L23 Z   n) v4 M) else (bif cmpB .eq (iAnd (Z.2 (v4).toNat) 63) 1 then (drv_main_J281 Z  (drv_main_L23 Z   n) v4 M) else (bif cmpB .eq (iAnd (Z.2 (v4).toNat) 63) 2 then (drv_main_J306 Z  (drv_main_L23 Z   n) v4 M) else (bif cmpB .eq (iAnd (Z.2 (v4).toNat) 63) 3 then (drv_main_J350 Z  (drv_main_L23 Z   n) v4 M) else (bif cmpB .eq (iAnd (Z.2 (v4).toNat) 63) 4 then (drv_main_J394 Z  (drv_main_L23 Z   n) v4 M) else (bif cmpB .eq (iAnd (Z.2 (v4).toNat) 63) 5 then (drv_main_J407 Z  (drv_main_L23 Z   n) v4 M) else (bif cmpB .eq (iAnd (Z.2 (v4).toNat) 63) 6 then (drv_main_J475 Z  (drv_main_L23 Z   n) v4 M) else (bif cmpB .eq (iAnd (Z.2 (v4).toNat) 63) 7 then (drv_main_J543 Z  (drv_main_L23 Z   n) v4 M) else (bif cmpB .eq (iAnd (Z.2 (v4).toNat) 63) 8 then (drv_main_J611 Z  (drv_main_L23 Z   n) v4 M) else (bif cmpB .eq (iAnd (Z.2 (v4).toNat) 63) 9 then (drv_main_J679 Z  (drv_main_L23 Z   n) v4 M) else (bif cmpB .eq (iAnd (Z.2 (v4).toNat) 63) 10 then (drv_main_J735 Z  (drv_main_L23 Z   n) v4 M) else (bif cmpB .eq (iAnd (Z.2 (v4).toNat) 63) 11 then (drv_main_J803 Z  (drv_main_L23 Z   n) v4 M) else (bif cmpB .eq (iAnd (Z.2 (v4).toNat) 63) 12 then (drv_main_J878 Z  (drv_main_L23 Z   n) v4 M) else (bif cmpB .eq (iAnd (Z.2 (v4).toNat) 63) 13 then (drv_main_J934 Z  (drv_main_L23 Z   n) v4 M) else (bif cmpB .eq (iAnd (Z.2 (v4).toNat) 63) 14 then (drv_main_J990 Z  (drv_main_L23 Z   n) v4 M) else (bif cmpB .eq (iAnd (Z.2 (v4).toNat) 63) 15 then (drv_main_J1046 Z  (drv_main_L23 Z   n) v4 M) else (bif cmpB .eq (iAnd (Z.2 (v4).toNat) 63) 16 then (drv_main_J1102 Z  (drv_main_L23 Z   n) v4 M) else (bif cmpB .eq (iAnd (Z.2 (v4).toNat) 63) 17 then (drv_main_J1158 Z  (drv_main_L23 Z   n) v4 M) else (bif cmpB .eq (iAnd (Z.2 (v4).toNat) 63) 18 then (drv_main_J1214 Z  (drv_main_L23 Z   n) v4 M) else (bif cmpB .eq (iAnd (Z.2 (v4).toNat) 63) 19 then (drv_main_J1270 Z  (drv_main_L23 Z   n) v4 M) else (bif cmpB .eq (iAnd (Z.2 (v4).toNat) 63) 20 then (drv_main_J1326 Z  (drv_main_L23 Z   n) v4 M) else (bif cmpB .eq (iAnd (Z.2 (v4).toNat) 63) 21 then (drv_main_J1382 Z  (drv_main_L23 Z   n) v4 M) else (bif cmpB .eq (iAnd (Z.2 (v4).toNat) 63) 22 then (drv_main_J1454 Z  (drv_main_L23 Z   n) v4 M) else (bif cmpB .eq (iAnd (Z.2 (v4).toNat) 63) 23 then (drv_main_J1538 Z  (drv_main_L23 Z   n) v4 M) else (bif cmpB .eq (iAnd (Z.2 (v4).toNat) 63) 24 then (drv_main_J1551 Z  (drv_main_L23 Z   n) v4 M) else (bif cmpB .eq (iAnd (Z.2 (v4).toNat) 63) 25 then (drv_main_J1619 Z  (drv_main_L23 Z   n) v4 M) else (bif cmpB .eq (iAnd (Z.2 (v4).toNat) 63) 26 then (drv_main_J1675 Z  (drv_main_L23 Z   n) v4 M) else (bif cmpB .eq (iAnd (Z.2 (v4).toNat) 63) 27 then (drv_main_J1771 Z  (drv_main_L23 Z   n) v4 M) else (bif cmpB .eq (iAnd (Z.2 (v4).toNat) 63) 28 then (drv_main_J1839 Z  (drv_main_L23 Z   n) v4 M) else (bif cmpB .eq (iAnd (Z.2 (v4).toNat) 63) 29 then (drv_main_J1864 Z  (drv_main_L23 Z   n) v4 M) else (bif cmpB .eq (iAnd (Z.2 (v4).toNat) 63) 30 then (drv_main_J1920 Z  (drv_main_L23 Z   n) v4 M) else (bif cmpB .eq (iAnd (Z.2 (v4).toNat) 63) 31 then (drv_main_J1992 Z  (drv_main_L23 Z   n) v4 M) else (bif cmpB .eq (iAnd (Z.2 (v4).toNat) 63) 32 then (drv_main_J2132 Z  (drv_main_L23 Z   n) v4 M) else (bif cmpB .eq (iAnd (Z.2 (v4).toNat) 63) 33 then (drv_main_J2188 Z  (drv_main_L23 Z   n) v4 M) else (bif cmpB .eq (iAnd (Z.2 (v4).toNat) 63) 34 then (drv_main_J2256 Z  (drv_main_L23 Z   n) v4 M) else (bif cmpB .eq (iAnd (Z.2 (v4).toNat) 63) 35 then (drv_main_J2269 Z  (drv_main_L23 Z   n) v4 M) else (bif cmpB .eq (iAnd (Z.2 (v4).toNat) 63) 36 then (drv_main_J2280 Z  (drv_main_L23 Z   n) v4 M) else (bif cmpB .eq (iAnd (Z.2 (v4).toNat) 63) 37 then (drv_main_J2293 Z  (drv_main_L23 Z   n) v4 M) else (drv_main_L23 Z   n (v4 + 6) M))))))))))))))))))))))))))))))))))))))) else none))
set_option maxRecDepth 4000 in
theorem drv_main_L23_ok {Z : Nat × (Nat → Int)} {d : Nat} (hd : 52 ≤ d) (hZ : Z.1 < 2147483648)   {res : AR × MM}  : ∀ (n : Nat) (v4 : Int) (M : MM) (j5 j6 : AV), drv_main_L23 Z   n v4 M = some res → EX Z d 332 23 [vR E0, vR 0, vR 165, vR 181, vI v4, j5, j6] [] M res := by
  obtain ⟨e9, rfl⟩ : ∃ e9, d = e9 + 1 := ⟨d - 1, by omega⟩
  intro n
  induction n with
  | zero =>
    intro v4 M j5 j6 hf
    unfold drv_main_L23 at hf
    cases hf
  | succ n ih =>
    intro v4 M j5 j6 hf
    unfold drv_main_L23 at hf
    refine ex_pu (ls' := [vR E0, vR 0, vR 165, vR 181, vI v4, j5, j6]) (st' := [vI v4]) (dg dc332_0 13 rfl) rfl rfl ?_
    refine ex_pu (ls' := [vR E0, vR 0, vR 165, vR 181, vI v4, j5, j6]) (st' := [vR E0, vI v4]) (dg dc332_0 14 rfl) rfl rfl ?_
    refine ex_lenS (dg dc332_0 15 rfl) hZ ?_
    refine ex_pu (ls' := [vR E0, vR 0, vR 165, vR 181, vI v4, j5, j6]) (st' := [vI 6, vI Z.1, vI v4]) (dg dc332_0 16 rfl) rfl rfl ?_
    refine ex_pu (ls' := [vR E0, vR 0, vR 165, vR 181, vI v4, j5, j6]) (st' := [vI (Z.1 - 6), vI v4]) (dg dc332_0 17 rfl) rfl rfl ?_
    refine ex_icmp (t := 2324) (dg dc332_0 18 rfl) rfl hf (fun _ hf => ?_) (fun _ hf => ?_)
    · refine ex_pu (ls' := [vR E0, vR 0, vR 165, vR 181, vI v4, j5, j6]) (st' := [vI 1]) (dg dc332_34 20 rfl) rfl rfl ?_
      exact ex_ire (dg dc332_34 21 rfl) rfl hf
    · refine ex_pu (ls' := [vR E0, vR 0, vR 165, vR 181, vI v4, j5, j6]) (st' := [vR E0]) (dg dc332_0 19 rfl) rfl rfl ?_
      refine ex_pu (ls' := [vR E0, vR 0, vR 165, vR 181, vI v4, j5, j6]) (st' := [vI v4, vR E0]) (dg dc332_0 20 rfl) rfl rfl ?_
      refine ex_ialdS (dg dc332_0 21 rfl) hZ hf (fun _ hf => ?_)
      refine ex_pu (ls' := [vR E0, vR 0, vR 165, vR 181, vI v4, j5, j6]) (st' := [vI 63, vI (Z.2 (v4).toNat)]) (dg dc332_0 22 rfl) rfl rfl ?_
      refine ex_pu (ls' := [vR E0, vR 0, vR 165, vR 181, vI v4, j5, j6]) (st' := [vI (iAnd (Z.2 (v4).toNat) 63)]) (dg dc332_0 23 rfl) rfl rfl ?_
      refine ex_bif hf (fun hc_1 hf => ?_) (fun hc_1 hf => ?_)
      · refine ex_tsw (t := 208) (dg dc332_0 24 rfl) hc_1 (by decide +kernel) rfl ⟨by decide, by decide, by decide⟩ rfl ?_
        exact drv_main_J208_ok hd hZ  ih v4 M _ _ hf
      ·
        refine ex_bif hf (fun hc_8 hf => ?_) (fun hc_8 hf => ?_)
        · refine ex_tsw (t := 281) (dg dc332_0 24 rfl) hc_8 (by decide +kernel) rfl ⟨by decide, by decide, by decide⟩ rfl ?_
          exact drv_main_J281_ok hd hZ  ih v4 M _ _ hf
        ·
          refine ex_bif hf (fun hc_15 hf => ?_) (fun hc_15 hf => ?_)
          · refine ex_tsw (t := 306) (dg dc332_0 24 rfl) hc_15 (by decide +kernel) rfl ⟨by decide, by decide, by decide⟩ rfl ?_
            exact drv_main_J306_ok hd hZ  ih v4 M _ _ hf
          ·
            refine ex_bif hf (fun hc_25 hf => ?_) (fun hc_25 hf => ?_)
            · refine ex_tsw (t := 350) (dg dc332_0 24 rfl) hc_25 (by decide +kernel) rfl ⟨by decide, by decide, by decide⟩ rfl ?_
              exact drv_main_J350_ok hd hZ  ih v4 M _ _ hf
            ·
              refine ex_bif hf (fun hc_35 hf => ?_) (fun hc_35 hf => ?_)
              · refine ex_tsw (t := 394) (dg dc332_0 24 rfl) hc_35 (by decide +kernel) rfl ⟨by decide, by decide, by decide⟩ rfl ?_
                exact drv_main_J394_ok hd hZ  ih v4 M _ _ hf
              ·
                refine ex_bif hf (fun hc_42 hf => ?_) (fun hc_42 hf => ?_)
                · refine ex_tsw (t := 407) (dg dc332_0 24 rfl) hc_42 (by decide +kernel) rfl ⟨by decide, by decide, by decide⟩ rfl ?_
                  exact drv_main_J407_ok hd hZ  ih v4 M _ _ hf
                ·
                  refine ex_bif hf (fun hc_52 hf => ?_) (fun hc_52 hf => ?_)
                  · refine ex_tsw (t := 475) (dg dc332_0 24 rfl) hc_52 (by decide +kernel) rfl ⟨by decide, by decide, by decide⟩ rfl ?_
                    exact drv_main_J475_ok hd hZ  ih v4 M _ _ hf
                  ·
                    refine ex_bif hf (fun hc_62 hf => ?_) (fun hc_62 hf => ?_)
                    · refine ex_tsw (t := 543) (dg dc332_0 24 rfl) hc_62 (by decide +kernel) rfl ⟨by decide, by decide, by decide⟩ rfl ?_
                      exact drv_main_J543_ok hd hZ  ih v4 M _ _ hf
                    ·
                      refine ex_bif hf (fun hc_72 hf => ?_) (fun hc_72 hf => ?_)
                      · refine ex_tsw (t := 611) (dg dc332_0 24 rfl) hc_72 (by decide +kernel) rfl ⟨by decide, by decide, by decide⟩ rfl ?_
                        exact drv_main_J611_ok hd hZ  ih v4 M _ _ hf
                      ·
                        refine ex_bif hf (fun hc_82 hf => ?_) (fun hc_82 hf => ?_)
                        · refine ex_tsw (t := 679) (dg dc332_0 24 rfl) hc_82 (by decide +kernel) rfl ⟨by decide, by decide, by decide⟩ rfl ?_
                          exact drv_main_J679_ok hd hZ  ih v4 M _ _ hf
                        ·
                          refine ex_bif hf (fun hc_92 hf => ?_) (fun hc_92 hf => ?_)
                          · refine ex_tsw (t := 735) (dg dc332_0 24 rfl) hc_92 (by decide +kernel) rfl ⟨by decide, by decide, by decide⟩ rfl ?_
                            exact drv_main_J735_ok hd hZ  ih v4 M _ _ hf
                          ·
                            refine ex_bif hf (fun hc_102 hf => ?_) (fun hc_102 hf => ?_)
                            · refine ex_tsw (t := 803) (dg dc332_0 24 rfl) hc_102 (by decide +kernel) rfl ⟨by decide, by decide, by decide⟩ rfl ?_
                              exact drv_main_J803_ok hd hZ  ih v4 M _ _ hf
                            ·
                              refine ex_bif hf (fun hc_112 hf => ?_) (fun hc_112 hf => ?_)
                              · refine ex_tsw (t := 878) (dg dc332_0 24 rfl) hc_112 (by decide +kernel) rfl ⟨by decide, by decide, by decide⟩ rfl ?_
                                exact drv_main_J878_ok hd hZ  ih v4 M _ _ hf
                              ·
                                refine ex_bif hf (fun hc_122 hf => ?_) (fun hc_122 hf => ?_)
                                · refine ex_tsw (t := 934) (dg dc332_0 24 rfl) hc_122 (by decide +kernel) rfl ⟨by decide, by decide, by decide⟩ rfl ?_
                                  exact drv_main_J934_ok hd hZ  ih v4 M _ _ hf
                                ·
                                  refine ex_bif hf (fun hc_132 hf => ?_) (fun hc_132 hf => ?_)
                                  · refine ex_tsw (t := 990) (dg dc332_0 24 rfl) hc_132 (by decide +kernel) rfl ⟨by decide, by decide, by decide⟩ rfl ?_
                                    exact drv_main_J990_ok hd hZ  ih v4 M _ _ hf
                                  ·
                                    refine ex_bif hf (fun hc_142 hf => ?_) (fun hc_142 hf => ?_)
                                    · refine ex_tsw (t := 1046) (dg dc332_0 24 rfl) hc_142 (by decide +kernel) rfl ⟨by decide, by decide, by decide⟩ rfl ?_
                                      exact drv_main_J1046_ok hd hZ  ih v4 M _ _ hf
                                    ·
                                      refine ex_bif hf (fun hc_152 hf => ?_) (fun hc_152 hf => ?_)
                                      · refine ex_tsw (t := 1102) (dg dc332_0 24 rfl) hc_152 (by decide +kernel) rfl ⟨by decide, by decide, by decide⟩ rfl ?_
                                        exact drv_main_J1102_ok hd hZ  ih v4 M _ _ hf
                                      ·
                                        refine ex_bif hf (fun hc_162 hf => ?_) (fun hc_162 hf => ?_)
                                        · refine ex_tsw (t := 1158) (dg dc332_0 24 rfl) hc_162 (by decide +kernel) rfl ⟨by decide, by decide, by decide⟩ rfl ?_
                                          exact drv_main_J1158_ok hd hZ  ih v4 M _ _ hf
                                        ·
                                          refine ex_bif hf (fun hc_172 hf => ?_) (fun hc_172 hf => ?_)
                                          · refine ex_tsw (t := 1214) (dg dc332_0 24 rfl) hc_172 (by decide +kernel) rfl ⟨by decide, by decide, by decide⟩ rfl ?_
                                            exact drv_main_J1214_ok hd hZ  ih v4 M _ _ hf
                                          ·
                                            refine ex_bif hf (fun hc_182 hf => ?_) (fun hc_182 hf => ?_)
                                            · refine ex_tsw (t := 1270) (dg dc332_0 24 rfl) hc_182 (by decide +kernel) rfl ⟨by decide, by decide, by decide⟩ rfl ?_
                                              exact drv_main_J1270_ok hd hZ  ih v4 M _ _ hf
                                            ·
                                              refine ex_bif hf (fun hc_192 hf => ?_) (fun hc_192 hf => ?_)
                                              · refine ex_tsw (t := 1326) (dg dc332_0 24 rfl) hc_192 (by decide +kernel) rfl ⟨by decide, by decide, by decide⟩ rfl ?_
                                                exact drv_main_J1326_ok hd hZ  ih v4 M _ _ hf
                                              ·
                                                refine ex_bif hf (fun hc_202 hf => ?_) (fun hc_202 hf => ?_)
                                                · refine ex_tsw (t := 1382) (dg dc332_0 24 rfl) hc_202 (by decide +kernel) rfl ⟨by decide, by decide, by decide⟩ rfl ?_
                                                  exact drv_main_J1382_ok hd hZ  ih v4 M _ _ hf
                                                ·
                                                  refine ex_bif hf (fun hc_212 hf => ?_) (fun hc_212 hf => ?_)
                                                  · refine ex_tsw (t := 1454) (dg dc332_0 24 rfl) hc_212 (by decide +kernel) rfl ⟨by decide, by decide, by decide⟩ rfl ?_
                                                    exact drv_main_J1454_ok hd hZ  ih v4 M _ _ hf
                                                  ·
                                                    refine ex_bif hf (fun hc_222 hf => ?_) (fun hc_222 hf => ?_)
                                                    · refine ex_tsw (t := 1538) (dg dc332_0 24 rfl) hc_222 (by decide +kernel) rfl ⟨by decide, by decide, by decide⟩ rfl ?_
                                                      exact drv_main_J1538_ok hd hZ  ih v4 M _ _ hf
                                                    ·
                                                      refine ex_bif hf (fun hc_229 hf => ?_) (fun hc_229 hf => ?_)
                                                      · refine ex_tsw (t := 1551) (dg dc332_0 24 rfl) hc_229 (by decide +kernel) rfl ⟨by decide, by decide, by decide⟩ rfl ?_
                                                        exact drv_main_J1551_ok hd hZ  ih v4 M _ _ hf
                                                      ·
                                                        refine ex_bif hf (fun hc_239 hf => ?_) (fun hc_239 hf => ?_)
                                                        · refine ex_tsw (t := 1619) (dg dc332_0 24 rfl) hc_239 (by decide +kernel) rfl ⟨by decide, by decide, by decide⟩ rfl ?_
                                                          exact drv_main_J1619_ok hd hZ  ih v4 M _ _ hf
                                                        ·
                                                          refine ex_bif hf (fun hc_249 hf => ?_) (fun hc_249 hf => ?_)
                                                          · refine ex_tsw (t := 1675) (dg dc332_0 24 rfl) hc_249 (by decide +kernel) rfl ⟨by decide, by decide, by decide⟩ rfl ?_
                                                            exact drv_main_J1675_ok hd hZ  ih v4 M _ _ hf
                                                          ·
                                                            refine ex_bif hf (fun hc_259 hf => ?_) (fun hc_259 hf => ?_)
                                                            · refine ex_tsw (t := 1771) (dg dc332_0 24 rfl) hc_259 (by decide +kernel) rfl ⟨by decide, by decide, by decide⟩ rfl ?_
                                                              exact drv_main_J1771_ok hd hZ  ih v4 M _ _ hf
                                                            ·
                                                              refine ex_bif hf (fun hc_269 hf => ?_) (fun hc_269 hf => ?_)
                                                              · refine ex_tsw (t := 1839) (dg dc332_0 24 rfl) hc_269 (by decide +kernel) rfl ⟨by decide, by decide, by decide⟩ rfl ?_
                                                                exact drv_main_J1839_ok hd hZ  ih v4 M _ _ hf
                                                              ·
                                                                refine ex_bif hf (fun hc_276 hf => ?_) (fun hc_276 hf => ?_)
                                                                · refine ex_tsw (t := 1864) (dg dc332_0 24 rfl) hc_276 (by decide +kernel) rfl ⟨by decide, by decide, by decide⟩ rfl ?_
                                                                  exact drv_main_J1864_ok hd hZ  ih v4 M _ _ hf
                                                                ·
                                                                  refine ex_bif hf (fun hc_286 hf => ?_) (fun hc_286 hf => ?_)
                                                                  · refine ex_tsw (t := 1920) (dg dc332_0 24 rfl) hc_286 (by decide +kernel) rfl ⟨by decide, by decide, by decide⟩ rfl ?_
                                                                    exact drv_main_J1920_ok hd hZ  ih v4 M _ _ hf
                                                                  ·
                                                                    refine ex_bif hf (fun hc_296 hf => ?_) (fun hc_296 hf => ?_)
                                                                    · refine ex_tsw (t := 1992) (dg dc332_0 24 rfl) hc_296 (by decide +kernel) rfl ⟨by decide, by decide, by decide⟩ rfl ?_
                                                                      exact drv_main_J1992_ok hd hZ  ih v4 M _ _ hf
                                                                    ·
                                                                      refine ex_bif hf (fun hc_306 hf => ?_) (fun hc_306 hf => ?_)
                                                                      · refine ex_tsw (t := 2132) (dg dc332_0 24 rfl) hc_306 (by decide +kernel) rfl ⟨by decide, by decide, by decide⟩ rfl ?_
                                                                        exact drv_main_J2132_ok hd hZ  ih v4 M _ _ hf
                                                                      ·
                                                                        refine ex_bif hf (fun hc_316 hf => ?_) (fun hc_316 hf => ?_)
                                                                        · refine ex_tsw (t := 2188) (dg dc332_0 24 rfl) hc_316 (by decide +kernel) rfl ⟨by decide, by decide, by decide⟩ rfl ?_
                                                                          exact drv_main_J2188_ok hd hZ  ih v4 M _ _ hf
                                                                        ·
                                                                          refine ex_bif hf (fun hc_326 hf => ?_) (fun hc_326 hf => ?_)
                                                                          · refine ex_tsw (t := 2256) (dg dc332_0 24 rfl) hc_326 (by decide +kernel) rfl ⟨by decide, by decide, by decide⟩ rfl ?_
                                                                            exact drv_main_J2256_ok hd hZ  ih v4 M _ _ hf
                                                                          ·
                                                                            refine ex_bif hf (fun hc_333 hf => ?_) (fun hc_333 hf => ?_)
                                                                            · refine ex_tsw (t := 2269) (dg dc332_0 24 rfl) hc_333 (by decide +kernel) rfl ⟨by decide, by decide, by decide⟩ rfl ?_
                                                                              exact drv_main_J2269_ok hd hZ  ih v4 M _ _ hf
                                                                            ·
                                                                              refine ex_bif hf (fun hc_340 hf => ?_) (fun hc_340 hf => ?_)
                                                                              · refine ex_tsw (t := 2280) (dg dc332_0 24 rfl) hc_340 (by decide +kernel) rfl ⟨by decide, by decide, by decide⟩ rfl ?_
                                                                                exact drv_main_J2280_ok hd hZ  ih v4 M _ _ hf
                                                                              ·
                                                                                refine ex_bif hf (fun hc_347 hf => ?_) (fun hc_347 hf => ?_)
                                                                                · refine ex_tsw (t := 2293) (dg dc332_0 24 rfl) hc_347 (by decide +kernel) rfl ⟨by decide, by decide, by decide⟩ rfl ?_
                                                                                  exact drv_main_J2293_ok hd hZ  ih v4 M _ _ hf
                                                                                · refine ex_tsd (t := 2318) (dg dc332_0 24 rfl) (sw_out (lo := 0) (hi := 37) (fun j h1 h2 => by have hj : j = 0 ∨ j = 1 ∨ j = 2 ∨ j = 3 ∨ j = 4 ∨ j = 5 ∨ j = 6 ∨ j = 7 ∨ j = 8 ∨ j = 9 ∨ j = 10 ∨ j = 11 ∨ j = 12 ∨ j = 13 ∨ j = 14 ∨ j = 15 ∨ j = 16 ∨ j = 17 ∨ j = 18 ∨ j = 19 ∨ j = 20 ∨ j = 21 ∨ j = 22 ∨ j = 23 ∨ j = 24 ∨ j = 25 ∨ j = 26 ∨ j = 27 ∨ j = 28 ∨ j = 29 ∨ j = 30 ∨ j = 31 ∨ j = 32 ∨ j = 33 ∨ j = 34 ∨ j = 35 ∨ j = 36 ∨ j = 37 := (by omega); rcases hj with rfl | rfl | rfl | rfl | rfl | rfl | rfl | rfl | rfl | rfl | rfl | rfl | rfl | rfl | rfl | rfl | rfl | rfl | rfl | rfl | rfl | rfl | rfl | rfl | rfl | rfl | rfl | rfl | rfl | rfl | rfl | rfl | rfl | rfl | rfl | rfl | rfl | rfl <;> first | exact ⟨hc_1, by decide +kernel⟩ | exact ⟨hc_8, by decide +kernel⟩ | exact ⟨hc_15, by decide +kernel⟩ | exact ⟨hc_25, by decide +kernel⟩ | exact ⟨hc_35, by decide +kernel⟩ | exact ⟨hc_42, by decide +kernel⟩ | exact ⟨hc_52, by decide +kernel⟩ | exact ⟨hc_62, by decide +kernel⟩ | exact ⟨hc_72, by decide +kernel⟩ | exact ⟨hc_82, by decide +kernel⟩ | exact ⟨hc_92, by decide +kernel⟩ | exact ⟨hc_102, by decide +kernel⟩ | exact ⟨hc_112, by decide +kernel⟩ | exact ⟨hc_122, by decide +kernel⟩ | exact ⟨hc_132, by decide +kernel⟩ | exact ⟨hc_142, by decide +kernel⟩ | exact ⟨hc_152, by decide +kernel⟩ | exact ⟨hc_162, by decide +kernel⟩ | exact ⟨hc_172, by decide +kernel⟩ | exact ⟨hc_182, by decide +kernel⟩ | exact ⟨hc_192, by decide +kernel⟩ | exact ⟨hc_202, by decide +kernel⟩ | exact ⟨hc_212, by decide +kernel⟩ | exact ⟨hc_222, by decide +kernel⟩ | exact ⟨hc_229, by decide +kernel⟩ | exact ⟨hc_239, by decide +kernel⟩ | exact ⟨hc_249, by decide +kernel⟩ | exact ⟨hc_259, by decide +kernel⟩ | exact ⟨hc_269, by decide +kernel⟩ | exact ⟨hc_276, by decide +kernel⟩ | exact ⟨hc_286, by decide +kernel⟩ | exact ⟨hc_296, by decide +kernel⟩ | exact ⟨hc_306, by decide +kernel⟩ | exact ⟨hc_316, by decide +kernel⟩ | exact ⟨hc_326, by decide +kernel⟩ | exact ⟨hc_333, by decide +kernel⟩ | exact ⟨hc_340, by decide +kernel⟩ | exact ⟨hc_347, by decide +kernel⟩)) rfl ?_
                                                                                  refine ex_pu (ls' := [vR E0, vR 0, vR 165, vR 181, vI (v4 + 6), j5, j6]) (st' := []) (dg dc332_34 18 rfl) rfl rfl ?_
                                                                                  refine ex_goto (t := 23) (dg dc332_34 19 rfl) rfl rfl ?_
                                                                                  exact ih (v4 + 6) M _ _ hf
def drv_main (Z : Nat × (Nat → Int))  (M : MM) : OR :=
  (drv_main_L23 Z   FU 0 M)
set_option maxRecDepth 4000 in
theorem drv_main_ok {Z : Nat × (Nat → Int)} {d : Nat} (hd : 52 ≤ d) (hZ : Z.1 < 2147483648) {M : MM}  {res : AR × MM} (hf : drv_main Z  M = some res) : EX Z d 332 20 [vR E0, vR 0, vR 165, vR 181, vU, vU, vU] [] M res := by
  obtain ⟨e9, rfl⟩ : ∃ e9, d = e9 + 1 := ⟨d - 1, by omega⟩
  unfold drv_main at hf
  refine ex_pu (ls' := [vR E0, vR 0, vR 165, vR 181, vU, vU, vU]) (st' := [vI 0]) (dg dc332_0 11 rfl) rfl rfl ?_
  refine ex_pu (ls' := [vR E0, vR 0, vR 165, vR 181, vI 0, vU, vU]) (st' := []) (dg dc332_0 12 rfl) rfl rfl ?_
  refine drv_main_L23_ok hd hZ   FU 0 M _ _ hf
