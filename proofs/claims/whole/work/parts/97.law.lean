/-! the law, walked, by wip/tools -/
/-! the law's code -/
def cdL0 : List (Nat × Instr × Nat) := [(0, .new 8, 3), (3, .dup, 1), (4, .invokespecial 15, 3), (7, .astore_n 1, 1), (8, .new 16, 3), (11, .dup, 1), (12, .invokespecial 18, 3), (15, .astore_n 2, 1)]
def cdL1 : List (Nat × Instr × Nat) := [(16, .iconst 1, 1), (17, .newarray .long, 2), (19, .astore_n 3, 1), (20, .iconst 0, 1), (21, .istore 4, 2), (23, .iload 4, 2), (25, .aload_n 0, 1), (26, .arraylength, 1), (27, .bipush 6, 2), (29, .isub, 1), (30, .if_icmp .gt 1191, 3)]
def cdL2 : List (Nat × Instr × Nat) := [(33, .aload_n 0, 1), (34, .iload 4, 2), (36, .iaload, 1), (37, .bipush 31, 2), (39, .iand, 1), (40, .tableswitch 1175 0 31 #[144, 217, 242, 267, 292, 360, 397, 422, 459, 496, 533, 582, 619, 668, 717, 742, 767, 780, 805, 818, 831, 880, 905, 918, 955, 980, 1017, 1042, 1111, 1124, 1137, 1150], 144)]
def cdL3 : List (Nat × Instr × Nat) := []
def cdL4 : List (Nat × Instr × Nat) := []
def cdL5 : List (Nat × Instr × Nat) := []
def cdL6 : List (Nat × Instr × Nat) := []
def cdL7 : List (Nat × Instr × Nat) := []
def cdL8 : List (Nat × Instr × Nat) := []
def cdL9 : List (Nat × Instr × Nat) := []
def cdL10 : List (Nat × Instr × Nat) := []
def cdL11 : List (Nat × Instr × Nat) := [(184, .aload_n 1, 1), (185, .aload_n 0, 1), (186, .iload 4, 2), (188, .iconst 1, 1), (189, .iadd, 1), (190, .iaload, 1), (191, .aload_n 0, 1)]
def cdL12 : List (Nat × Instr × Nat) := [(192, .iload 4, 2), (194, .iconst 2, 1), (195, .iadd, 1), (196, .iaload, 1), (197, .aload_n 0, 1), (198, .iload 4, 2), (200, .iconst 3, 1), (201, .iadd, 1), (202, .iaload, 1), (203, .aload_n 0, 1), (204, .iload 4, 2), (206, .iconst 4, 1), (207, .iadd, 1)]
def cdL13 : List (Nat × Instr × Nat) := [(208, .iaload, 1), (209, .aload_n 0, 1), (210, .iload 4, 2), (212, .iconst 5, 1), (213, .iadd, 1), (214, .iaload, 1), (215, .invokevirtual 19, 3), (218, .aload_n 2, 1), (219, .aload_n 0, 1), (220, .iload 4, 2), (222, .iconst 1, 1), (223, .iadd, 1)]
def cdL14 : List (Nat × Instr × Nat) := [(224, .iaload, 1), (225, .aload_n 0, 1), (226, .iload 4, 2), (228, .iconst 2, 1), (229, .iadd, 1), (230, .iaload, 1), (231, .aload_n 0, 1), (232, .iload 4, 2), (234, .iconst 3, 1), (235, .iadd, 1), (236, .iaload, 1), (237, .aload_n 0, 1), (238, .iload 4, 2)]
def cdL15 : List (Nat × Instr × Nat) := [(240, .iconst 4, 1), (241, .iadd, 1), (242, .iaload, 1), (243, .aload_n 0, 1), (244, .iload 4, 2), (246, .iconst 5, 1), (247, .iadd, 1), (248, .iaload, 1), (249, .invokevirtual 23, 3), (252, .if_icmp .eq 963, 3), (255, .iconst 0, 1)]
def cdL16 : List (Nat × Instr × Nat) := [(256, .ireturn, 1), (257, .aload_n 1, 1), (258, .aload_n 0, 1), (259, .iload 4, 2), (261, .iconst 1, 1), (262, .iadd, 1), (263, .iaload, 1), (264, .invokevirtual 24, 3), (267, .aload_n 2, 1), (268, .aload_n 0, 1), (269, .iload 4, 2), (271, .iconst 1, 1)]
def cdL17 : List (Nat × Instr × Nat) := [(272, .iadd, 1), (273, .iaload, 1), (274, .invokevirtual 28, 3), (277, .if_icmp .eq 938, 3), (280, .iconst 0, 1), (281, .ireturn, 1), (282, .aload_n 1, 1), (283, .aload_n 0, 1), (284, .iload 4, 2), (286, .iconst 1, 1), (287, .iadd, 1)]
def cdL18 : List (Nat × Instr × Nat) := [(288, .iaload, 1), (289, .invokevirtual 29, 3), (292, .aload_n 2, 1), (293, .aload_n 0, 1), (294, .iload 4, 2), (296, .iconst 1, 1), (297, .iadd, 1), (298, .iaload, 1), (299, .invokevirtual 33, 3), (302, .if_icmp .eq 913, 3)]
def cdL19 : List (Nat × Instr × Nat) := [(305, .iconst 0, 1), (306, .ireturn, 1), (307, .aload_n 1, 1), (308, .aload_n 0, 1), (309, .iload 4, 2), (311, .iconst 1, 1), (312, .iadd, 1), (313, .iaload, 1), (314, .invokevirtual 34, 3), (317, .aload_n 2, 1), (318, .aload_n 0, 1), (319, .iload 4, 2)]
def cdL20 : List (Nat × Instr × Nat) := [(321, .iconst 1, 1), (322, .iadd, 1), (323, .iaload, 1), (324, .invokevirtual 37, 3), (327, .if_icmp .eq 888, 3), (330, .iconst 0, 1), (331, .ireturn, 1), (332, .aload_n 1, 1), (333, .aload_n 0, 1), (334, .iload 4, 2)]
def cdL21 : List (Nat × Instr × Nat) := [(336, .iconst 1, 1), (337, .iadd, 1), (338, .iaload, 1), (339, .aload_n 0, 1), (340, .iload 4, 2), (342, .iconst 2, 1), (343, .iadd, 1), (344, .iaload, 1), (345, .aload_n 3, 1), (346, .invokestatic 38, 3), (349, .istore 5, 2), (351, .aload_n 2, 1)]
def cdL22 : List (Nat × Instr × Nat) := [(352, .aload_n 0, 1), (353, .iload 4, 2), (355, .iconst 1, 1), (356, .iadd, 1), (357, .iaload, 1), (358, .aload_n 0, 1), (359, .iload 4, 2), (361, .iconst 2, 1), (362, .iadd, 1), (363, .iaload, 1), (364, .invokevirtual 43, 3), (367, .istore 6, 2)]
def cdL23 : List (Nat × Instr × Nat) := [(369, .aload_n 2, 1), (370, .invokevirtual 44, 3), (373, .iload 5, 2), (375, .if_icmp .eq 5, 3), (378, .iconst 0, 1), (379, .ireturn, 1), (380, .iload 5, 2), (382, .ifCond .ne 15, 3)]
def cdL24 : List (Nat × Instr × Nat) := [(385, .aload_n 3, 1), (386, .iconst 0, 1), (387, .laload, 1), (388, .iload 6, 2), (390, .i2l, 1), (391, .lcmp, 1), (392, .ifCond .eq 5, 3), (395, .iconst 0, 1), (396, .ireturn, 1), (397, .goto 818, 3)]
def cdL25 : List (Nat × Instr × Nat) := [(400, .aload_n 1, 1), (401, .aload_n 0, 1), (402, .iload 4, 2), (404, .iconst 1, 1), (405, .iadd, 1), (406, .iaload, 1), (407, .aload_n 0, 1), (408, .iload 4, 2), (410, .iconst 2, 1), (411, .iadd, 1), (412, .iaload, 1), (413, .invokevirtual 48, 3)]
def cdL26 : List (Nat × Instr × Nat) := [(416, .aload_n 2, 1), (417, .aload_n 0, 1), (418, .iload 4, 2), (420, .iconst 1, 1), (421, .iadd, 1), (422, .iaload, 1), (423, .aload_n 0, 1), (424, .iload 4, 2), (426, .iconst 2, 1), (427, .iadd, 1), (428, .iaload, 1), (429, .invokevirtual 51, 3)]
def cdL27 : List (Nat × Instr × Nat) := [(432, .if_icmp .eq 783, 3), (435, .iconst 0, 1), (436, .ireturn, 1), (437, .aload_n 1, 1), (438, .aload_n 0, 1), (439, .iload 4, 2), (441, .iconst 1, 1), (442, .iadd, 1), (443, .iaload, 1), (444, .invokevirtual 52, 3), (447, .aload_n 2, 1)]
def cdL28 : List (Nat × Instr × Nat) := [(448, .aload_n 0, 1), (449, .iload 4, 2), (451, .iconst 1, 1), (452, .iadd, 1), (453, .iaload, 1), (454, .invokevirtual 55, 3), (457, .if_icmp .eq 758, 3), (460, .iconst 0, 1), (461, .ireturn, 1), (462, .aload_n 1, 1), (463, .aload_n 0, 1)]
def cdL29 : List (Nat × Instr × Nat) := [(464, .iload 4, 2), (466, .iconst 1, 1), (467, .iadd, 1), (468, .iaload, 1), (469, .aload_n 0, 1), (470, .iload 4, 2), (472, .iconst 2, 1), (473, .iadd, 1), (474, .iaload, 1), (475, .invokevirtual 56, 3), (478, .aload_n 2, 1), (479, .aload_n 0, 1)]
def cdL30 : List (Nat × Instr × Nat) := [(480, .iload 4, 2), (482, .iconst 1, 1), (483, .iadd, 1), (484, .iaload, 1), (485, .aload_n 0, 1), (486, .iload 4, 2), (488, .iconst 2, 1), (489, .iadd, 1), (490, .iaload, 1), (491, .invokevirtual 60, 3), (494, .if_icmp .eq 721, 3)]
def cdL31 : List (Nat × Instr × Nat) := [(497, .iconst 0, 1), (498, .ireturn, 1), (499, .aload_n 1, 1), (500, .aload_n 0, 1), (501, .iload 4, 2), (503, .iconst 1, 1), (504, .iadd, 1), (505, .iaload, 1), (506, .aload_n 0, 1), (507, .iload 4, 2), (509, .iconst 2, 1), (510, .iadd, 1), (511, .iaload, 1)]
def cdL32 : List (Nat × Instr × Nat) := [(512, .invokevirtual 61, 3), (515, .aload_n 2, 1), (516, .aload_n 0, 1), (517, .iload 4, 2), (519, .iconst 1, 1), (520, .iadd, 1), (521, .iaload, 1), (522, .aload_n 0, 1), (523, .iload 4, 2), (525, .iconst 2, 1), (526, .iadd, 1), (527, .iaload, 1)]
def cdL33 : List (Nat × Instr × Nat) := [(528, .invokevirtual 64, 3), (531, .if_icmp .eq 684, 3), (534, .iconst 0, 1), (535, .ireturn, 1), (536, .aload_n 1, 1), (537, .aload_n 0, 1), (538, .iload 4, 2), (540, .iconst 1, 1), (541, .iadd, 1), (542, .iaload, 1), (543, .aload_n 0, 1)]
def cdL34 : List (Nat × Instr × Nat) := [(544, .iload 4, 2), (546, .iconst 2, 1), (547, .iadd, 1), (548, .iaload, 1), (549, .invokevirtual 65, 3), (552, .aload_n 2, 1), (553, .aload_n 0, 1), (554, .iload 4, 2), (556, .iconst 1, 1), (557, .iadd, 1), (558, .iaload, 1), (559, .aload_n 0, 1)]
def cdL35 : List (Nat × Instr × Nat) := [(560, .iload 4, 2), (562, .iconst 2, 1), (563, .iadd, 1), (564, .iaload, 1), (565, .invokevirtual 68, 3), (568, .if_icmp .eq 647, 3), (571, .iconst 0, 1), (572, .ireturn, 1), (573, .aload_n 1, 1), (574, .aload_n 0, 1), (575, .iload 4, 2)]
def cdL36 : List (Nat × Instr × Nat) := [(577, .iconst 1, 1), (578, .iadd, 1), (579, .iaload, 1), (580, .aload_n 0, 1), (581, .iload 4, 2), (583, .iconst 2, 1), (584, .iadd, 1), (585, .iaload, 1), (586, .aload_n 0, 1), (587, .iload 4, 2), (589, .iconst 3, 1), (590, .iadd, 1), (591, .iaload, 1)]
def cdL37 : List (Nat × Instr × Nat) := [(592, .invokevirtual 69, 3), (595, .aload_n 2, 1), (596, .aload_n 0, 1), (597, .iload 4, 2), (599, .iconst 1, 1), (600, .iadd, 1), (601, .iaload, 1), (602, .aload_n 0, 1), (603, .iload 4, 2), (605, .iconst 2, 1), (606, .iadd, 1), (607, .iaload, 1)]
def cdL38 : List (Nat × Instr × Nat) := [(608, .aload_n 0, 1), (609, .iload 4, 2), (611, .iconst 3, 1), (612, .iadd, 1), (613, .iaload, 1), (614, .invokevirtual 73, 3), (617, .if_icmp .eq 598, 3), (620, .iconst 0, 1), (621, .ireturn, 1), (622, .aload_n 1, 1), (623, .aload_n 0, 1)]
def cdL39 : List (Nat × Instr × Nat) := [(624, .iload 4, 2), (626, .iconst 1, 1), (627, .iadd, 1), (628, .iaload, 1), (629, .aload_n 0, 1), (630, .iload 4, 2), (632, .iconst 2, 1), (633, .iadd, 1), (634, .iaload, 1), (635, .invokevirtual 74, 3), (638, .aload_n 2, 1), (639, .aload_n 0, 1)]
def cdL40 : List (Nat × Instr × Nat) := [(640, .iload 4, 2), (642, .iconst 1, 1), (643, .iadd, 1), (644, .iaload, 1), (645, .aload_n 0, 1), (646, .iload 4, 2), (648, .iconst 2, 1), (649, .iadd, 1), (650, .iaload, 1), (651, .invokevirtual 77, 3), (654, .if_icmp .eq 561, 3)]
def cdL41 : List (Nat × Instr × Nat) := [(657, .iconst 0, 1), (658, .ireturn, 1), (659, .aload_n 1, 1), (660, .aload_n 0, 1), (661, .iload 4, 2), (663, .iconst 1, 1), (664, .iadd, 1), (665, .iaload, 1), (666, .aload_n 0, 1), (667, .iload 4, 2), (669, .iconst 2, 1), (670, .iadd, 1), (671, .iaload, 1)]
def cdL42 : List (Nat × Instr × Nat) := [(672, .aload_n 0, 1), (673, .iload 4, 2), (675, .iconst 3, 1), (676, .iadd, 1), (677, .iaload, 1), (678, .invokevirtual 78, 3), (681, .aload_n 2, 1), (682, .aload_n 0, 1), (683, .iload 4, 2), (685, .iconst 1, 1), (686, .iadd, 1), (687, .iaload, 1)]
def cdL43 : List (Nat × Instr × Nat) := [(688, .aload_n 0, 1), (689, .iload 4, 2), (691, .iconst 2, 1), (692, .iadd, 1), (693, .iaload, 1), (694, .aload_n 0, 1), (695, .iload 4, 2), (697, .iconst 3, 1), (698, .iadd, 1), (699, .iaload, 1), (700, .invokevirtual 81, 3), (703, .if_icmp .eq 512, 3)]
def cdL44 : List (Nat × Instr × Nat) := [(706, .iconst 0, 1), (707, .ireturn, 1), (708, .aload_n 1, 1), (709, .aload_n 0, 1), (710, .iload 4, 2), (712, .iconst 1, 1), (713, .iadd, 1), (714, .iaload, 1), (715, .aload_n 0, 1), (716, .iload 4, 2), (718, .iconst 2, 1), (719, .iadd, 1)]
def cdL45 : List (Nat × Instr × Nat) := [(720, .iaload, 1), (721, .aload_n 0, 1), (722, .iload 4, 2), (724, .iconst 3, 1), (725, .iadd, 1), (726, .iaload, 1), (727, .invokevirtual 82, 3), (730, .aload_n 2, 1), (731, .aload_n 0, 1), (732, .iload 4, 2), (734, .iconst 1, 1), (735, .iadd, 1)]
def cdL46 : List (Nat × Instr × Nat) := [(736, .iaload, 1), (737, .aload_n 0, 1), (738, .iload 4, 2), (740, .iconst 2, 1), (741, .iadd, 1), (742, .iaload, 1), (743, .aload_n 0, 1), (744, .iload 4, 2), (746, .iconst 3, 1), (747, .iadd, 1), (748, .iaload, 1), (749, .invokevirtual 85, 3)]
def cdL47 : List (Nat × Instr × Nat) := [(752, .if_icmp .eq 463, 3), (755, .iconst 0, 1), (756, .ireturn, 1), (757, .aload_n 1, 1), (758, .aload_n 0, 1), (759, .iload 4, 2), (761, .iconst 1, 1), (762, .iadd, 1), (763, .iaload, 1), (764, .invokevirtual 86, 3), (767, .aload_n 2, 1)]
def cdL48 : List (Nat × Instr × Nat) := [(768, .aload_n 0, 1), (769, .iload 4, 2), (771, .iconst 1, 1), (772, .iadd, 1), (773, .iaload, 1), (774, .invokevirtual 89, 3), (777, .if_icmp .eq 438, 3), (780, .iconst 0, 1), (781, .ireturn, 1), (782, .aload_n 1, 1), (783, .aload_n 0, 1)]
def cdL49 : List (Nat × Instr × Nat) := [(784, .iload 4, 2), (786, .iconst 1, 1), (787, .iadd, 1), (788, .iaload, 1), (789, .invokevirtual 90, 3), (792, .aload_n 2, 1), (793, .aload_n 0, 1), (794, .iload 4, 2), (796, .iconst 1, 1), (797, .iadd, 1), (798, .iaload, 1), (799, .invokevirtual 93, 3)]
def cdL50 : List (Nat × Instr × Nat) := [(802, .if_icmp .eq 413, 3), (805, .iconst 0, 1), (806, .ireturn, 1), (807, .aload_n 1, 1), (808, .invokevirtual 94, 3), (811, .aload_n 2, 1), (812, .invokevirtual 97, 3), (815, .if_icmp .eq 400, 3)]
def cdL51 : List (Nat × Instr × Nat) := [(818, .iconst 0, 1), (819, .ireturn, 1), (820, .aload_n 1, 1), (821, .aload_n 0, 1), (822, .iload 4, 2), (824, .iconst 1, 1), (825, .iadd, 1), (826, .iaload, 1), (827, .invokevirtual 98, 3), (830, .aload_n 2, 1), (831, .aload_n 0, 1)]
def cdL52 : List (Nat × Instr × Nat) := [(832, .iload 4, 2), (834, .iconst 1, 1), (835, .iadd, 1), (836, .iaload, 1), (837, .invokevirtual 101, 3), (840, .if_icmp .eq 375, 3), (843, .iconst 0, 1), (844, .ireturn, 1), (845, .aload_n 1, 1), (846, .invokevirtual 102, 3)]
def cdL53 : List (Nat × Instr × Nat) := [(849, .aload_n 2, 1), (850, .invokevirtual 105, 3), (853, .if_icmp .eq 362, 3), (856, .iconst 0, 1), (857, .ireturn, 1), (858, .aload_n 1, 1), (859, .invokevirtual 106, 3), (862, .aload_n 2, 1), (863, .invokevirtual 109, 3)]
def cdL54 : List (Nat × Instr × Nat) := [(866, .if_icmp .eq 349, 3), (869, .iconst 0, 1), (870, .ireturn, 1), (871, .aload_n 1, 1), (872, .aload_n 0, 1), (873, .iload 4, 2), (875, .iconst 1, 1), (876, .iadd, 1), (877, .iaload, 1), (878, .aload_n 0, 1), (879, .iload 4, 2)]
def cdL55 : List (Nat × Instr × Nat) := [(881, .iconst 2, 1), (882, .iadd, 1), (883, .iaload, 1), (884, .aload_n 0, 1), (885, .iload 4, 2), (887, .iconst 3, 1), (888, .iadd, 1), (889, .iaload, 1), (890, .invokevirtual 110, 3), (893, .aload_n 2, 1), (894, .aload_n 0, 1), (895, .iload 4, 2)]
def cdL56 : List (Nat × Instr × Nat) := [(897, .iconst 1, 1), (898, .iadd, 1), (899, .iaload, 1), (900, .aload_n 0, 1), (901, .iload 4, 2), (903, .iconst 2, 1), (904, .iadd, 1), (905, .iaload, 1), (906, .aload_n 0, 1), (907, .iload 4, 2), (909, .iconst 3, 1), (910, .iadd, 1), (911, .iaload, 1)]
def cdL57 : List (Nat × Instr × Nat) := [(912, .invokevirtual 113, 3), (915, .if_icmp .eq 300, 3), (918, .iconst 0, 1), (919, .ireturn, 1), (920, .aload_n 1, 1), (921, .aload_n 0, 1), (922, .iload 4, 2), (924, .iconst 1, 1), (925, .iadd, 1), (926, .iaload, 1), (927, .invokevirtual 114, 3)]
def cdL58 : List (Nat × Instr × Nat) := [(930, .aload_n 2, 1), (931, .aload_n 0, 1), (932, .iload 4, 2), (934, .iconst 1, 1), (935, .iadd, 1), (936, .iaload, 1), (937, .invokevirtual 117, 3), (940, .if_icmp .eq 275, 3), (943, .iconst 0, 1)]
def cdL59 : List (Nat × Instr × Nat) := [(944, .ireturn, 1), (945, .aload_n 1, 1), (946, .invokevirtual 118, 3), (949, .aload_n 2, 1), (950, .invokevirtual 121, 3), (953, .if_icmp .eq 262, 3), (956, .iconst 0, 1), (957, .ireturn, 1), (958, .aload_n 1, 1), (959, .aload_n 0, 1)]
def cdL60 : List (Nat × Instr × Nat) := [(960, .iload 4, 2), (962, .iconst 1, 1), (963, .iadd, 1), (964, .iaload, 1), (965, .aload_n 0, 1), (966, .iload 4, 2), (968, .iconst 2, 1), (969, .iadd, 1), (970, .iaload, 1), (971, .invokevirtual 122, 3), (974, .aload_n 2, 1), (975, .aload_n 0, 1)]
def cdL61 : List (Nat × Instr × Nat) := [(976, .iload 4, 2), (978, .iconst 1, 1), (979, .iadd, 1), (980, .iaload, 1), (981, .aload_n 0, 1), (982, .iload 4, 2), (984, .iconst 2, 1), (985, .iadd, 1), (986, .iaload, 1), (987, .invokevirtual 125, 3), (990, .if_icmp .eq 225, 3)]
def cdL62 : List (Nat × Instr × Nat) := [(993, .iconst 0, 1), (994, .ireturn, 1), (995, .aload_n 1, 1), (996, .aload_n 0, 1), (997, .iload 4, 2), (999, .iconst 1, 1), (1000, .iadd, 1), (1001, .iaload, 1), (1002, .invokevirtual 126, 3), (1005, .aload_n 2, 1), (1006, .aload_n 0, 1), (1007, .iload 4, 2)]
def cdL63 : List (Nat × Instr × Nat) := [(1009, .iconst 1, 1), (1010, .iadd, 1), (1011, .iaload, 1), (1012, .invokevirtual 129, 3), (1015, .if_icmp .eq 200, 3), (1018, .iconst 0, 1), (1019, .ireturn, 1), (1020, .aload_n 1, 1), (1021, .aload_n 0, 1), (1022, .iload 4, 2)]
def cdL64 : List (Nat × Instr × Nat) := [(1024, .iconst 1, 1), (1025, .iadd, 1), (1026, .iaload, 1), (1027, .aload_n 0, 1), (1028, .iload 4, 2), (1030, .iconst 2, 1), (1031, .iadd, 1), (1032, .iaload, 1), (1033, .invokevirtual 130, 3), (1036, .aload_n 2, 1), (1037, .aload_n 0, 1), (1038, .iload 4, 2)]
def cdL65 : List (Nat × Instr × Nat) := [(1040, .iconst 1, 1), (1041, .iadd, 1), (1042, .iaload, 1), (1043, .aload_n 0, 1), (1044, .iload 4, 2), (1046, .iconst 2, 1), (1047, .iadd, 1), (1048, .iaload, 1), (1049, .invokevirtual 133, 3), (1052, .if_icmp .eq 163, 3), (1055, .iconst 0, 1)]
def cdL66 : List (Nat × Instr × Nat) := [(1056, .ireturn, 1), (1057, .aload_n 1, 1), (1058, .aload_n 0, 1), (1059, .iload 4, 2), (1061, .iconst 1, 1), (1062, .iadd, 1), (1063, .iaload, 1), (1064, .invokevirtual 134, 3), (1067, .aload_n 2, 1), (1068, .aload_n 0, 1), (1069, .iload 4, 2), (1071, .iconst 1, 1)]
def cdL67 : List (Nat × Instr × Nat) := [(1072, .iadd, 1), (1073, .iaload, 1), (1074, .invokevirtual 137, 3), (1077, .if_icmp .eq 138, 3), (1080, .iconst 0, 1), (1081, .ireturn, 1), (1082, .aload_n 1, 1), (1083, .aload_n 0, 1), (1084, .iload 4, 2), (1086, .iconst 1, 1), (1087, .iadd, 1)]
def cdL68 : List (Nat × Instr × Nat) := [(1088, .iaload, 1), (1089, .aload_n 0, 1), (1090, .iload 4, 2), (1092, .iconst 2, 1), (1093, .iadd, 1), (1094, .iaload, 1), (1095, .i2l, 1), (1096, .bipush 32, 2), (1098, .lshl, 1), (1099, .aload_n 0, 1), (1100, .iload 4, 2), (1102, .iconst 3, 1), (1103, .iadd, 1)]
def cdL69 : List (Nat × Instr × Nat) := [(1104, .iaload, 1), (1105, .i2l, 1), (1106, .ldc2_w 138, 3), (1109, .land, 1), (1110, .lor, 1), (1111, .invokevirtual 140, 3), (1114, .aload_n 2, 1), (1115, .aload_n 0, 1), (1116, .iload 4, 2), (1118, .iconst 1, 1), (1119, .iadd, 1)]
def cdL70 : List (Nat × Instr × Nat) := [(1120, .iaload, 1), (1121, .aload_n 0, 1), (1122, .iload 4, 2), (1124, .iconst 2, 1), (1125, .iadd, 1), (1126, .iaload, 1), (1127, .i2l, 1), (1128, .bipush 32, 2), (1130, .lshl, 1), (1131, .aload_n 0, 1), (1132, .iload 4, 2), (1134, .iconst 3, 1), (1135, .iadd, 1)]
def cdL71 : List (Nat × Instr × Nat) := [(1136, .iaload, 1), (1137, .i2l, 1), (1138, .ldc2_w 138, 3), (1141, .land, 1), (1142, .lor, 1), (1143, .invokevirtual 144, 3), (1146, .if_icmp .eq 69, 3), (1149, .iconst 0, 1), (1150, .ireturn, 1), (1151, .aload_n 1, 1)]
def cdL72 : List (Nat × Instr × Nat) := [(1152, .invokevirtual 145, 3), (1155, .aload_n 2, 1), (1156, .invokevirtual 148, 3), (1159, .if_icmp .eq 56, 3), (1162, .iconst 0, 1), (1163, .ireturn, 1), (1164, .aload_n 1, 1), (1165, .invokevirtual 149, 3)]
def cdL73 : List (Nat × Instr × Nat) := [(1168, .aload_n 2, 1), (1169, .invokevirtual 152, 3), (1172, .if_icmp .eq 43, 3), (1175, .iconst 0, 1), (1176, .ireturn, 1), (1177, .aload_n 1, 1), (1178, .invokevirtual 153, 3), (1181, .aload_n 2, 1), (1182, .invokevirtual 156, 3)]
def cdL74 : List (Nat × Instr × Nat) := [(1185, .if_icmp .eq 30, 3), (1188, .iconst 0, 1), (1189, .ireturn, 1), (1190, .aload_n 1, 1), (1191, .aload_n 0, 1), (1192, .iload 4, 2), (1194, .iconst 1, 1), (1195, .iadd, 1), (1196, .iaload, 1), (1197, .invokevirtual 157, 3)]
def cdL75 : List (Nat × Instr × Nat) := [(1200, .aload_n 2, 1), (1201, .aload_n 0, 1), (1202, .iload 4, 2), (1204, .iconst 1, 1), (1205, .iadd, 1), (1206, .iaload, 1), (1207, .invokevirtual 160, 3), (1210, .if_icmp .eq 5, 3), (1213, .iconst 0, 1), (1214, .ireturn, 1), (1215, .iinc 4 6, 3)]
def cdL76 : List (Nat × Instr × Nat) := [(1218, .goto (-1195), 3), (1221, .iconst 1, 1), (1222, .ireturn, 1)]
set_option maxRecDepth 100000 in
theorem cdLk0 : ∀ c ∈ [cdL0, cdL1, cdL2, cdL3, cdL4, cdL5, cdL6, cdL7], ∀ e ∈ c, decode code e.1 = .ok (e.2.1, e.2.2) := by decide +kernel
set_option maxRecDepth 100000 in
theorem cdLk1 : ∀ c ∈ [cdL8, cdL9, cdL10, cdL11, cdL12, cdL13, cdL14, cdL15], ∀ e ∈ c, decode code e.1 = .ok (e.2.1, e.2.2) := by decide +kernel
set_option maxRecDepth 100000 in
theorem cdLk2 : ∀ c ∈ [cdL16, cdL17, cdL18, cdL19, cdL20, cdL21, cdL22, cdL23], ∀ e ∈ c, decode code e.1 = .ok (e.2.1, e.2.2) := by decide +kernel
set_option maxRecDepth 100000 in
theorem cdLk3 : ∀ c ∈ [cdL24, cdL25, cdL26, cdL27, cdL28, cdL29, cdL30, cdL31], ∀ e ∈ c, decode code e.1 = .ok (e.2.1, e.2.2) := by decide +kernel
set_option maxRecDepth 100000 in
theorem cdLk4 : ∀ c ∈ [cdL32, cdL33, cdL34, cdL35, cdL36, cdL37, cdL38, cdL39], ∀ e ∈ c, decode code e.1 = .ok (e.2.1, e.2.2) := by decide +kernel
set_option maxRecDepth 100000 in
theorem cdLk5 : ∀ c ∈ [cdL40, cdL41, cdL42, cdL43, cdL44, cdL45, cdL46, cdL47], ∀ e ∈ c, decode code e.1 = .ok (e.2.1, e.2.2) := by decide +kernel
set_option maxRecDepth 100000 in
theorem cdLk6 : ∀ c ∈ [cdL48, cdL49, cdL50, cdL51, cdL52, cdL53, cdL54, cdL55], ∀ e ∈ c, decode code e.1 = .ok (e.2.1, e.2.2) := by decide +kernel
set_option maxRecDepth 100000 in
theorem cdLk7 : ∀ c ∈ [cdL56, cdL57, cdL58, cdL59, cdL60, cdL61, cdL62, cdL63], ∀ e ∈ c, decode code e.1 = .ok (e.2.1, e.2.2) := by decide +kernel
set_option maxRecDepth 100000 in
theorem cdLk8 : ∀ c ∈ [cdL64, cdL65, cdL66, cdL67, cdL68, cdL69, cdL70, cdL71], ∀ e ∈ c, decode code e.1 = .ok (e.2.1, e.2.2) := by decide +kernel
set_option maxRecDepth 100000 in
theorem cdLk9 : ∀ c ∈ [cdL72, cdL73, cdL74, cdL75, cdL76], ∀ e ∈ c, decode code e.1 = .ok (e.2.1, e.2.2) := by decide +kernel
def cdL : PC := [cdL0, cdL1, cdL2, cdL3, cdL4, cdL5, cdL6, cdL7, cdL8, cdL9, cdL10, cdL11, cdL12, cdL13, cdL14, cdL15, cdL16, cdL17, cdL18, cdL19, cdL20, cdL21, cdL22, cdL23, cdL24, cdL25, cdL26, cdL27, cdL28, cdL29, cdL30, cdL31, cdL32, cdL33, cdL34, cdL35, cdL36, cdL37, cdL38, cdL39, cdL40, cdL41, cdL42, cdL43, cdL44, cdL45, cdL46, cdL47, cdL48, cdL49, cdL50, cdL51, cdL52, cdL53, cdL54, cdL55, cdL56, cdL57, cdL58, cdL59, cdL60, cdL61, cdL62, cdL63, cdL64, cdL65, cdL66, cdL67, cdL68, cdL69, cdL70, cdL71, cdL72, cdL73, cdL74, cdL75, cdL76]
theorem cdL_ok : ∀ c ∈ cdL, ∀ e ∈ c, decode code e.1 = .ok (e.2.1, e.2.2) := by
  intro c hc
  have hc2 : c ∈ [cdL0, cdL1, cdL2, cdL3, cdL4, cdL5, cdL6, cdL7] ++ ([cdL8, cdL9, cdL10, cdL11, cdL12, cdL13, cdL14, cdL15] ++ ([cdL16, cdL17, cdL18, cdL19, cdL20, cdL21, cdL22, cdL23] ++ ([cdL24, cdL25, cdL26, cdL27, cdL28, cdL29, cdL30, cdL31] ++ ([cdL32, cdL33, cdL34, cdL35, cdL36, cdL37, cdL38, cdL39] ++ ([cdL40, cdL41, cdL42, cdL43, cdL44, cdL45, cdL46, cdL47] ++ ([cdL48, cdL49, cdL50, cdL51, cdL52, cdL53, cdL54, cdL55] ++ ([cdL56, cdL57, cdL58, cdL59, cdL60, cdL61, cdL62, cdL63] ++ ([cdL64, cdL65, cdL66, cdL67, cdL68, cdL69, cdL70, cdL71] ++ ([cdL72, cdL73, cdL74, cdL75, cdL76]))))))))) := hc
  rcases List.mem_append.mp hc2 with h | hc2
  · exact cdLk0 c h
  rcases List.mem_append.mp hc2 with h | hc2
  · exact cdLk1 c h
  rcases List.mem_append.mp hc2 with h | hc2
  · exact cdLk2 c h
  rcases List.mem_append.mp hc2 with h | hc2
  · exact cdLk3 c h
  rcases List.mem_append.mp hc2 with h | hc2
  · exact cdLk4 c h
  rcases List.mem_append.mp hc2 with h | hc2
  · exact cdLk5 c h
  rcases List.mem_append.mp hc2 with h | hc2
  · exact cdLk6 c h
  rcases List.mem_append.mp hc2 with h | hc2
  · exact cdLk7 c h
  rcases List.mem_append.mp hc2 with h | hc2
  · exact cdLk8 c h
  exact cdLk9 c hc2
set_option maxRecDepth 100000 in
theorem cdL_len : ∀ c ∈ cdL, ∀ e ∈ c, lenOK e.2.1 e.2.2 = true := by decide +kernel
/-! the law, walked by rules for any judgement that steps can be taken off from -/
def Bk (K : PK) (X : Nat → PL → List Value → PG → Prop) : Prop :=
  (∀ pc L st g ins len S, pfetch cdL pc = some (ins, len) → pstep 13 false K ins pc L st g = some S → X S.1 S.2.1 S.2.2.1 S.2.2.2 → X pc L st g) ∧
  (∀ pc L st g ins len k as rest rv g1, pfetch cdL pc = some (ins, len) → pcall 13 ins st g = some (k, as, rest) → CallR K 60 k as g rv g1 → X (pc + 3) L (rv.toList ++ rest) g1 → X pc L st g)
section XR
variable {K : PK} {X : Nat → PL → List Value → PG → Prop} {pc : Nat} {L : PL} {st : List Value} {g : PG}
theorem Bk.seg (H : Bk K X) : ∀ (n : Nat) {pc : Nat} {L : PL} {st : List Value} {g : PG} {pc' : Nat} {L' : PL} {st' : List Value} {g1 : PG}, psteps 13 false K cdL n pc L st g = some (pc', L', st', g1) → X pc' L' st' g1 → X pc L st g
  | 0, _, _, _, _, _, _, _, _, h, k => by cases h; exact k
  | n + 1, pc, L, st, g, _, _, _, _, h, k => by
    unfold psteps at h
    cases hf : pfetch cdL pc with
    | none => rw [hf] at h; cases h
    | some il =>
      obtain ⟨ins, len⟩ := il
      rw [hf] at h
      dsimp only at h
      cases hs : pstep 13 false K ins pc L st g with
      | none => rw [hs] at h; cases h
      | some S1 =>
        obtain ⟨a1, a2, a3, a4⟩ := S1
        rw [hs] at h
        exact H.1 _ _ _ _ _ _ _ hf hs (Bk.seg H n h k)
theorem Bk.to (_ : Bk K X) {L' : PL} {st' : List Value} (hL : L = L') (hs : st = st') (k : X pc L' st' g) : X pc L st g := by rw [hL, hs]; exact k
theorem Bk.call (H : Bk K X) {ins : Instr} {len k : Nat} {as rest : List Value} {rv : Option Value} {g1 : PG} (hf : pfetch cdL pc = some (ins, len)) (hp : pcall 13 ins st g = some (k, as, rest)) (ho : CallR K 60 k as g rv g1) (kk : X (pc + 3) L (rv.toList ++ rest) g1) : X pc L st g := H.2 _ _ _ _ _ _ _ _ _ _ _ hf hp ho kk
theorem Bk.callV (H : Bk K X) {len i n a ci k : Nat} {fs r : List Value} {l1 : List (Nat × Nat)} {rv : Option Value} {g1 : PG} (hf : pfetch cdL pc = some (.invokevirtual i, len)) (h1 : pinvV 13 i = some (n, l1)) (h2 : st.drop n = .ref a :: r) (h3 : g.1[a]? = some (.inr (ci, fs))) (h4 : alook ci l1 = some k) (h5 : Nat.ble (pwords r) 8 = true) (ho : CallR K 60 k (.ref a :: (st.take n).reverse) g rv g1) (kk : X (pc + 3) L (rv.toList ++ r) g1) : X pc L st g := by
  refine H.call (ins := .invokevirtual i) hf ?_ ho kk
  simp only [pcall, h1, h2, h3, h4, h5, cond_true]
theorem Bk.kald (H : Bk K X) {len a n : Nat} {f : Nat → Int32} {z : Int} {x : Int32} (hf : pfetch cdL pc = some (.iaload, len)) (hx : x = iI z) (ha : K a = some (n, f)) (hi : 0 ≤ z ∧ z < n) (hn : n < 2147483648) (k : X (pc + 1) L (.int (f z.toNat) :: st) g) : X pc L (.int x :: .retAddr a :: st) g := by
  subst hx
  refine H.1 _ _ _ _ _ _ (pc + 1, L, .int (f z.toNat) :: st, g) hf ?_ k
  show piald K (pc + 1) L g (.int (iI z) :: .retAddr a :: st) = _
  simp only [piald, ha, pin_z hi hn, iI_clamp (show 0 ≤ z ∧ z < 2147483648 by omega), cond_true]
theorem Bk.kalen (H : Bk K X) {len a n : Nat} {f : Nat → Int32} (hf : pfetch cdL pc = some (.arraylength, len)) (ha : K a = some (n, f)) (k : X (pc + 1) L (.int (iI n) :: st) g) : X pc L (.retAddr a :: st) g := by
  refine H.1 _ _ _ _ _ _ (pc + 1, L, .int (iI n) :: st, g) hf ?_ k
  show palen K (pc + 1) L g (.retAddr a :: st) = _
  simp only [palen, ha, iI_nI]
theorem Bk.if2 (H : Bk K X) {c : ClassFile.Cond} {off : Int} {len t : Nat} {x y : Int32} {a b : Int} (hf : pfetch cdL pc = some (.if_icmp c off, len)) (ht : ptgt pc off = some t) (hx : x = iI a) (hy : y = iI b) (ra : -2147483648 ≤ a ∧ a < 2147483648) (rb : -2147483648 ≤ b ∧ b < 2147483648) (k1 : zcmp c a b → X t L st g) (k2 : ¬ zcmp c a b → X (pc + 3) L st g) : X pc L (.int y :: .int x :: st) g := by
  subst hx hy
  cases h : icmp c (iI a) (iI b) with
  | true => exact H.1 _ _ _ _ _ _ (t, L, st, g) hf (by show (ptgt pc off).map _ = _; rw [ht, h]; rfl) (k1 ((icmp_z ra rb).mp h))
  | false => exact H.1 _ _ _ _ _ _ (pc + 3, L, st, g) hf (by show (ptgt pc off).map _ = _; rw [ht, h]; rfl) (k2 (fun q => by rw [(icmp_z ra rb).mpr q] at h; cases h))
/-- two answers that are one -/
theorem Bk.eq (H : Bk K X) {off : Int} {len t : Nat} {x : Int32} (hf : pfetch cdL pc = some (.if_icmp .eq off, len)) (ht : ptgt pc off = some t) (k1 : X t L st g) : X pc L (.int x :: .int x :: st) g := by
  refine H.1 _ _ _ _ _ _ (t, L, st, g) hf ?_ k1
  show (ptgt pc off).map (fun t => (bif icmp .eq x x then t else pc + 3, L, st, g)) = _
  rw [ht, show icmp .eq x x = true from decide_eq_true rfl]
  rfl
theorem Bk.tsw (H : Bk K X) {dd lo hi : Int} {offs : Array Int} {len t : Nat} {x : Int32} {z o : Int} (hf : pfetch cdL pc = some (.tableswitch dd lo hi offs, len)) (hx : x = iI z) (rz : -2147483648 ≤ z ∧ z < 2147483648) (ho : (if z < lo ∨ hi < z then some dd else offs[(z - lo).toNat]?) = some o) (ht : ptgt pc o = some t) (k : X t L st g) : X pc L (.int x :: st) g := by
  subst hx
  refine H.1 _ _ _ _ _ _ (t, L, st, g) hf ?_ k
  show ptsw dd lo hi offs pc L g (.int (iI z) :: st) = _
  simp only [ptsw, iI_toInt rz, ho, Option.bind, ht, Option.map]
end XR
def Lw (i : Int) (e5 e6 : Option Value) : PL := [some (.retAddr 19), some (.ref 0), some (.ref 80), some (.ref 117), some (.int (iI i)), e5, e6]
section XL
variable {K : PK} {X : Nat → PL → List Value → PG → Prop} {pc : Nat} {st : List Value} {g : PG} {N : Nat} {f : Nat → Int32} {i k : Int} {e5 e6 : Option Value}
/-- an int of the script -/
theorem Bk.ld (H : Bk K X) (hK : K 19 = some (N, f)) (hN : N ≤ 3072) {len pc' : Nat} (h : psteps 13 false K cdL 4 pc (Lw i e5 e6) st g = some (pc', Lw i e5 e6, .int (iI i + iI k) :: .retAddr 19 :: st, g)) (hf : pfetch cdL pc' = some (.iaload, len)) (hb : 0 ≤ i + k ∧ i + k < N) (kx : X (pc' + 1) (Lw i e5 e6) (.int (f (i + k).toNat) :: st) g) : X pc (Lw i e5 e6) st g := H.seg 4 h (H.kald hf (iI_add i k) hK hb (by omega) kx)
end XL
theorem lw_feed {K : PK} {X : Nat → PL → List Value → PG → Prop} (H : Bk K X) {N : Nat} {f : Nat → Int32} (hK : K 19 = some (N, f)) (hN : N ≤ 3072) {n : Nat} {g : PG} (hI : INV n g) (hn : n ≤ 600) {i : Int} (hi : 0 ≤ i ∧ i + 6 ≤ N) {e5 e6 : Option Value} (hx : ∀ g', INV (n + 1) g' → X 1215 (Lw i e5 e6) [] g') : X 184 (Lw i e5 e6) [] g := by
  obtain ⟨z1, e7, q1⟩ := iI_ex (f (i + 1).toNat)
  obtain ⟨z2, e8, q2⟩ := iI_ex (f (i + 2).toNat)
  obtain ⟨z3, e9, q3⟩ := iI_ex (f (i + 3).toNat)
  obtain ⟨z4, e10, q4⟩ := iI_ex (f (i + 4).toNat)
  obtain ⟨z5, e11, q5⟩ := iI_ex (f (i + 5).toNat)
  have hB := bo_feed (K := K) hI q1 q2 q3 q4 q5
  obtain ⟨v, g1, g2, c1, c2, ⟨fs, hfs⟩, hI2⟩ := hB
  obtain ⟨sc, ar, tx, oc, rl, ou, tl, q, tp, nw, nb, W, B, Z, Zk, rs, J, r, e, n0, rfl, -⟩ := hI
  rw [← e7] at c1 c2
  rw [← e8] at c1 c2
  rw [← e9] at c1 c2
  rw [← e10] at c1 c2
  rw [← e11] at c1 c2
  refine H.seg 1 (pc' := 185) (L' := Lw i e5 e6) (st' := [.ref 0]) (g1 := _) rfl ?_
  refine H.ld hK hN (k := 1) (pc' := 190) rfl rfl (by omega) ?_
  refine H.ld hK hN (k := 2) (pc' := 196) rfl rfl (by omega) ?_
  refine H.ld hK hN (k := 3) (pc' := 202) rfl rfl (by omega) ?_
  refine H.ld hK hN (k := 4) (pc' := 208) rfl rfl (by omega) ?_
  refine H.ld hK hN (k := 5) (pc' := 214) rfl rfl (by omega) ?_
  refine H.callV rfl rfl rfl rfl rfl rfl c1 ?_
  refine H.seg 1 (pc' := 219) (L' := Lw i e5 e6) (st' := [.ref 80, .int (iI v)]) (g1 := _) rfl ?_
  refine H.ld hK hN (k := 1) (pc' := 224) rfl rfl (by omega) ?_
  refine H.ld hK hN (k := 2) (pc' := 230) rfl rfl (by omega) ?_
  refine H.ld hK hN (k := 3) (pc' := 236) rfl rfl (by omega) ?_
  refine H.ld hK hN (k := 4) (pc' := 242) rfl rfl (by omega) ?_
  refine H.ld hK hN (k := 5) (pc' := 248) rfl rfl (by omega) ?_
  refine H.callV rfl rfl rfl hfs rfl rfl c2 ?_
  refine H.eq (t := 1215) rfl rfl ?_
  exact hx g2 hI2
theorem lw_end {K : PK} {X : Nat → PL → List Value → PG → Prop} (H : Bk K X) {N : Nat} {f : Nat → Int32} (hK : K 19 = some (N, f)) (hN : N ≤ 3072) {n : Nat} {g : PG} (hI : INV n g) (hn : n ≤ 600) {i : Int} (hi : 0 ≤ i ∧ i + 6 ≤ N) {e5 e6 : Option Value} (hx : ∀ g', INV (n + 1) g' → X 1215 (Lw i e5 e6) [] g') : X 257 (Lw i e5 e6) [] g := by
  obtain ⟨z1, e7, q1⟩ := iI_ex (f (i + 1).toNat)
  have hB := bo_end (K := K) hI q1
  obtain ⟨v, g1, g2, c1, c2, ⟨fs, hfs⟩, hI2⟩ := hB
  obtain ⟨sc, ar, tx, oc, rl, ou, tl, q, tp, nw, nb, W, B, Z, Zk, rs, J, r, e, n0, rfl, -⟩ := hI
  rw [← e7] at c1 c2
  refine H.seg 1 (pc' := 258) (L' := Lw i e5 e6) (st' := [.ref 0]) (g1 := _) rfl ?_
  refine H.ld hK hN (k := 1) (pc' := 263) rfl rfl (by omega) ?_
  refine H.callV rfl rfl rfl rfl rfl rfl c1 ?_
  refine H.seg 1 (pc' := 268) (L' := Lw i e5 e6) (st' := [.ref 80, .int (iI v)]) (g1 := _) rfl ?_
  refine H.ld hK hN (k := 1) (pc' := 273) rfl rfl (by omega) ?_
  refine H.callV rfl rfl rfl hfs rfl rfl c2 ?_
  refine H.eq (t := 1215) rfl rfl ?_
  exact hx g2 hI2
theorem lw_fault {K : PK} {X : Nat → PL → List Value → PG → Prop} (H : Bk K X) (hKK : KOK K) {N : Nat} {f : Nat → Int32} (hK : K 19 = some (N, f)) (hN : N ≤ 3072) {n : Nat} {g : PG} (hI : INV n g) (hn : n ≤ 600) {i : Int} (hi : 0 ≤ i ∧ i + 6 ≤ N) {e5 e6 : Option Value} (hx : ∀ g', INV (n + 1) g' → X 1215 (Lw i e5 e6) [] g') : X 282 (Lw i e5 e6) [] g := by
  obtain ⟨z1, e7, q1⟩ := iI_ex (f (i + 1).toNat)
  have hB := bo_fault (K := K) hKK hI q1
  obtain ⟨v, g1, g2, c1, c2, ⟨fs, hfs⟩, hI2⟩ := hB
  obtain ⟨sc, ar, tx, oc, rl, ou, tl, q, tp, nw, nb, W, B, Z, Zk, rs, J, r, e, n0, rfl, -⟩ := hI
  rw [← e7] at c1 c2
  refine H.seg 1 (pc' := 283) (L' := Lw i e5 e6) (st' := [.ref 0]) (g1 := _) rfl ?_
  refine H.ld hK hN (k := 1) (pc' := 288) rfl rfl (by omega) ?_
  refine H.callV rfl rfl rfl rfl rfl rfl c1 ?_
  refine H.seg 1 (pc' := 293) (L' := Lw i e5 e6) (st' := [.ref 80, .int (iI v)]) (g1 := _) rfl ?_
  refine H.ld hK hN (k := 1) (pc' := 298) rfl rfl (by omega) ?_
  refine H.callV rfl rfl rfl hfs rfl rfl c2 ?_
  refine H.eq (t := 1215) rfl rfl ?_
  exact hx g2 hI2
theorem lw_text {K : PK} {X : Nat → PL → List Value → PG → Prop} (H : Bk K X) (hKK : KOK K) {N : Nat} {f : Nat → Int32} (hK : K 19 = some (N, f)) (hN : N ≤ 3072) {n : Nat} {g : PG} (hI : INV n g) (hn : n ≤ 600) {i : Int} (hi : 0 ≤ i ∧ i + 6 ≤ N) {e5 e6 : Option Value} (hx : ∀ g', INV (n + 1) g' → X 1215 (Lw i e5 e6) [] g') : X 307 (Lw i e5 e6) [] g := by
  obtain ⟨z1, e7, q1⟩ := iI_ex (f (i + 1).toNat)
  have hB := bo_text (K := K) hKK hI q1
  obtain ⟨v, g1, g2, c1, c2, ⟨fs, hfs⟩, hI2⟩ := hB
  obtain ⟨sc, ar, tx, oc, rl, ou, tl, q, tp, nw, nb, W, B, Z, Zk, rs, J, r, e, n0, rfl, -⟩ := hI
  rw [← e7] at c1 c2
  refine H.seg 1 (pc' := 308) (L' := Lw i e5 e6) (st' := [.ref 0]) (g1 := _) rfl ?_
  refine H.ld hK hN (k := 1) (pc' := 313) rfl rfl (by omega) ?_
  refine H.callV rfl rfl rfl rfl rfl rfl c1 ?_
  refine H.seg 1 (pc' := 318) (L' := Lw i e5 e6) (st' := [.ref 80, .int (iI v)]) (g1 := _) rfl ?_
  refine H.ld hK hN (k := 1) (pc' := 323) rfl rfl (by omega) ?_
  refine H.callV rfl rfl rfl hfs rfl rfl c2 ?_
  refine H.eq (t := 1215) rfl rfl ?_
  exact hx g2 hI2
theorem lw_window {K : PK} {X : Nat → PL → List Value → PG → Prop} (H : Bk K X) {N : Nat} {f : Nat → Int32} (hK : K 19 = some (N, f)) (hN : N ≤ 3072) {n : Nat} {g : PG} (hI : INV n g) (hn : n ≤ 600) {i : Int} (hi : 0 ≤ i ∧ i + 6 ≤ N) {e5 e6 : Option Value} (hx : ∀ g', INV (n + 1) g' → X 1215 (Lw i e5 e6) [] g') : X 400 (Lw i e5 e6) [] g := by
  obtain ⟨z1, e7, q1⟩ := iI_ex (f (i + 1).toNat)
  obtain ⟨z2, e8, q2⟩ := iI_ex (f (i + 2).toNat)
  have hB := bo_window (K := K) hI q1 q2
  obtain ⟨v, g1, g2, c1, c2, ⟨fs, hfs⟩, hI2⟩ := hB
  obtain ⟨sc, ar, tx, oc, rl, ou, tl, q, tp, nw, nb, W, B, Z, Zk, rs, J, r, e, n0, rfl, -⟩ := hI
  rw [← e7] at c1 c2
  rw [← e8] at c1 c2
  refine H.seg 1 (pc' := 401) (L' := Lw i e5 e6) (st' := [.ref 0]) (g1 := _) rfl ?_
  refine H.ld hK hN (k := 1) (pc' := 406) rfl rfl (by omega) ?_
  refine H.ld hK hN (k := 2) (pc' := 412) rfl rfl (by omega) ?_
  refine H.callV rfl rfl rfl rfl rfl rfl c1 ?_
  refine H.seg 1 (pc' := 417) (L' := Lw i e5 e6) (st' := [.ref 80, .int (iI v)]) (g1 := _) rfl ?_
  refine H.ld hK hN (k := 1) (pc' := 422) rfl rfl (by omega) ?_
  refine H.ld hK hN (k := 2) (pc' := 428) rfl rfl (by omega) ?_
  refine H.callV rfl rfl rfl hfs rfl rfl c2 ?_
  refine H.eq (t := 1215) rfl rfl ?_
  exact hx g2 hI2
theorem lw_law {K : PK} {X : Nat → PL → List Value → PG → Prop} (H : Bk K X) {N : Nat} {f : Nat → Int32} (hK : K 19 = some (N, f)) (hN : N ≤ 3072) {n : Nat} {g : PG} (hI : INV n g) (hn : n ≤ 600) {i : Int} (hi : 0 ≤ i ∧ i + 6 ≤ N) {e5 e6 : Option Value} (hx : ∀ g', INV (n + 1) g' → X 1215 (Lw i e5 e6) [] g') : X 437 (Lw i e5 e6) [] g := by
  obtain ⟨z1, e7, q1⟩ := iI_ex (f (i + 1).toNat)
  have hB := bo_law (K := K) hI q1
  obtain ⟨v, g1, g2, c1, c2, ⟨fs, hfs⟩, hI2⟩ := hB
  obtain ⟨sc, ar, tx, oc, rl, ou, tl, q, tp, nw, nb, W, B, Z, Zk, rs, J, r, e, n0, rfl, -⟩ := hI
  rw [← e7] at c1 c2
  refine H.seg 1 (pc' := 438) (L' := Lw i e5 e6) (st' := [.ref 0]) (g1 := _) rfl ?_
  refine H.ld hK hN (k := 1) (pc' := 443) rfl rfl (by omega) ?_
  refine H.callV rfl rfl rfl rfl rfl rfl c1 ?_
  refine H.seg 1 (pc' := 448) (L' := Lw i e5 e6) (st' := [.ref 80, .int (iI v)]) (g1 := _) rfl ?_
  refine H.ld hK hN (k := 1) (pc' := 453) rfl rfl (by omega) ?_
  refine H.callV rfl rfl rfl hfs rfl rfl c2 ?_
  refine H.eq (t := 1215) rfl rfl ?_
  exact hx g2 hI2
theorem lw_change {K : PK} {X : Nat → PL → List Value → PG → Prop} (H : Bk K X) (hKK : KOK K) {N : Nat} {f : Nat → Int32} (hK : K 19 = some (N, f)) (hN : N ≤ 3072) {n : Nat} {g : PG} (hI : INV n g) (hn : n ≤ 600) {i : Int} (hi : 0 ≤ i ∧ i + 6 ≤ N) {e5 e6 : Option Value} (hx : ∀ g', INV (n + 1) g' → X 1215 (Lw i e5 e6) [] g') : X 462 (Lw i e5 e6) [] g := by
  obtain ⟨z1, e7, q1⟩ := iI_ex (f (i + 1).toNat)
  obtain ⟨z2, e8, q2⟩ := iI_ex (f (i + 2).toNat)
  have hB := bo_change (K := K) hKK hI q1 q2
  obtain ⟨v, g1, g2, c1, c2, ⟨fs, hfs⟩, hI2⟩ := hB
  obtain ⟨sc, ar, tx, oc, rl, ou, tl, q, tp, nw, nb, W, B, Z, Zk, rs, J, r, e, n0, rfl, -⟩ := hI
  rw [← e7] at c1 c2
  rw [← e8] at c1 c2
  refine H.seg 1 (pc' := 463) (L' := Lw i e5 e6) (st' := [.ref 0]) (g1 := _) rfl ?_
  refine H.ld hK hN (k := 1) (pc' := 468) rfl rfl (by omega) ?_
  refine H.ld hK hN (k := 2) (pc' := 474) rfl rfl (by omega) ?_
  refine H.callV rfl rfl rfl rfl rfl rfl c1 ?_
  refine H.seg 1 (pc' := 479) (L' := Lw i e5 e6) (st' := [.ref 80, .int (iI v)]) (g1 := _) rfl ?_
  refine H.ld hK hN (k := 1) (pc' := 484) rfl rfl (by omega) ?_
  refine H.ld hK hN (k := 2) (pc' := 490) rfl rfl (by omega) ?_
  refine H.callV rfl rfl rfl hfs rfl rfl c2 ?_
  refine H.eq (t := 1215) rfl rfl ?_
  exact hx g2 hI2
theorem lw_rule {K : PK} {X : Nat → PL → List Value → PG → Prop} (H : Bk K X) {N : Nat} {f : Nat → Int32} (hK : K 19 = some (N, f)) (hN : N ≤ 3072) {n : Nat} {g : PG} (hI : INV n g) (hn : n ≤ 600) {i : Int} (hi : 0 ≤ i ∧ i + 6 ≤ N) {e5 e6 : Option Value} (hx : ∀ g', INV (n + 1) g' → X 1215 (Lw i e5 e6) [] g') : X 499 (Lw i e5 e6) [] g := by
  obtain ⟨z1, e7, q1⟩ := iI_ex (f (i + 1).toNat)
  obtain ⟨z2, e8, q2⟩ := iI_ex (f (i + 2).toNat)
  have hB := bo_rule (K := K) hI q1 q2
  obtain ⟨v, g1, g2, c1, c2, ⟨fs, hfs⟩, hI2⟩ := hB
  obtain ⟨sc, ar, tx, oc, rl, ou, tl, q, tp, nw, nb, W, B, Z, Zk, rs, J, r, e, n0, rfl, -⟩ := hI
  rw [← e7] at c1 c2
  rw [← e8] at c1 c2
  refine H.seg 1 (pc' := 500) (L' := Lw i e5 e6) (st' := [.ref 0]) (g1 := _) rfl ?_
  refine H.ld hK hN (k := 1) (pc' := 505) rfl rfl (by omega) ?_
  refine H.ld hK hN (k := 2) (pc' := 511) rfl rfl (by omega) ?_
  refine H.callV rfl rfl rfl rfl rfl rfl c1 ?_
  refine H.seg 1 (pc' := 516) (L' := Lw i e5 e6) (st' := [.ref 80, .int (iI v)]) (g1 := _) rfl ?_
  refine H.ld hK hN (k := 1) (pc' := 521) rfl rfl (by omega) ?_
  refine H.ld hK hN (k := 2) (pc' := 527) rfl rfl (by omega) ?_
  refine H.callV rfl rfl rfl hfs rfl rfl c2 ?_
  refine H.eq (t := 1215) rfl rfl ?_
  exact hx g2 hI2
theorem lw_reaches {K : PK} {X : Nat → PL → List Value → PG → Prop} (H : Bk K X) {N : Nat} {f : Nat → Int32} (hK : K 19 = some (N, f)) (hN : N ≤ 3072) {n : Nat} {g : PG} (hI : INV n g) (hn : n ≤ 600) {i : Int} (hi : 0 ≤ i ∧ i + 6 ≤ N) {e5 e6 : Option Value} (hx : ∀ g', INV (n + 1) g' → X 1215 (Lw i e5 e6) [] g') : X 536 (Lw i e5 e6) [] g := by
  obtain ⟨z1, e7, q1⟩ := iI_ex (f (i + 1).toNat)
  obtain ⟨z2, e8, q2⟩ := iI_ex (f (i + 2).toNat)
  have hB := bo_reaches (K := K) hI q1 q2
  obtain ⟨v, g1, g2, c1, c2, ⟨fs, hfs⟩, hI2⟩ := hB
  obtain ⟨sc, ar, tx, oc, rl, ou, tl, q, tp, nw, nb, W, B, Z, Zk, rs, J, r, e, n0, rfl, -⟩ := hI
  rw [← e7] at c1 c2
  rw [← e8] at c1 c2
  refine H.seg 1 (pc' := 537) (L' := Lw i e5 e6) (st' := [.ref 0]) (g1 := _) rfl ?_
  refine H.ld hK hN (k := 1) (pc' := 542) rfl rfl (by omega) ?_
  refine H.ld hK hN (k := 2) (pc' := 548) rfl rfl (by omega) ?_
  refine H.callV rfl rfl rfl rfl rfl rfl c1 ?_
  refine H.seg 1 (pc' := 553) (L' := Lw i e5 e6) (st' := [.ref 80, .int (iI v)]) (g1 := _) rfl ?_
  refine H.ld hK hN (k := 1) (pc' := 558) rfl rfl (by omega) ?_
  refine H.ld hK hN (k := 2) (pc' := 564) rfl rfl (by omega) ?_
  refine H.callV rfl rfl rfl hfs rfl rfl c2 ?_
  refine H.eq (t := 1215) rfl rfl ?_
  exact hx g2 hI2
theorem lw_told {K : PK} {X : Nat → PL → List Value → PG → Prop} (H : Bk K X) {N : Nat} {f : Nat → Int32} (hK : K 19 = some (N, f)) (hN : N ≤ 3072) {n : Nat} {g : PG} (hI : INV n g) (hn : n ≤ 600) {i : Int} (hi : 0 ≤ i ∧ i + 6 ≤ N) {e5 e6 : Option Value} (hx : ∀ g', INV (n + 1) g' → X 1215 (Lw i e5 e6) [] g') : X 573 (Lw i e5 e6) [] g := by
  obtain ⟨z1, e7, q1⟩ := iI_ex (f (i + 1).toNat)
  obtain ⟨z2, e8, q2⟩ := iI_ex (f (i + 2).toNat)
  obtain ⟨z3, e9, q3⟩ := iI_ex (f (i + 3).toNat)
  have hB := bo_told (K := K) hI q1 q2 q3
  obtain ⟨v, g1, g2, c1, c2, ⟨fs, hfs⟩, hI2⟩ := hB
  obtain ⟨sc, ar, tx, oc, rl, ou, tl, q, tp, nw, nb, W, B, Z, Zk, rs, J, r, e, n0, rfl, -⟩ := hI
  rw [← e7] at c1 c2
  rw [← e8] at c1 c2
  rw [← e9] at c1 c2
  refine H.seg 1 (pc' := 574) (L' := Lw i e5 e6) (st' := [.ref 0]) (g1 := _) rfl ?_
  refine H.ld hK hN (k := 1) (pc' := 579) rfl rfl (by omega) ?_
  refine H.ld hK hN (k := 2) (pc' := 585) rfl rfl (by omega) ?_
  refine H.ld hK hN (k := 3) (pc' := 591) rfl rfl (by omega) ?_
  refine H.callV rfl rfl rfl rfl rfl rfl c1 ?_
  refine H.seg 1 (pc' := 596) (L' := Lw i e5 e6) (st' := [.ref 80, .int (iI v)]) (g1 := _) rfl ?_
  refine H.ld hK hN (k := 1) (pc' := 601) rfl rfl (by omega) ?_
  refine H.ld hK hN (k := 2) (pc' := 607) rfl rfl (by omega) ?_
  refine H.ld hK hN (k := 3) (pc' := 613) rfl rfl (by omega) ?_
  refine H.callV rfl rfl rfl hfs rfl rfl c2 ?_
  refine H.eq (t := 1215) rfl rfl ?_
  exact hx g2 hI2
theorem lw_all {K : PK} {X : Nat → PL → List Value → PG → Prop} (H : Bk K X) {N : Nat} {f : Nat → Int32} (hK : K 19 = some (N, f)) (hN : N ≤ 3072) {n : Nat} {g : PG} (hI : INV n g) (hn : n ≤ 600) {i : Int} (hi : 0 ≤ i ∧ i + 6 ≤ N) {e5 e6 : Option Value} (hx : ∀ g', INV (n + 1) g' → X 1215 (Lw i e5 e6) [] g') : X 622 (Lw i e5 e6) [] g := by
  obtain ⟨z1, e7, q1⟩ := iI_ex (f (i + 1).toNat)
  obtain ⟨z2, e8, q2⟩ := iI_ex (f (i + 2).toNat)
  have hB := bo_all (K := K) hI q1 q2
  obtain ⟨v, g1, g2, c1, c2, ⟨fs, hfs⟩, hI2⟩ := hB
  obtain ⟨sc, ar, tx, oc, rl, ou, tl, q, tp, nw, nb, W, B, Z, Zk, rs, J, r, e, n0, rfl, -⟩ := hI
  rw [← e7] at c1 c2
  rw [← e8] at c1 c2
  refine H.seg 1 (pc' := 623) (L' := Lw i e5 e6) (st' := [.ref 0]) (g1 := _) rfl ?_
  refine H.ld hK hN (k := 1) (pc' := 628) rfl rfl (by omega) ?_
  refine H.ld hK hN (k := 2) (pc' := 634) rfl rfl (by omega) ?_
  refine H.callV rfl rfl rfl rfl rfl rfl c1 ?_
  refine H.seg 1 (pc' := 639) (L' := Lw i e5 e6) (st' := [.ref 80, .int (iI v)]) (g1 := _) rfl ?_
  refine H.ld hK hN (k := 1) (pc' := 644) rfl rfl (by omega) ?_
  refine H.ld hK hN (k := 2) (pc' := 650) rfl rfl (by omega) ?_
  refine H.callV rfl rfl rfl hfs rfl rfl c2 ?_
  refine H.eq (t := 1215) rfl rfl ?_
  exact hx g2 hI2
theorem lw_child {K : PK} {X : Nat → PL → List Value → PG → Prop} (H : Bk K X) {N : Nat} {f : Nat → Int32} (hK : K 19 = some (N, f)) (hN : N ≤ 3072) {n : Nat} {g : PG} (hI : INV n g) (hn : n ≤ 600) {i : Int} (hi : 0 ≤ i ∧ i + 6 ≤ N) {e5 e6 : Option Value} (hx : ∀ g', INV (n + 1) g' → X 1215 (Lw i e5 e6) [] g') : X 659 (Lw i e5 e6) [] g := by
  obtain ⟨z1, e7, q1⟩ := iI_ex (f (i + 1).toNat)
  obtain ⟨z2, e8, q2⟩ := iI_ex (f (i + 2).toNat)
  obtain ⟨z3, e9, q3⟩ := iI_ex (f (i + 3).toNat)
  have hB := bo_child (K := K) hI q1 q2 q3
  obtain ⟨v, g1, g2, c1, c2, ⟨fs, hfs⟩, hI2⟩ := hB
  obtain ⟨sc, ar, tx, oc, rl, ou, tl, q, tp, nw, nb, W, B, Z, Zk, rs, J, r, e, n0, rfl, -⟩ := hI
  rw [← e7] at c1 c2
  rw [← e8] at c1 c2
  rw [← e9] at c1 c2
  refine H.seg 1 (pc' := 660) (L' := Lw i e5 e6) (st' := [.ref 0]) (g1 := _) rfl ?_
  refine H.ld hK hN (k := 1) (pc' := 665) rfl rfl (by omega) ?_
  refine H.ld hK hN (k := 2) (pc' := 671) rfl rfl (by omega) ?_
  refine H.ld hK hN (k := 3) (pc' := 677) rfl rfl (by omega) ?_
  refine H.callV rfl rfl rfl rfl rfl rfl c1 ?_
  refine H.seg 1 (pc' := 682) (L' := Lw i e5 e6) (st' := [.ref 80, .int (iI v)]) (g1 := _) rfl ?_
  refine H.ld hK hN (k := 1) (pc' := 687) rfl rfl (by omega) ?_
  refine H.ld hK hN (k := 2) (pc' := 693) rfl rfl (by omega) ?_
  refine H.ld hK hN (k := 3) (pc' := 699) rfl rfl (by omega) ?_
  refine H.callV rfl rfl rfl hfs rfl rfl c2 ?_
  refine H.eq (t := 1215) rfl rfl ?_
  exact hx g2 hI2
theorem lw_best {K : PK} {X : Nat → PL → List Value → PG → Prop} (H : Bk K X) {N : Nat} {f : Nat → Int32} (hK : K 19 = some (N, f)) (hN : N ≤ 3072) {n : Nat} {g : PG} (hI : INV n g) (hn : n ≤ 600) {i : Int} (hi : 0 ≤ i ∧ i + 6 ≤ N) {e5 e6 : Option Value} (hx : ∀ g', INV (n + 1) g' → X 1215 (Lw i e5 e6) [] g') : X 708 (Lw i e5 e6) [] g := by
  obtain ⟨z1, e7, q1⟩ := iI_ex (f (i + 1).toNat)
  obtain ⟨z2, e8, q2⟩ := iI_ex (f (i + 2).toNat)
  obtain ⟨z3, e9, q3⟩ := iI_ex (f (i + 3).toNat)
  have hB := bo_best (K := K) hI q1 q2 q3
  obtain ⟨v, g1, g2, c1, c2, ⟨fs, hfs⟩, hI2⟩ := hB
  obtain ⟨sc, ar, tx, oc, rl, ou, tl, q, tp, nw, nb, W, B, Z, Zk, rs, J, r, e, n0, rfl, -⟩ := hI
  rw [← e7] at c1 c2
  rw [← e8] at c1 c2
  rw [← e9] at c1 c2
  refine H.seg 1 (pc' := 709) (L' := Lw i e5 e6) (st' := [.ref 0]) (g1 := _) rfl ?_
  refine H.ld hK hN (k := 1) (pc' := 714) rfl rfl (by omega) ?_
  refine H.ld hK hN (k := 2) (pc' := 720) rfl rfl (by omega) ?_
  refine H.ld hK hN (k := 3) (pc' := 726) rfl rfl (by omega) ?_
  refine H.callV rfl rfl rfl rfl rfl rfl c1 ?_
  refine H.seg 1 (pc' := 731) (L' := Lw i e5 e6) (st' := [.ref 80, .int (iI v)]) (g1 := _) rfl ?_
  refine H.ld hK hN (k := 1) (pc' := 736) rfl rfl (by omega) ?_
  refine H.ld hK hN (k := 2) (pc' := 742) rfl rfl (by omega) ?_
  refine H.ld hK hN (k := 3) (pc' := 748) rfl rfl (by omega) ?_
  refine H.callV rfl rfl rfl hfs rfl rfl c2 ?_
  refine H.eq (t := 1215) rfl rfl ?_
  exact hx g2 hI2
theorem lw_rests {K : PK} {X : Nat → PL → List Value → PG → Prop} (H : Bk K X) {N : Nat} {f : Nat → Int32} (hK : K 19 = some (N, f)) (hN : N ≤ 3072) {n : Nat} {g : PG} (hI : INV n g) (hn : n ≤ 600) {i : Int} (hi : 0 ≤ i ∧ i + 6 ≤ N) {e5 e6 : Option Value} (hx : ∀ g', INV (n + 1) g' → X 1215 (Lw i e5 e6) [] g') : X 757 (Lw i e5 e6) [] g := by
  obtain ⟨z1, e7, q1⟩ := iI_ex (f (i + 1).toNat)
  have hB := bo_rests (K := K) hI q1
  obtain ⟨v, g1, g2, c1, c2, ⟨fs, hfs⟩, hI2⟩ := hB
  obtain ⟨sc, ar, tx, oc, rl, ou, tl, q, tp, nw, nb, W, B, Z, Zk, rs, J, r, e, n0, rfl, -⟩ := hI
  rw [← e7] at c1 c2
  refine H.seg 1 (pc' := 758) (L' := Lw i e5 e6) (st' := [.ref 0]) (g1 := _) rfl ?_
  refine H.ld hK hN (k := 1) (pc' := 763) rfl rfl (by omega) ?_
  refine H.callV rfl rfl rfl rfl rfl rfl c1 ?_
  refine H.seg 1 (pc' := 768) (L' := Lw i e5 e6) (st' := [.ref 80, .int (iI v)]) (g1 := _) rfl ?_
  refine H.ld hK hN (k := 1) (pc' := 773) rfl rfl (by omega) ?_
  refine H.callV rfl rfl rfl hfs rfl rfl c2 ?_
  refine H.eq (t := 1215) rfl rfl ?_
  exact hx g2 hI2
theorem lw_most {K : PK} {X : Nat → PL → List Value → PG → Prop} (H : Bk K X) {N : Nat} {f : Nat → Int32} (hK : K 19 = some (N, f)) (hN : N ≤ 3072) {n : Nat} {g : PG} (hI : INV n g) (hn : n ≤ 600) {i : Int} (hi : 0 ≤ i ∧ i + 6 ≤ N) {e5 e6 : Option Value} (hx : ∀ g', INV (n + 1) g' → X 1215 (Lw i e5 e6) [] g') : X 782 (Lw i e5 e6) [] g := by
  obtain ⟨z1, e7, q1⟩ := iI_ex (f (i + 1).toNat)
  have hB := bo_most (K := K) hI q1
  obtain ⟨v, g1, g2, c1, c2, ⟨fs, hfs⟩, hI2⟩ := hB
  obtain ⟨sc, ar, tx, oc, rl, ou, tl, q, tp, nw, nb, W, B, Z, Zk, rs, J, r, e, n0, rfl, -⟩ := hI
  rw [← e7] at c1 c2
  refine H.seg 1 (pc' := 783) (L' := Lw i e5 e6) (st' := [.ref 0]) (g1 := _) rfl ?_
  refine H.ld hK hN (k := 1) (pc' := 788) rfl rfl (by omega) ?_
  refine H.callV rfl rfl rfl rfl rfl rfl c1 ?_
  refine H.seg 1 (pc' := 793) (L' := Lw i e5 e6) (st' := [.ref 80, .int (iI v)]) (g1 := _) rfl ?_
  refine H.ld hK hN (k := 1) (pc' := 798) rfl rfl (by omega) ?_
  refine H.callV rfl rfl rfl hfs rfl rfl c2 ?_
  refine H.eq (t := 1215) rfl rfl ?_
  exact hx g2 hI2
theorem lw_loss {K : PK} {X : Nat → PL → List Value → PG → Prop} (H : Bk K X) {N : Nat} {f : Nat → Int32} (hK : K 19 = some (N, f)) (hN : N ≤ 3072) {n : Nat} {g : PG} (hI : INV n g) (hn : n ≤ 600) {i : Int} (hi : 0 ≤ i ∧ i + 6 ≤ N) {e5 e6 : Option Value} (hx : ∀ g', INV (n + 1) g' → X 1215 (Lw i e5 e6) [] g') : X 807 (Lw i e5 e6) [] g := by
  have hB := bo_loss (K := K) hI 
  obtain ⟨v, g1, g2, c1, c2, ⟨fs, hfs⟩, hI2⟩ := hB
  obtain ⟨sc, ar, tx, oc, rl, ou, tl, q, tp, nw, nb, W, B, Z, Zk, rs, J, r, e, n0, rfl, -⟩ := hI
  refine H.seg 1 (pc' := 808) (L' := Lw i e5 e6) (st' := [.ref 0]) (g1 := _) rfl ?_
  refine H.callV rfl rfl rfl rfl rfl rfl c1 ?_
  refine H.seg 1 (pc' := 812) (L' := Lw i e5 e6) (st' := [.ref 80, .int (iI v)]) (g1 := _) rfl ?_
  refine H.callV rfl rfl rfl hfs rfl rfl c2 ?_
  refine H.eq (t := 1215) rfl rfl ?_
  exact hx g2 hI2
theorem lw_laws {K : PK} {X : Nat → PL → List Value → PG → Prop} (H : Bk K X) {N : Nat} {f : Nat → Int32} (hK : K 19 = some (N, f)) (hN : N ≤ 3072) {n : Nat} {g : PG} (hI : INV n g) (hn : n ≤ 600) {i : Int} (hi : 0 ≤ i ∧ i + 6 ≤ N) {e5 e6 : Option Value} (hx : ∀ g', INV (n + 1) g' → X 1215 (Lw i e5 e6) [] g') : X 820 (Lw i e5 e6) [] g := by
  obtain ⟨z1, e7, q1⟩ := iI_ex (f (i + 1).toNat)
  have hB := bo_laws (K := K) hI q1
  obtain ⟨v, g1, g2, c1, c2, ⟨fs, hfs⟩, hI2⟩ := hB
  obtain ⟨sc, ar, tx, oc, rl, ou, tl, q, tp, nw, nb, W, B, Z, Zk, rs, J, r, e, n0, rfl, -⟩ := hI
  rw [← e7] at c1 c2
  refine H.seg 1 (pc' := 821) (L' := Lw i e5 e6) (st' := [.ref 0]) (g1 := _) rfl ?_
  refine H.ld hK hN (k := 1) (pc' := 826) rfl rfl (by omega) ?_
  refine H.callV rfl rfl rfl rfl rfl rfl c1 ?_
  refine H.seg 1 (pc' := 831) (L' := Lw i e5 e6) (st' := [.ref 80, .int (iI v)]) (g1 := _) rfl ?_
  refine H.ld hK hN (k := 1) (pc' := 836) rfl rfl (by omega) ?_
  refine H.callV rfl rfl rfl hfs rfl rfl c2 ?_
  refine H.eq (t := 1215) rfl rfl ?_
  exact hx g2 hI2
theorem lw_bribe {K : PK} {X : Nat → PL → List Value → PG → Prop} (H : Bk K X) {N : Nat} {f : Nat → Int32} (hK : K 19 = some (N, f)) (hN : N ≤ 3072) {n : Nat} {g : PG} (hI : INV n g) (hn : n ≤ 600) {i : Int} (hi : 0 ≤ i ∧ i + 6 ≤ N) {e5 e6 : Option Value} (hx : ∀ g', INV (n + 1) g' → X 1215 (Lw i e5 e6) [] g') : X 845 (Lw i e5 e6) [] g := by
  have hB := bo_bribe (K := K) hI 
  obtain ⟨v, g1, g2, c1, c2, ⟨fs, hfs⟩, hI2⟩ := hB
  obtain ⟨sc, ar, tx, oc, rl, ou, tl, q, tp, nw, nb, W, B, Z, Zk, rs, J, r, e, n0, rfl, -⟩ := hI
  refine H.seg 1 (pc' := 846) (L' := Lw i e5 e6) (st' := [.ref 0]) (g1 := _) rfl ?_
  refine H.callV rfl rfl rfl rfl rfl rfl c1 ?_
  refine H.seg 1 (pc' := 850) (L' := Lw i e5 e6) (st' := [.ref 80, .int (iI v)]) (g1 := _) rfl ?_
  refine H.callV rfl rfl rfl hfs rfl rfl c2 ?_
  refine H.eq (t := 1215) rfl rfl ?_
  exact hx g2 hI2
theorem lw_choice {K : PK} {X : Nat → PL → List Value → PG → Prop} (H : Bk K X) {N : Nat} {f : Nat → Int32} (hK : K 19 = some (N, f)) (hN : N ≤ 3072) {n : Nat} {g : PG} (hI : INV n g) (hn : n ≤ 600) {i : Int} (hi : 0 ≤ i ∧ i + 6 ≤ N) {e5 e6 : Option Value} (hx : ∀ g', INV (n + 1) g' → X 1215 (Lw i e5 e6) [] g') : X 858 (Lw i e5 e6) [] g := by
  have hB := bo_choice (K := K) hI 
  obtain ⟨v, g1, g2, c1, c2, ⟨fs, hfs⟩, hI2⟩ := hB
  obtain ⟨sc, ar, tx, oc, rl, ou, tl, q, tp, nw, nb, W, B, Z, Zk, rs, J, r, e, n0, rfl, -⟩ := hI
  refine H.seg 1 (pc' := 859) (L' := Lw i e5 e6) (st' := [.ref 0]) (g1 := _) rfl ?_
  refine H.callV rfl rfl rfl rfl rfl rfl c1 ?_
  refine H.seg 1 (pc' := 863) (L' := Lw i e5 e6) (st' := [.ref 80, .int (iI v)]) (g1 := _) rfl ?_
  refine H.callV rfl rfl rfl hfs rfl rfl c2 ?_
  refine H.eq (t := 1215) rfl rfl ?_
  exact hx g2 hI2
theorem lw_ash {K : PK} {X : Nat → PL → List Value → PG → Prop} (H : Bk K X) {N : Nat} {f : Nat → Int32} (hK : K 19 = some (N, f)) (hN : N ≤ 3072) {n : Nat} {g : PG} (hI : INV n g) (hn : n ≤ 600) {i : Int} (hi : 0 ≤ i ∧ i + 6 ≤ N) {e5 e6 : Option Value} (hx : ∀ g', INV (n + 1) g' → X 1215 (Lw i e5 e6) [] g') : X 871 (Lw i e5 e6) [] g := by
  obtain ⟨z1, e7, q1⟩ := iI_ex (f (i + 1).toNat)
  obtain ⟨z2, e8, q2⟩ := iI_ex (f (i + 2).toNat)
  obtain ⟨z3, e9, q3⟩ := iI_ex (f (i + 3).toNat)
  have hB := bo_ash (K := K) hI q1 q2 q3
  obtain ⟨v, g1, g2, c1, c2, ⟨fs, hfs⟩, hI2⟩ := hB
  obtain ⟨sc, ar, tx, oc, rl, ou, tl, q, tp, nw, nb, W, B, Z, Zk, rs, J, r, e, n0, rfl, -⟩ := hI
  rw [← e7] at c1 c2
  rw [← e8] at c1 c2
  rw [← e9] at c1 c2
  refine H.seg 1 (pc' := 872) (L' := Lw i e5 e6) (st' := [.ref 0]) (g1 := _) rfl ?_
  refine H.ld hK hN (k := 1) (pc' := 877) rfl rfl (by omega) ?_
  refine H.ld hK hN (k := 2) (pc' := 883) rfl rfl (by omega) ?_
  refine H.ld hK hN (k := 3) (pc' := 889) rfl rfl (by omega) ?_
  refine H.callV rfl rfl rfl rfl rfl rfl c1 ?_
  refine H.seg 1 (pc' := 894) (L' := Lw i e5 e6) (st' := [.ref 80, .int (iI v)]) (g1 := _) rfl ?_
  refine H.ld hK hN (k := 1) (pc' := 899) rfl rfl (by omega) ?_
  refine H.ld hK hN (k := 2) (pc' := 905) rfl rfl (by omega) ?_
  refine H.ld hK hN (k := 3) (pc' := 911) rfl rfl (by omega) ?_
  refine H.callV rfl rfl rfl hfs rfl rfl c2 ?_
  refine H.eq (t := 1215) rfl rfl ?_
  exact hx g2 hI2
theorem lw_explain {K : PK} {X : Nat → PL → List Value → PG → Prop} (H : Bk K X) {N : Nat} {f : Nat → Int32} (hK : K 19 = some (N, f)) (hN : N ≤ 3072) {n : Nat} {g : PG} (hI : INV n g) (hn : n ≤ 600) {i : Int} (hi : 0 ≤ i ∧ i + 6 ≤ N) {e5 e6 : Option Value} (hx : ∀ g', INV (n + 1) g' → X 1215 (Lw i e5 e6) [] g') : X 920 (Lw i e5 e6) [] g := by
  obtain ⟨z1, e7, q1⟩ := iI_ex (f (i + 1).toNat)
  have hB := bo_explain (K := K) hI q1
  obtain ⟨v, g1, g2, c1, c2, ⟨fs, hfs⟩, hI2⟩ := hB
  obtain ⟨sc, ar, tx, oc, rl, ou, tl, q, tp, nw, nb, W, B, Z, Zk, rs, J, r, e, n0, rfl, -⟩ := hI
  rw [← e7] at c1 c2
  refine H.seg 1 (pc' := 921) (L' := Lw i e5 e6) (st' := [.ref 0]) (g1 := _) rfl ?_
  refine H.ld hK hN (k := 1) (pc' := 926) rfl rfl (by omega) ?_
  refine H.callV rfl rfl rfl rfl rfl rfl c1 ?_
  refine H.seg 1 (pc' := 931) (L' := Lw i e5 e6) (st' := [.ref 80, .int (iI v)]) (g1 := _) rfl ?_
  refine H.ld hK hN (k := 1) (pc' := 936) rfl rfl (by omega) ?_
  refine H.callV rfl rfl rfl hfs rfl rfl c2 ?_
  refine H.eq (t := 1215) rfl rfl ?_
  exact hx g2 hI2
theorem lw_knocked {K : PK} {X : Nat → PL → List Value → PG → Prop} (H : Bk K X) {N : Nat} {f : Nat → Int32} (hK : K 19 = some (N, f)) (hN : N ≤ 3072) {n : Nat} {g : PG} (hI : INV n g) (hn : n ≤ 600) {i : Int} (hi : 0 ≤ i ∧ i + 6 ≤ N) {e5 e6 : Option Value} (hx : ∀ g', INV (n + 1) g' → X 1215 (Lw i e5 e6) [] g') : X 945 (Lw i e5 e6) [] g := by
  have hB := bo_knocked (K := K) hI 
  obtain ⟨v, g1, g2, c1, c2, ⟨fs, hfs⟩, hI2⟩ := hB
  obtain ⟨sc, ar, tx, oc, rl, ou, tl, q, tp, nw, nb, W, B, Z, Zk, rs, J, r, e, n0, rfl, -⟩ := hI
  refine H.seg 1 (pc' := 946) (L' := Lw i e5 e6) (st' := [.ref 0]) (g1 := _) rfl ?_
  refine H.callV rfl rfl rfl rfl rfl rfl c1 ?_
  refine H.seg 1 (pc' := 950) (L' := Lw i e5 e6) (st' := [.ref 80, .int (iI v)]) (g1 := _) rfl ?_
  refine H.callV rfl rfl rfl hfs rfl rfl c2 ?_
  refine H.eq (t := 1215) rfl rfl ?_
  exact hx g2 hI2
theorem lw_joined {K : PK} {X : Nat → PL → List Value → PG → Prop} (H : Bk K X) {N : Nat} {f : Nat → Int32} (hK : K 19 = some (N, f)) (hN : N ≤ 3072) {n : Nat} {g : PG} (hI : INV n g) (hn : n ≤ 600) {i : Int} (hi : 0 ≤ i ∧ i + 6 ≤ N) {e5 e6 : Option Value} (hx : ∀ g', INV (n + 1) g' → X 1215 (Lw i e5 e6) [] g') : X 958 (Lw i e5 e6) [] g := by
  obtain ⟨z1, e7, q1⟩ := iI_ex (f (i + 1).toNat)
  obtain ⟨z2, e8, q2⟩ := iI_ex (f (i + 2).toNat)
  have hB := bo_joined (K := K) hI q1 q2
  obtain ⟨v, g1, g2, c1, c2, ⟨fs, hfs⟩, hI2⟩ := hB
  obtain ⟨sc, ar, tx, oc, rl, ou, tl, q, tp, nw, nb, W, B, Z, Zk, rs, J, r, e, n0, rfl, -⟩ := hI
  rw [← e7] at c1 c2
  rw [← e8] at c1 c2
  refine H.seg 1 (pc' := 959) (L' := Lw i e5 e6) (st' := [.ref 0]) (g1 := _) rfl ?_
  refine H.ld hK hN (k := 1) (pc' := 964) rfl rfl (by omega) ?_
  refine H.ld hK hN (k := 2) (pc' := 970) rfl rfl (by omega) ?_
  refine H.callV rfl rfl rfl rfl rfl rfl c1 ?_
  refine H.seg 1 (pc' := 975) (L' := Lw i e5 e6) (st' := [.ref 80, .int (iI v)]) (g1 := _) rfl ?_
  refine H.ld hK hN (k := 1) (pc' := 980) rfl rfl (by omega) ?_
  refine H.ld hK hN (k := 2) (pc' := 986) rfl rfl (by omega) ?_
  refine H.callV rfl rfl rfl hfs rfl rfl c2 ?_
  refine H.eq (t := 1215) rfl rfl ?_
  exact hx g2 hI2
theorem lw_reach {K : PK} {X : Nat → PL → List Value → PG → Prop} (H : Bk K X) {N : Nat} {f : Nat → Int32} (hK : K 19 = some (N, f)) (hN : N ≤ 3072) {n : Nat} {g : PG} (hI : INV n g) (hn : n ≤ 600) {i : Int} (hi : 0 ≤ i ∧ i + 6 ≤ N) {e5 e6 : Option Value} (hx : ∀ g', INV (n + 1) g' → X 1215 (Lw i e5 e6) [] g') : X 995 (Lw i e5 e6) [] g := by
  obtain ⟨z1, e7, q1⟩ := iI_ex (f (i + 1).toNat)
  have hB := bo_reach (K := K) hI q1
  obtain ⟨v, g1, g2, c1, c2, ⟨fs, hfs⟩, hI2⟩ := hB
  obtain ⟨sc, ar, tx, oc, rl, ou, tl, q, tp, nw, nb, W, B, Z, Zk, rs, J, r, e, n0, rfl, -⟩ := hI
  rw [← e7] at c1 c2
  refine H.seg 1 (pc' := 996) (L' := Lw i e5 e6) (st' := [.ref 0]) (g1 := _) rfl ?_
  refine H.ld hK hN (k := 1) (pc' := 1001) rfl rfl (by omega) ?_
  refine H.callV rfl rfl rfl rfl rfl rfl c1 ?_
  refine H.seg 1 (pc' := 1006) (L' := Lw i e5 e6) (st' := [.ref 80, .int (iI v)]) (g1 := _) rfl ?_
  refine H.ld hK hN (k := 1) (pc' := 1011) rfl rfl (by omega) ?_
  refine H.callV rfl rfl rfl hfs rfl rfl c2 ?_
  refine H.eq (t := 1215) rfl rfl ?_
  exact hx g2 hI2
theorem lw_alone {K : PK} {X : Nat → PL → List Value → PG → Prop} (H : Bk K X) {N : Nat} {f : Nat → Int32} (hK : K 19 = some (N, f)) (hN : N ≤ 3072) {n : Nat} {g : PG} (hI : INV n g) (hn : n ≤ 600) {i : Int} (hi : 0 ≤ i ∧ i + 6 ≤ N) {e5 e6 : Option Value} (hx : ∀ g', INV (n + 1) g' → X 1215 (Lw i e5 e6) [] g') : X 1020 (Lw i e5 e6) [] g := by
  obtain ⟨z1, e7, q1⟩ := iI_ex (f (i + 1).toNat)
  obtain ⟨z2, e8, q2⟩ := iI_ex (f (i + 2).toNat)
  have hB := bo_alone (K := K) hI q1 q2
  obtain ⟨v, g1, g2, c1, c2, ⟨fs, hfs⟩, hI2⟩ := hB
  obtain ⟨sc, ar, tx, oc, rl, ou, tl, q, tp, nw, nb, W, B, Z, Zk, rs, J, r, e, n0, rfl, -⟩ := hI
  rw [← e7] at c1 c2
  rw [← e8] at c1 c2
  refine H.seg 1 (pc' := 1021) (L' := Lw i e5 e6) (st' := [.ref 0]) (g1 := _) rfl ?_
  refine H.ld hK hN (k := 1) (pc' := 1026) rfl rfl (by omega) ?_
  refine H.ld hK hN (k := 2) (pc' := 1032) rfl rfl (by omega) ?_
  refine H.callV rfl rfl rfl rfl rfl rfl c1 ?_
  refine H.seg 1 (pc' := 1037) (L' := Lw i e5 e6) (st' := [.ref 80, .int (iI v)]) (g1 := _) rfl ?_
  refine H.ld hK hN (k := 1) (pc' := 1042) rfl rfl (by omega) ?_
  refine H.ld hK hN (k := 2) (pc' := 1048) rfl rfl (by omega) ?_
  refine H.callV rfl rfl rfl hfs rfl rfl c2 ?_
  refine H.eq (t := 1215) rfl rfl ?_
  exact hx g2 hI2
theorem lw_night {K : PK} {X : Nat → PL → List Value → PG → Prop} (H : Bk K X) {N : Nat} {f : Nat → Int32} (hK : K 19 = some (N, f)) (hN : N ≤ 3072) {n : Nat} {g : PG} (hI : INV n g) (hn : n ≤ 600) {i : Int} (hi : 0 ≤ i ∧ i + 6 ≤ N) {e5 e6 : Option Value} (hx : ∀ g', INV (n + 1) g' → X 1215 (Lw i e5 e6) [] g') : X 1057 (Lw i e5 e6) [] g := by
  obtain ⟨z1, e7, q1⟩ := iI_ex (f (i + 1).toNat)
  have hB := bo_night (K := K) hI q1 hn
  obtain ⟨v, g1, g2, c1, c2, ⟨fs, hfs⟩, hI2⟩ := hB
  obtain ⟨sc, ar, tx, oc, rl, ou, tl, q, tp, nw, nb, W, B, Z, Zk, rs, J, r, e, n0, rfl, -⟩ := hI
  rw [← e7] at c1 c2
  refine H.seg 1 (pc' := 1058) (L' := Lw i e5 e6) (st' := [.ref 0]) (g1 := _) rfl ?_
  refine H.ld hK hN (k := 1) (pc' := 1063) rfl rfl (by omega) ?_
  refine H.callV rfl rfl rfl rfl rfl rfl c1 ?_
  refine H.seg 1 (pc' := 1068) (L' := Lw i e5 e6) (st' := [.ref 80, .int (iI v)]) (g1 := _) rfl ?_
  refine H.ld hK hN (k := 1) (pc' := 1073) rfl rfl (by omega) ?_
  refine H.callV rfl rfl rfl hfs rfl rfl c2 ?_
  refine H.eq (t := 1215) rfl rfl ?_
  exact hx g2 hI2
theorem lw_drawn {K : PK} {X : Nat → PL → List Value → PG → Prop} (H : Bk K X) {N : Nat} {f : Nat → Int32} (hK : K 19 = some (N, f)) (hN : N ≤ 3072) {n : Nat} {g : PG} (hI : INV n g) (hn : n ≤ 600) {i : Int} (hi : 0 ≤ i ∧ i + 6 ≤ N) {e5 e6 : Option Value} (hx : ∀ g', INV (n + 1) g' → X 1215 (Lw i e5 e6) [] g') : X 1082 (Lw i e5 e6) [] g := by
  obtain ⟨z1, e7, q1⟩ := iI_ex (f (i + 1).toNat)
  obtain ⟨z2, e8, q2⟩ := iI_ex (f (i + 2).toNat)
  obtain ⟨z3, e9, q3⟩ := iI_ex (f (i + 3).toNat)
  have hB := bo_drawn (K := K) hI (k := z1) (s := ((f (i + 2).toNat).toInt64 <<< ((iI 32).toInt64 &&& 63)) ||| ((f (i + 3).toNat).toInt64 &&& 4294967295)) q1 hn
  obtain ⟨v, g1, g2, c1, c2, ⟨fs, hfs⟩, hI2⟩ := hB
  obtain ⟨sc, ar, tx, oc, rl, ou, tl, q, tp, nw, nb, W, B, Z, Zk, rs, J, r, e, n0, rfl, -⟩ := hI
  rw [← e7] at c1 c2
  refine H.seg 1 (pc' := 1083) (L' := Lw i e5 e6) (st' := [.ref 0]) (g1 := _) rfl ?_
  refine H.ld hK hN (k := 1) (pc' := 1088) rfl rfl (by omega) ?_
  refine H.ld hK hN (k := 2) (pc' := 1094) rfl rfl (by omega) ?_
  refine H.seg 3 (pc' := 1099) (L' := Lw i e5 e6) (st' := .long ((f (i + 2).toNat).toInt64 <<< ((iI 32).toInt64 &&& 63)) :: .int (f (i + 1).toNat) :: .ref 0 :: []) (g1 := _) rfl ?_
  refine H.ld hK hN (k := 3) (pc' := 1104) rfl rfl (by omega) ?_
  refine H.seg 4 (pc' := 1111) (L' := Lw i e5 e6) (st' := .long (((f (i + 2).toNat).toInt64 <<< ((iI 32).toInt64 &&& 63)) ||| ((f (i + 3).toNat).toInt64 &&& 4294967295)) :: .int (f (i + 1).toNat) :: .ref 0 :: []) (g1 := _) rfl ?_
  refine H.callV rfl rfl rfl rfl rfl rfl c1 ?_
  refine H.seg 1 (pc' := 1115) (L' := Lw i e5 e6) (st' := [.ref 80, .int (iI v)]) (g1 := _) rfl ?_
  refine H.ld hK hN (k := 1) (pc' := 1120) rfl rfl (by omega) ?_
  refine H.ld hK hN (k := 2) (pc' := 1126) rfl rfl (by omega) ?_
  refine H.seg 3 (pc' := 1131) (L' := Lw i e5 e6) (st' := .long ((f (i + 2).toNat).toInt64 <<< ((iI 32).toInt64 &&& 63)) :: .int (f (i + 1).toNat) :: .ref 80 :: .int (iI v) :: []) (g1 := _) rfl ?_
  refine H.ld hK hN (k := 3) (pc' := 1136) rfl rfl (by omega) ?_
  refine H.seg 4 (pc' := 1143) (L' := Lw i e5 e6) (st' := .long (((f (i + 2).toNat).toInt64 <<< ((iI 32).toInt64 &&& 63)) ||| ((f (i + 3).toNat).toInt64 &&& 4294967295)) :: .int (f (i + 1).toNat) :: .ref 80 :: .int (iI v) :: []) (g1 := _) rfl ?_
  refine H.callV rfl rfl rfl hfs rfl rfl c2 ?_
  refine H.eq (t := 1215) rfl rfl ?_
  exact hx g2 hI2
theorem lw_undo {K : PK} {X : Nat → PL → List Value → PG → Prop} (H : Bk K X) {N : Nat} {f : Nat → Int32} (hK : K 19 = some (N, f)) (hN : N ≤ 3072) {n : Nat} {g : PG} (hI : INV n g) (hn : n ≤ 600) {i : Int} (hi : 0 ≤ i ∧ i + 6 ≤ N) {e5 e6 : Option Value} (hx : ∀ g', INV (n + 1) g' → X 1215 (Lw i e5 e6) [] g') : X 1151 (Lw i e5 e6) [] g := by
  have hB := bo_undo (K := K) hI 
  obtain ⟨v, g1, g2, c1, c2, ⟨fs, hfs⟩, hI2⟩ := hB
  obtain ⟨sc, ar, tx, oc, rl, ou, tl, q, tp, nw, nb, W, B, Z, Zk, rs, J, r, e, n0, rfl, -⟩ := hI
  refine H.seg 1 (pc' := 1152) (L' := Lw i e5 e6) (st' := [.ref 0]) (g1 := _) rfl ?_
  refine H.callV rfl rfl rfl rfl rfl rfl c1 ?_
  refine H.seg 1 (pc' := 1156) (L' := Lw i e5 e6) (st' := [.ref 80, .int (iI v)]) (g1 := _) rfl ?_
  refine H.callV rfl rfl rfl hfs rfl rfl c2 ?_
  refine H.eq (t := 1215) rfl rfl ?_
  exact hx g2 hI2
theorem lw_image {K : PK} {X : Nat → PL → List Value → PG → Prop} (H : Bk K X) {N : Nat} {f : Nat → Int32} (hK : K 19 = some (N, f)) (hN : N ≤ 3072) {n : Nat} {g : PG} (hI : INV n g) (hn : n ≤ 600) {i : Int} (hi : 0 ≤ i ∧ i + 6 ≤ N) {e5 e6 : Option Value} (hx : ∀ g', INV (n + 1) g' → X 1215 (Lw i e5 e6) [] g') : X 1164 (Lw i e5 e6) [] g := by
  have hB := bo_image (K := K) hI 
  obtain ⟨v, g1, g2, c1, c2, ⟨fs, hfs⟩, hI2⟩ := hB
  obtain ⟨sc, ar, tx, oc, rl, ou, tl, q, tp, nw, nb, W, B, Z, Zk, rs, J, r, e, n0, rfl, -⟩ := hI
  refine H.seg 1 (pc' := 1165) (L' := Lw i e5 e6) (st' := [.ref 0]) (g1 := _) rfl ?_
  refine H.callV rfl rfl rfl rfl rfl rfl c1 ?_
  refine H.seg 1 (pc' := 1169) (L' := Lw i e5 e6) (st' := [.ref 80, .int (iI v)]) (g1 := _) rfl ?_
  refine H.callV rfl rfl rfl hfs rfl rfl c2 ?_
  refine H.eq (t := 1215) rfl rfl ?_
  exact hx g2 hI2
theorem lw_back {K : PK} {X : Nat → PL → List Value → PG → Prop} (H : Bk K X) {N : Nat} {f : Nat → Int32} (hK : K 19 = some (N, f)) (hN : N ≤ 3072) {n : Nat} {g : PG} (hI : INV n g) (hn : n ≤ 600) {i : Int} (hi : 0 ≤ i ∧ i + 6 ≤ N) {e5 e6 : Option Value} (hx : ∀ g', INV (n + 1) g' → X 1215 (Lw i e5 e6) [] g') : X 1177 (Lw i e5 e6) [] g := by
  have hB := bo_back (K := K) hI 
  obtain ⟨v, g1, g2, c1, c2, ⟨fs, hfs⟩, hI2⟩ := hB
  obtain ⟨sc, ar, tx, oc, rl, ou, tl, q, tp, nw, nb, W, B, Z, Zk, rs, J, r, e, n0, rfl, -⟩ := hI
  refine H.seg 1 (pc' := 1178) (L' := Lw i e5 e6) (st' := [.ref 0]) (g1 := _) rfl ?_
  refine H.callV rfl rfl rfl rfl rfl rfl c1 ?_
  refine H.seg 1 (pc' := 1182) (L' := Lw i e5 e6) (st' := [.ref 80, .int (iI v)]) (g1 := _) rfl ?_
  refine H.callV rfl rfl rfl hfs rfl rfl c2 ?_
  refine H.eq (t := 1215) rfl rfl ?_
  exact hx g2 hI2
theorem lw_count {K : PK} {X : Nat → PL → List Value → PG → Prop} (H : Bk K X) {N : Nat} {f : Nat → Int32} (hK : K 19 = some (N, f)) (hN : N ≤ 3072) {n : Nat} {g : PG} (hI : INV n g) (hn : n ≤ 600) {i : Int} (hi : 0 ≤ i ∧ i + 6 ≤ N) {e5 e6 : Option Value} (hx : ∀ g', INV (n + 1) g' → X 1215 (Lw i e5 e6) [] g') : X 1190 (Lw i e5 e6) [] g := by
  obtain ⟨z1, e7, q1⟩ := iI_ex (f (i + 1).toNat)
  have hB := bo_count (K := K) hI q1
  obtain ⟨v, g1, g2, c1, c2, ⟨fs, hfs⟩, hI2⟩ := hB
  obtain ⟨sc, ar, tx, oc, rl, ou, tl, q, tp, nw, nb, W, B, Z, Zk, rs, J, r, e, n0, rfl, -⟩ := hI
  rw [← e7] at c1 c2
  refine H.seg 1 (pc' := 1191) (L' := Lw i e5 e6) (st' := [.ref 0]) (g1 := _) rfl ?_
  refine H.ld hK hN (k := 1) (pc' := 1196) rfl rfl (by omega) ?_
  refine H.callV rfl rfl rfl rfl rfl rfl c1 ?_
  refine H.seg 1 (pc' := 1201) (L' := Lw i e5 e6) (st' := [.ref 80, .int (iI v)]) (g1 := _) rfl ?_
  refine H.ld hK hN (k := 1) (pc' := 1206) rfl rfl (by omega) ?_
  refine H.callV rfl rfl rfl hfs rfl rfl c2 ?_
  refine H.eq (t := 1215) rfl rfl ?_
  exact hx g2 hI2
