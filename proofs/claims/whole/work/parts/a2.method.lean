
def kL0 : List (Nat × Instr) := [(0, .new 7), (3, .dup), (4, .invokespecial 9), (7, .astore_n 1), (8, .new 10), (11, .dup), (12, .invokespecial 12), (15, .astore_n 2), (16, .iconst 0), (17, .istore_n 3), (18, .iload_n 3), (19, .aload_n 0), (20, .arraylength), (21, .bipush 6), (23, .isub), (24, .if_icmp .gt 988), (27, .aload_n 0), (28, .iload_n 3), (29, .iaload), (30, .bipush 31), (32, .iand), (33, .tableswitch 973 0 24 #[115, 158, 181, 224, 247, 280, 313, 356, 379, 413, 446, 490, 534, 557, 570, 593, 606, 629, 642, 655, 708, 761, 804, 827, 910]), (148, .aload_n 1), (149, .aload_n 0), (150, .iload_n 3)]
set_option maxRecDepth 20000 in
theorem dcL0 : ∀ q ∈ kL0, decode cL_law q.1 = .ok (q.2, ilen q.1 q.2) := by decide +kernel
def kL1 : List (Nat × Instr) := [(151, .iconst 1), (152, .iadd), (153, .iaload), (154, .aload_n 0), (155, .iload_n 3), (156, .iconst 2), (157, .iadd), (158, .iaload), (159, .aload_n 0), (160, .iload_n 3), (161, .iconst 3), (162, .iadd), (163, .iaload), (164, .invokevirtual 13), (167, .aload_n 2), (168, .aload_n 0), (169, .iload_n 3), (170, .iconst 1), (171, .iadd), (172, .iaload), (173, .aload_n 0), (174, .iload_n 3), (175, .iconst 2), (176, .iadd), (177, .iaload)]
set_option maxRecDepth 20000 in
theorem dcL1 : ∀ q ∈ kL1, decode cL_law q.1 = .ok (q.2, ilen q.1 q.2) := by decide +kernel
def kL2 : List (Nat × Instr) := [(178, .aload_n 0), (179, .iload_n 3), (180, .iconst 3), (181, .iadd), (182, .iaload), (183, .invokevirtual 17), (186, .if_icmp .eq 820), (189, .iconst 0), (190, .ireturn), (191, .aload_n 1), (192, .aload_n 0), (193, .iload_n 3), (194, .iconst 1), (195, .iadd), (196, .iaload), (197, .invokevirtual 18), (200, .aload_n 2), (201, .aload_n 0), (202, .iload_n 3), (203, .iconst 1), (204, .iadd), (205, .iaload), (206, .invokevirtual 22), (209, .if_icmp .eq 797), (212, .iconst 0)]
set_option maxRecDepth 20000 in
theorem dcL2 : ∀ q ∈ kL2, decode cL_law q.1 = .ok (q.2, ilen q.1 q.2) := by decide +kernel
def kL3 : List (Nat × Instr) := [(213, .ireturn), (214, .aload_n 1), (215, .aload_n 0), (216, .iload_n 3), (217, .iconst 1), (218, .iadd), (219, .iaload), (220, .aload_n 0), (221, .iload_n 3), (222, .iconst 2), (223, .iadd), (224, .iaload), (225, .aload_n 0), (226, .iload_n 3), (227, .iconst 3), (228, .iadd), (229, .iaload), (230, .invokevirtual 23), (233, .aload_n 2), (234, .aload_n 0), (235, .iload_n 3), (236, .iconst 1), (237, .iadd), (238, .iaload), (239, .aload_n 0)]
set_option maxRecDepth 20000 in
theorem dcL3 : ∀ q ∈ kL3, decode cL_law q.1 = .ok (q.2, ilen q.1 q.2) := by decide +kernel
def kL4 : List (Nat × Instr) := [(240, .iload_n 3), (241, .iconst 2), (242, .iadd), (243, .iaload), (244, .aload_n 0), (245, .iload_n 3), (246, .iconst 3), (247, .iadd), (248, .iaload), (249, .invokevirtual 26), (252, .if_icmp .eq 754), (255, .iconst 0), (256, .ireturn), (257, .aload_n 1), (258, .aload_n 0), (259, .iload_n 3), (260, .iconst 1), (261, .iadd), (262, .iaload), (263, .invokevirtual 27), (266, .aload_n 2), (267, .aload_n 0), (268, .iload_n 3), (269, .iconst 1), (270, .iadd)]
set_option maxRecDepth 20000 in
theorem dcL4 : ∀ q ∈ kL4, decode cL_law q.1 = .ok (q.2, ilen q.1 q.2) := by decide +kernel
def kL5 : List (Nat × Instr) := [(271, .iaload), (272, .invokevirtual 30), (275, .if_icmp .eq 731), (278, .iconst 0), (279, .ireturn), (280, .aload_n 1), (281, .aload_n 0), (282, .iload_n 3), (283, .iconst 1), (284, .iadd), (285, .iaload), (286, .aload_n 0), (287, .iload_n 3), (288, .iconst 2), (289, .iadd), (290, .iaload), (291, .invokevirtual 31), (294, .aload_n 2), (295, .aload_n 0), (296, .iload_n 3), (297, .iconst 1), (298, .iadd), (299, .iaload), (300, .aload_n 0), (301, .iload_n 3)]
set_option maxRecDepth 20000 in
theorem dcL5 : ∀ q ∈ kL5, decode cL_law q.1 = .ok (q.2, ilen q.1 q.2) := by decide +kernel
def kL6 : List (Nat × Instr) := [(302, .iconst 2), (303, .iadd), (304, .iaload), (305, .invokevirtual 35), (308, .if_icmp .eq 698), (311, .iconst 0), (312, .ireturn), (313, .aload_n 1), (314, .aload_n 0), (315, .iload_n 3), (316, .iconst 1), (317, .iadd), (318, .iaload), (319, .aload_n 0), (320, .iload_n 3), (321, .iconst 2), (322, .iadd), (323, .iaload), (324, .invokevirtual 36), (327, .aload_n 2), (328, .aload_n 0), (329, .iload_n 3), (330, .iconst 1), (331, .iadd), (332, .iaload)]
set_option maxRecDepth 20000 in
theorem dcL6 : ∀ q ∈ kL6, decode cL_law q.1 = .ok (q.2, ilen q.1 q.2) := by decide +kernel
def kL7 : List (Nat × Instr) := [(333, .aload_n 0), (334, .iload_n 3), (335, .iconst 2), (336, .iadd), (337, .iaload), (338, .invokevirtual 39), (341, .if_icmp .eq 665), (344, .iconst 0), (345, .ireturn), (346, .aload_n 1), (347, .aload_n 0), (348, .iload_n 3), (349, .iconst 1), (350, .iadd), (351, .iaload), (352, .aload_n 0), (353, .iload_n 3), (354, .iconst 2), (355, .iadd), (356, .iaload), (357, .aload_n 0), (358, .iload_n 3), (359, .iconst 3), (360, .iadd), (361, .iaload)]
set_option maxRecDepth 20000 in
theorem dcL7 : ∀ q ∈ kL7, decode cL_law q.1 = .ok (q.2, ilen q.1 q.2) := by decide +kernel
def kL8 : List (Nat × Instr) := [(362, .invokevirtual 40), (365, .aload_n 2), (366, .aload_n 0), (367, .iload_n 3), (368, .iconst 1), (369, .iadd), (370, .iaload), (371, .aload_n 0), (372, .iload_n 3), (373, .iconst 2), (374, .iadd), (375, .iaload), (376, .aload_n 0), (377, .iload_n 3), (378, .iconst 3), (379, .iadd), (380, .iaload), (381, .invokevirtual 43), (384, .if_icmp .eq 622), (387, .iconst 0), (388, .ireturn), (389, .aload_n 1), (390, .aload_n 0), (391, .iload_n 3), (392, .iconst 1)]
set_option maxRecDepth 20000 in
theorem dcL8 : ∀ q ∈ kL8, decode cL_law q.1 = .ok (q.2, ilen q.1 q.2) := by decide +kernel
def kL9 : List (Nat × Instr) := [(393, .iadd), (394, .iaload), (395, .invokevirtual 44), (398, .aload_n 2), (399, .aload_n 0), (400, .iload_n 3), (401, .iconst 1), (402, .iadd), (403, .iaload), (404, .invokevirtual 47), (407, .if_icmp .eq 599), (410, .iconst 0), (411, .ireturn), (412, .aload_n 1), (413, .aload_n 0), (414, .iload_n 3), (415, .iconst 1), (416, .iadd), (417, .iaload), (418, .aload_n 0), (419, .iload_n 3), (420, .iconst 2), (421, .iadd), (422, .iaload), (423, .invokevirtual 48)]
set_option maxRecDepth 20000 in
theorem dcL9 : ∀ q ∈ kL9, decode cL_law q.1 = .ok (q.2, ilen q.1 q.2) := by decide +kernel
def kL10 : List (Nat × Instr) := [(426, .aload_n 2), (427, .aload_n 0), (428, .iload_n 3), (429, .iconst 1), (430, .iadd), (431, .iaload), (432, .aload_n 0), (433, .iload_n 3), (434, .iconst 2), (435, .iadd), (436, .iaload), (437, .invokevirtual 52), (440, .lcmp), (441, .ifCond .eq 565), (444, .iconst 0), (445, .ireturn), (446, .aload_n 1), (447, .aload_n 0), (448, .iload_n 3), (449, .iconst 1), (450, .iadd), (451, .iaload), (452, .aload_n 0), (453, .iload_n 3), (454, .iconst 2)]
set_option maxRecDepth 20000 in
theorem dcL10 : ∀ q ∈ kL10, decode cL_law q.1 = .ok (q.2, ilen q.1 q.2) := by decide +kernel
def kL11 : List (Nat × Instr) := [(455, .iadd), (456, .iaload), (457, .invokevirtual 53), (460, .aload_n 2), (461, .aload_n 0), (462, .iload_n 3), (463, .iconst 1), (464, .iadd), (465, .iaload), (466, .aload_n 0), (467, .iload_n 3), (468, .iconst 2), (469, .iadd), (470, .iaload), (471, .invokevirtual 56), (474, .if_icmp .eq 532), (477, .iconst 0), (478, .ireturn), (479, .aload_n 1), (480, .aload_n 0), (481, .iload_n 3), (482, .iconst 1), (483, .iadd), (484, .iaload), (485, .aload_n 0)]
set_option maxRecDepth 20000 in
theorem dcL11 : ∀ q ∈ kL11, decode cL_law q.1 = .ok (q.2, ilen q.1 q.2) := by decide +kernel
def kL12 : List (Nat × Instr) := [(486, .iload_n 3), (487, .iconst 2), (488, .iadd), (489, .iaload), (490, .aload_n 0), (491, .iload_n 3), (492, .iconst 3), (493, .iadd), (494, .iaload), (495, .invokevirtual 57), (498, .aload_n 2), (499, .aload_n 0), (500, .iload_n 3), (501, .iconst 1), (502, .iadd), (503, .iaload), (504, .aload_n 0), (505, .iload_n 3), (506, .iconst 2), (507, .iadd), (508, .iaload), (509, .aload_n 0), (510, .iload_n 3), (511, .iconst 3), (512, .iadd)]
set_option maxRecDepth 20000 in
theorem dcL12 : ∀ q ∈ kL12, decode cL_law q.1 = .ok (q.2, ilen q.1 q.2) := by decide +kernel
def kL13 : List (Nat × Instr) := [(513, .iaload), (514, .invokevirtual 61), (517, .lcmp), (518, .ifCond .eq 488), (521, .iconst 0), (522, .ireturn), (523, .aload_n 1), (524, .aload_n 0), (525, .iload_n 3), (526, .iconst 1), (527, .iadd), (528, .iaload), (529, .aload_n 0), (530, .iload_n 3), (531, .iconst 2), (532, .iadd), (533, .iaload), (534, .aload_n 0), (535, .iload_n 3), (536, .iconst 3), (537, .iadd), (538, .iaload), (539, .invokevirtual 62), (542, .aload_n 2), (543, .aload_n 0)]
set_option maxRecDepth 20000 in
theorem dcL13 : ∀ q ∈ kL13, decode cL_law q.1 = .ok (q.2, ilen q.1 q.2) := by decide +kernel
def kL14 : List (Nat × Instr) := [(544, .iload_n 3), (545, .iconst 1), (546, .iadd), (547, .iaload), (548, .aload_n 0), (549, .iload_n 3), (550, .iconst 2), (551, .iadd), (552, .iaload), (553, .aload_n 0), (554, .iload_n 3), (555, .iconst 3), (556, .iadd), (557, .iaload), (558, .invokevirtual 65), (561, .lcmp), (562, .ifCond .eq 444), (565, .iconst 0), (566, .ireturn), (567, .aload_n 1), (568, .aload_n 0), (569, .iload_n 3), (570, .iconst 1), (571, .iadd), (572, .iaload)]
set_option maxRecDepth 20000 in
theorem dcL14 : ∀ q ∈ kL14, decode cL_law q.1 = .ok (q.2, ilen q.1 q.2) := by decide +kernel
def kL15 : List (Nat × Instr) := [(573, .invokevirtual 66), (576, .aload_n 2), (577, .aload_n 0), (578, .iload_n 3), (579, .iconst 1), (580, .iadd), (581, .iaload), (582, .invokevirtual 69), (585, .if_icmp .eq 421), (588, .iconst 0), (589, .ireturn), (590, .aload_n 1), (591, .invokevirtual 70), (594, .aload_n 2), (595, .invokevirtual 74), (598, .if_icmp .eq 408), (601, .iconst 0), (602, .ireturn), (603, .aload_n 1), (604, .aload_n 0), (605, .iload_n 3), (606, .iconst 1), (607, .iadd), (608, .iaload), (609, .invokevirtual 75)]
set_option maxRecDepth 20000 in
theorem dcL15 : ∀ q ∈ kL15, decode cL_law q.1 = .ok (q.2, ilen q.1 q.2) := by decide +kernel
def kL16 : List (Nat × Instr) := [(612, .aload_n 2), (613, .aload_n 0), (614, .iload_n 3), (615, .iconst 1), (616, .iadd), (617, .iaload), (618, .invokevirtual 78), (621, .if_icmp .eq 385), (624, .iconst 0), (625, .ireturn), (626, .aload_n 1), (627, .invokevirtual 79), (630, .aload_n 2), (631, .invokevirtual 82), (634, .if_icmp .eq 372), (637, .iconst 0), (638, .ireturn), (639, .aload_n 1), (640, .aload_n 0), (641, .iload_n 3), (642, .iconst 1), (643, .iadd), (644, .iaload), (645, .invokevirtual 83), (648, .aload_n 2)]
set_option maxRecDepth 20000 in
theorem dcL16 : ∀ q ∈ kL16, decode cL_law q.1 = .ok (q.2, ilen q.1 q.2) := by decide +kernel
def kL17 : List (Nat × Instr) := [(649, .aload_n 0), (650, .iload_n 3), (651, .iconst 1), (652, .iadd), (653, .iaload), (654, .invokevirtual 86), (657, .if_icmp .eq 349), (660, .iconst 0), (661, .ireturn), (662, .aload_n 1), (663, .invokevirtual 87), (666, .aload_n 2), (667, .invokevirtual 90), (670, .if_icmp .eq 336), (673, .iconst 0), (674, .ireturn), (675, .aload_n 1), (676, .invokevirtual 91), (679, .aload_n 2), (680, .invokevirtual 94), (683, .if_icmp .eq 323), (686, .iconst 0), (687, .ireturn), (688, .aload_n 1), (689, .aload_n 0)]
set_option maxRecDepth 20000 in
theorem dcL17 : ∀ q ∈ kL17, decode cL_law q.1 = .ok (q.2, ilen q.1 q.2) := by decide +kernel
def kL18 : List (Nat × Instr) := [(690, .iload_n 3), (691, .iconst 1), (692, .iadd), (693, .iaload), (694, .aload_n 0), (695, .iload_n 3), (696, .iconst 2), (697, .iadd), (698, .iaload), (699, .aload_n 0), (700, .iload_n 3), (701, .iconst 3), (702, .iadd), (703, .iaload), (704, .aload_n 0), (705, .iload_n 3), (706, .iconst 4), (707, .iadd), (708, .iaload), (709, .invokevirtual 95), (712, .aload_n 2), (713, .aload_n 0), (714, .iload_n 3), (715, .iconst 1), (716, .iadd)]
set_option maxRecDepth 20000 in
theorem dcL18 : ∀ q ∈ kL18, decode cL_law q.1 = .ok (q.2, ilen q.1 q.2) := by decide +kernel
def kL19 : List (Nat × Instr) := [(717, .iaload), (718, .aload_n 0), (719, .iload_n 3), (720, .iconst 2), (721, .iadd), (722, .iaload), (723, .aload_n 0), (724, .iload_n 3), (725, .iconst 3), (726, .iadd), (727, .iaload), (728, .aload_n 0), (729, .iload_n 3), (730, .iconst 4), (731, .iadd), (732, .iaload), (733, .invokevirtual 99), (736, .if_icmp .eq 270), (739, .iconst 0), (740, .ireturn), (741, .aload_n 1), (742, .aload_n 0), (743, .iload_n 3), (744, .iconst 1), (745, .iadd)]
set_option maxRecDepth 20000 in
theorem dcL19 : ∀ q ∈ kL19, decode cL_law q.1 = .ok (q.2, ilen q.1 q.2) := by decide +kernel
def kL20 : List (Nat × Instr) := [(746, .iaload), (747, .aload_n 0), (748, .iload_n 3), (749, .iconst 2), (750, .iadd), (751, .iaload), (752, .aload_n 0), (753, .iload_n 3), (754, .iconst 3), (755, .iadd), (756, .iaload), (757, .aload_n 0), (758, .iload_n 3), (759, .iconst 4), (760, .iadd), (761, .iaload), (762, .invokevirtual 100), (765, .aload_n 2), (766, .aload_n 0), (767, .iload_n 3), (768, .iconst 1), (769, .iadd), (770, .iaload), (771, .aload_n 0), (772, .iload_n 3)]
set_option maxRecDepth 20000 in
theorem dcL20 : ∀ q ∈ kL20, decode cL_law q.1 = .ok (q.2, ilen q.1 q.2) := by decide +kernel
def kL21 : List (Nat × Instr) := [(773, .iconst 2), (774, .iadd), (775, .iaload), (776, .aload_n 0), (777, .iload_n 3), (778, .iconst 3), (779, .iadd), (780, .iaload), (781, .aload_n 0), (782, .iload_n 3), (783, .iconst 4), (784, .iadd), (785, .iaload), (786, .invokevirtual 103), (789, .if_icmp .eq 217), (792, .iconst 0), (793, .ireturn), (794, .aload_n 1), (795, .aload_n 0), (796, .iload_n 3), (797, .iconst 1), (798, .iadd), (799, .iaload), (800, .aload_n 0), (801, .iload_n 3)]
set_option maxRecDepth 20000 in
theorem dcL21 : ∀ q ∈ kL21, decode cL_law q.1 = .ok (q.2, ilen q.1 q.2) := by decide +kernel
def kL22 : List (Nat × Instr) := [(802, .iconst 2), (803, .iadd), (804, .iaload), (805, .aload_n 0), (806, .iload_n 3), (807, .iconst 3), (808, .iadd), (809, .iaload), (810, .invokevirtual 104), (813, .aload_n 2), (814, .aload_n 0), (815, .iload_n 3), (816, .iconst 1), (817, .iadd), (818, .iaload), (819, .aload_n 0), (820, .iload_n 3), (821, .iconst 2), (822, .iadd), (823, .iaload), (824, .aload_n 0), (825, .iload_n 3), (826, .iconst 3), (827, .iadd), (828, .iaload)]
set_option maxRecDepth 20000 in
theorem dcL22 : ∀ q ∈ kL22, decode cL_law q.1 = .ok (q.2, ilen q.1 q.2) := by decide +kernel
def kL23 : List (Nat × Instr) := [(829, .invokevirtual 107), (832, .if_icmp .eq 174), (835, .iconst 0), (836, .ireturn), (837, .aload_n 1), (838, .aload_n 0), (839, .iload_n 3), (840, .iconst 1), (841, .iadd), (842, .iaload), (843, .invokevirtual 108), (846, .aload_n 2), (847, .aload_n 0), (848, .iload_n 3), (849, .iconst 1), (850, .iadd), (851, .iaload), (852, .invokevirtual 111), (855, .if_icmp .eq 151), (858, .iconst 0), (859, .ireturn), (860, .aload_n 1), (861, .aload_n 0), (862, .iload_n 3), (863, .iconst 1)]
set_option maxRecDepth 20000 in
theorem dcL23 : ∀ q ∈ kL23, decode cL_law q.1 = .ok (q.2, ilen q.1 q.2) := by decide +kernel
def kL24 : List (Nat × Instr) := [(864, .iadd), (865, .iaload), (866, .aload_n 0), (867, .iload_n 3), (868, .iconst 2), (869, .iadd), (870, .iaload), (871, .aload_n 0), (872, .iload_n 3), (873, .iconst 3), (874, .iadd), (875, .iaload), (876, .aload_n 0), (877, .iload_n 3), (878, .iconst 4), (879, .iadd), (880, .iaload), (881, .i2l), (882, .bipush 32), (884, .lshl), (885, .aload_n 0), (886, .iload_n 3), (887, .iconst 5), (888, .iadd), (889, .iaload)]
set_option maxRecDepth 20000 in
theorem dcL24 : ∀ q ∈ kL24, decode cL_law q.1 = .ok (q.2, ilen q.1 q.2) := by decide +kernel
def kL25 : List (Nat × Instr) := [(890, .i2l), (891, .ldc2_w 112), (894, .land), (895, .lor), (896, .invokevirtual 114), (899, .aload_n 2), (900, .aload_n 0), (901, .iload_n 3), (902, .iconst 1), (903, .iadd), (904, .iaload), (905, .aload_n 0), (906, .iload_n 3), (907, .iconst 2), (908, .iadd), (909, .iaload), (910, .aload_n 0), (911, .iload_n 3), (912, .iconst 3), (913, .iadd), (914, .iaload), (915, .aload_n 0), (916, .iload_n 3), (917, .iconst 4), (918, .iadd)]
set_option maxRecDepth 20000 in
theorem dcL25 : ∀ q ∈ kL25, decode cL_law q.1 = .ok (q.2, ilen q.1 q.2) := by decide +kernel
def kL26 : List (Nat × Instr) := [(919, .iaload), (920, .i2l), (921, .bipush 32), (923, .lshl), (924, .aload_n 0), (925, .iload_n 3), (926, .iconst 5), (927, .iadd), (928, .iaload), (929, .i2l), (930, .ldc2_w 112), (933, .land), (934, .lor), (935, .invokevirtual 118), (938, .if_icmp .eq 68), (941, .iconst 0), (942, .ireturn), (943, .aload_n 1), (944, .aload_n 0), (945, .iload_n 3), (946, .iconst 1), (947, .iadd), (948, .iaload), (949, .aload_n 0), (950, .iload_n 3)]
set_option maxRecDepth 20000 in
theorem dcL26 : ∀ q ∈ kL26, decode cL_law q.1 = .ok (q.2, ilen q.1 q.2) := by decide +kernel
def kL27 : List (Nat × Instr) := [(951, .iconst 2), (952, .iadd), (953, .iaload), (954, .aload_n 0), (955, .iload_n 3), (956, .iconst 3), (957, .iadd), (958, .iaload), (959, .aload_n 0), (960, .iload_n 3), (961, .iconst 4), (962, .iadd), (963, .iaload), (964, .aload_n 0), (965, .iload_n 3), (966, .iconst 5), (967, .iadd), (968, .iaload), (969, .invokevirtual 119), (972, .aload_n 2), (973, .aload_n 0), (974, .iload_n 3), (975, .iconst 1), (976, .iadd), (977, .iaload)]
set_option maxRecDepth 20000 in
theorem dcL27 : ∀ q ∈ kL27, decode cL_law q.1 = .ok (q.2, ilen q.1 q.2) := by decide +kernel
def kL28 : List (Nat × Instr) := [(978, .aload_n 0), (979, .iload_n 3), (980, .iconst 2), (981, .iadd), (982, .iaload), (983, .aload_n 0), (984, .iload_n 3), (985, .iconst 3), (986, .iadd), (987, .iaload), (988, .aload_n 0), (989, .iload_n 3), (990, .iconst 4), (991, .iadd), (992, .iaload), (993, .aload_n 0), (994, .iload_n 3), (995, .iconst 5), (996, .iadd), (997, .iaload), (998, .invokevirtual 123), (1001, .if_icmp .eq 5), (1004, .iconst 0), (1005, .ireturn), (1006, .iinc 3 6)]
set_option maxRecDepth 20000 in
theorem dcL28 : ∀ q ∈ kL28, decode cL_law q.1 = .ok (q.2, ilen q.1 q.2) := by decide +kernel
def kL29 : List (Nat × Instr) := [(1009, .goto (-991)), (1012, .iconst 1), (1013, .ireturn)]
set_option maxRecDepth 20000 in
theorem dcL29 : ∀ q ∈ kL29, decode cL_law q.1 = .ok (q.2, ilen q.1 q.2) := by decide +kernel
def kL : List (Nat × Instr) := kL0 ++ (kL1 ++ (kL2 ++ (kL3 ++ (kL4 ++ (kL5 ++ (kL6 ++ (kL7 ++ (kL8 ++ (kL9 ++ (kL10 ++ (kL11 ++ (kL12 ++ (kL13 ++ (kL14 ++ (kL15 ++ (kL16 ++ (kL17 ++ (kL18 ++ (kL19 ++ (kL20 ++ (kL21 ++ (kL22 ++ (kL23 ++ (kL24 ++ (kL25 ++ (kL26 ++ (kL27 ++ (kL28 ++ (kL29)))))))))))))))))))))))))))))
theorem dcL : ∀ q ∈ kL, decode cL_law q.1 = .ok (q.2, ilen q.1 q.2) := (List.forall_mem_append.mpr ⟨dcL0, (List.forall_mem_append.mpr ⟨dcL1, (List.forall_mem_append.mpr ⟨dcL2, (List.forall_mem_append.mpr ⟨dcL3, (List.forall_mem_append.mpr ⟨dcL4, (List.forall_mem_append.mpr ⟨dcL5, (List.forall_mem_append.mpr ⟨dcL6, (List.forall_mem_append.mpr ⟨dcL7, (List.forall_mem_append.mpr ⟨dcL8, (List.forall_mem_append.mpr ⟨dcL9, (List.forall_mem_append.mpr ⟨dcL10, (List.forall_mem_append.mpr ⟨dcL11, (List.forall_mem_append.mpr ⟨dcL12, (List.forall_mem_append.mpr ⟨dcL13, (List.forall_mem_append.mpr ⟨dcL14, (List.forall_mem_append.mpr ⟨dcL15, (List.forall_mem_append.mpr ⟨dcL16, (List.forall_mem_append.mpr ⟨dcL17, (List.forall_mem_append.mpr ⟨dcL18, (List.forall_mem_append.mpr ⟨dcL19, (List.forall_mem_append.mpr ⟨dcL20, (List.forall_mem_append.mpr ⟨dcL21, (List.forall_mem_append.mpr ⟨dcL22, (List.forall_mem_append.mpr ⟨dcL23, (List.forall_mem_append.mpr ⟨dcL24, (List.forall_mem_append.mpr ⟨dcL25, (List.forall_mem_append.mpr ⟨dcL26, (List.forall_mem_append.mpr ⟨dcL27, (List.forall_mem_append.mpr ⟨dcL28, dcL29⟩)⟩)⟩)⟩)⟩)⟩)⟩)⟩)⟩)⟩)⟩)⟩)⟩)⟩)⟩)⟩)⟩)⟩)⟩)⟩)⟩)⟩)⟩)⟩)⟩)⟩)⟩)⟩)⟩)
theorem wcX8_init : Cond.code yX8_init cX8_init 2 none ∈ gw_tbl := gm 81 (by decide +kernel) rfl
theorem wiX8_init : Cond.instanceMethod yX8_init ∈ gw_tbl := gm 80 (by decide +kernel) rfl
theorem wnX8_init : Cond.initialized yX8_init.cls ∈ gw_tbl := gm 63 (by decide +kernel) rfl
theorem wbX8_init : BasOK yX8_init 0 := ⟨by decide +kernel, by decide +kernel, by decide +kernel⟩
theorem wcX9_init : Cond.code yX9_init cX9_init 2 none ∈ gw_tbl := gm 796 (by decide +kernel) rfl
theorem wiX9_init : Cond.instanceMethod yX9_init ∈ gw_tbl := gm 795 (by decide +kernel) rfl
theorem wnX9_init : Cond.initialized yX9_init.cls ∈ gw_tbl := gm 72 (by decide +kernel) rfl
theorem wbX9_init : BasOK yX9_init 0 := ⟨by decide +kernel, by decide +kernel, by decide +kernel⟩
theorem wcX8_add : Cond.code yX8_add cX8_add 4 (some .int) ∈ gw_tbl := gm 334 (by decide +kernel) rfl
theorem wiX8_add : Cond.instanceMethod yX8_add ∈ gw_tbl := gm 332 (by decide +kernel) rfl
theorem weX8_add : Cond.selects (clN 8) yX8_add yX8_add ∈ gw_tbl := gm 333 (by decide +kernel) rfl
theorem wnX8_add : Cond.initialized yX8_add.cls ∈ gw_tbl := gm 63 (by decide +kernel) rfl
theorem wbX8_add : BasOK yX8_add 3 := ⟨by decide +kernel, by decide +kernel, by decide +kernel⟩
theorem wcX9_add : Cond.code yX9_add cX9_add 5 (some .int) ∈ gw_tbl := gm 886 (by decide +kernel) rfl
theorem wiX9_add : Cond.instanceMethod yX9_add ∈ gw_tbl := gm 884 (by decide +kernel) rfl
theorem weX9_add : Cond.selects (clN 9) yX9_add yX9_add ∈ gw_tbl := gm 885 (by decide +kernel) rfl
theorem wnX9_add : Cond.initialized yX9_add.cls ∈ gw_tbl := gm 72 (by decide +kernel) rfl
theorem wbX9_add : BasOK yX9_add 3 := ⟨by decide +kernel, by decide +kernel, by decide +kernel⟩
theorem wcX8_out : Cond.code yX8_out cX8_out 2 (some .int) ∈ gw_tbl := gm 375 (by decide +kernel) rfl
theorem wiX8_out : Cond.instanceMethod yX8_out ∈ gw_tbl := gm 373 (by decide +kernel) rfl
theorem weX8_out : Cond.selects (clN 8) yX8_out yX8_out ∈ gw_tbl := gm 374 (by decide +kernel) rfl
theorem wnX8_out : Cond.initialized yX8_out.cls ∈ gw_tbl := gm 63 (by decide +kernel) rfl
theorem wbX8_out : BasOK yX8_out 1 := ⟨by decide +kernel, by decide +kernel, by decide +kernel⟩
theorem wcX9_out : Cond.code yX9_out cX9_out 3 (some .int) ∈ gw_tbl := gm 907 (by decide +kernel) rfl
theorem wiX9_out : Cond.instanceMethod yX9_out ∈ gw_tbl := gm 905 (by decide +kernel) rfl
theorem weX9_out : Cond.selects (clN 9) yX9_out yX9_out ∈ gw_tbl := gm 906 (by decide +kernel) rfl
theorem wnX9_out : Cond.initialized yX9_out.cls ∈ gw_tbl := gm 72 (by decide +kernel) rfl
theorem wbX9_out : BasOK yX9_out 1 := ⟨by decide +kernel, by decide +kernel, by decide +kernel⟩
theorem wcX8_move : Cond.code yX8_move cX8_move 5 (some .int) ∈ gw_tbl := gm 387 (by decide +kernel) rfl
theorem wiX8_move : Cond.instanceMethod yX8_move ∈ gw_tbl := gm 385 (by decide +kernel) rfl
theorem weX8_move : Cond.selects (clN 8) yX8_move yX8_move ∈ gw_tbl := gm 386 (by decide +kernel) rfl
theorem wnX8_move : Cond.initialized yX8_move.cls ∈ gw_tbl := gm 63 (by decide +kernel) rfl
theorem wbX8_move : BasOK yX8_move 3 := ⟨by decide +kernel, by decide +kernel, by decide +kernel⟩
theorem wcX9_move : Cond.code yX9_move cX9_move 5 (some .int) ∈ gw_tbl := gm 915 (by decide +kernel) rfl
theorem wiX9_move : Cond.instanceMethod yX9_move ∈ gw_tbl := gm 913 (by decide +kernel) rfl
theorem weX9_move : Cond.selects (clN 9) yX9_move yX9_move ∈ gw_tbl := gm 914 (by decide +kernel) rfl
theorem wnX9_move : Cond.initialized yX9_move.cls ∈ gw_tbl := gm 72 (by decide +kernel) rfl
theorem wbX9_move : BasOK yX9_move 3 := ⟨by decide +kernel, by decide +kernel, by decide +kernel⟩
theorem wcX8_tolerance : Cond.code yX8_tolerance cX8_tolerance 3 (some .int) ∈ gw_tbl := gm 401 (by decide +kernel) rfl
theorem wiX8_tolerance : Cond.instanceMethod yX8_tolerance ∈ gw_tbl := gm 399 (by decide +kernel) rfl
theorem weX8_tolerance : Cond.selects (clN 8) yX8_tolerance yX8_tolerance ∈ gw_tbl := gm 400 (by decide +kernel) rfl
theorem wnX8_tolerance : Cond.initialized yX8_tolerance.cls ∈ gw_tbl := gm 63 (by decide +kernel) rfl
theorem wbX8_tolerance : BasOK yX8_tolerance 1 := ⟨by decide +kernel, by decide +kernel, by decide +kernel⟩
theorem wcX9_tolerance : Cond.code yX9_tolerance cX9_tolerance 3 (some .int) ∈ gw_tbl := gm 924 (by decide +kernel) rfl
theorem wiX9_tolerance : Cond.instanceMethod yX9_tolerance ∈ gw_tbl := gm 922 (by decide +kernel) rfl
theorem weX9_tolerance : Cond.selects (clN 9) yX9_tolerance yX9_tolerance ∈ gw_tbl := gm 923 (by decide +kernel) rfl
theorem wnX9_tolerance : Cond.initialized yX9_tolerance.cls ∈ gw_tbl := gm 72 (by decide +kernel) rfl
theorem wbX9_tolerance : BasOK yX9_tolerance 1 := ⟨by decide +kernel, by decide +kernel, by decide +kernel⟩
theorem wcX8_point : Cond.code yX8_point cX8_point 3 (some .int) ∈ gw_tbl := gm 405 (by decide +kernel) rfl
theorem wiX8_point : Cond.instanceMethod yX8_point ∈ gw_tbl := gm 403 (by decide +kernel) rfl
theorem weX8_point : Cond.selects (clN 8) yX8_point yX8_point ∈ gw_tbl := gm 404 (by decide +kernel) rfl
theorem wnX8_point : Cond.initialized yX8_point.cls ∈ gw_tbl := gm 63 (by decide +kernel) rfl
theorem wbX8_point : BasOK yX8_point 2 := ⟨by decide +kernel, by decide +kernel, by decide +kernel⟩
theorem wcX9_point : Cond.code yX9_point cX9_point 3 (some .int) ∈ gw_tbl := gm 929 (by decide +kernel) rfl
theorem wiX9_point : Cond.instanceMethod yX9_point ∈ gw_tbl := gm 927 (by decide +kernel) rfl
theorem weX9_point : Cond.selects (clN 9) yX9_point yX9_point ∈ gw_tbl := gm 928 (by decide +kernel) rfl
theorem wnX9_point : Cond.initialized yX9_point.cls ∈ gw_tbl := gm 72 (by decide +kernel) rfl
theorem wbX9_point : BasOK yX9_point 2 := ⟨by decide +kernel, by decide +kernel, by decide +kernel⟩
theorem wcX8_hull : Cond.code yX8_hull cX8_hull 3 (some .int) ∈ gw_tbl := gm 409 (by decide +kernel) rfl
theorem wiX8_hull : Cond.instanceMethod yX8_hull ∈ gw_tbl := gm 407 (by decide +kernel) rfl
theorem weX8_hull : Cond.selects (clN 8) yX8_hull yX8_hull ∈ gw_tbl := gm 408 (by decide +kernel) rfl
theorem wnX8_hull : Cond.initialized yX8_hull.cls ∈ gw_tbl := gm 63 (by decide +kernel) rfl
theorem wbX8_hull : BasOK yX8_hull 2 := ⟨by decide +kernel, by decide +kernel, by decide +kernel⟩
theorem wcX9_hull : Cond.code yX9_hull cX9_hull 3 (some .int) ∈ gw_tbl := gm 933 (by decide +kernel) rfl
theorem wiX9_hull : Cond.instanceMethod yX9_hull ∈ gw_tbl := gm 931 (by decide +kernel) rfl
theorem weX9_hull : Cond.selects (clN 9) yX9_hull yX9_hull ∈ gw_tbl := gm 932 (by decide +kernel) rfl
theorem wnX9_hull : Cond.initialized yX9_hull.cls ∈ gw_tbl := gm 72 (by decide +kernel) rfl
theorem wbX9_hull : BasOK yX9_hull 2 := ⟨by decide +kernel, by decide +kernel, by decide +kernel⟩
theorem wcX8_edge : Cond.code yX8_edge cX8_edge 9 (some .int) ∈ gw_tbl := gm 460 (by decide +kernel) rfl
theorem wiX8_edge : Cond.instanceMethod yX8_edge ∈ gw_tbl := gm 458 (by decide +kernel) rfl
theorem weX8_edge : Cond.selects (clN 8) yX8_edge yX8_edge ∈ gw_tbl := gm 459 (by decide +kernel) rfl
theorem wnX8_edge : Cond.initialized yX8_edge.cls ∈ gw_tbl := gm 63 (by decide +kernel) rfl
theorem wbX8_edge : BasOK yX8_edge 3 := ⟨by decide +kernel, by decide +kernel, by decide +kernel⟩
theorem wcX9_edge : Cond.code yX9_edge cX9_edge 12 (some .int) ∈ gw_tbl := gm 961 (by decide +kernel) rfl
theorem wiX9_edge : Cond.instanceMethod yX9_edge ∈ gw_tbl := gm 959 (by decide +kernel) rfl
theorem weX9_edge : Cond.selects (clN 9) yX9_edge yX9_edge ∈ gw_tbl := gm 960 (by decide +kernel) rfl
theorem wnX9_edge : Cond.initialized yX9_edge.cls ∈ gw_tbl := gm 72 (by decide +kernel) rfl
theorem wbX9_edge : BasOK yX9_edge 3 := ⟨by decide +kernel, by decide +kernel, by decide +kernel⟩
theorem wcX8_count : Cond.code yX8_count cX8_count 2 (some .int) ∈ gw_tbl := gm 488 (by decide +kernel) rfl
theorem wiX8_count : Cond.instanceMethod yX8_count ∈ gw_tbl := gm 486 (by decide +kernel) rfl
theorem weX8_count : Cond.selects (clN 8) yX8_count yX8_count ∈ gw_tbl := gm 487 (by decide +kernel) rfl
theorem wnX8_count : Cond.initialized yX8_count.cls ∈ gw_tbl := gm 63 (by decide +kernel) rfl
theorem wbX8_count : BasOK yX8_count 1 := ⟨by decide +kernel, by decide +kernel, by decide +kernel⟩
theorem wcX9_count : Cond.code yX9_count cX9_count 2 (some .int) ∈ gw_tbl := gm 968 (by decide +kernel) rfl
theorem wiX9_count : Cond.instanceMethod yX9_count ∈ gw_tbl := gm 966 (by decide +kernel) rfl
theorem weX9_count : Cond.selects (clN 9) yX9_count yX9_count ∈ gw_tbl := gm 967 (by decide +kernel) rfl
theorem wnX9_count : Cond.initialized yX9_count.cls ∈ gw_tbl := gm 72 (by decide +kernel) rfl
theorem wbX9_count : BasOK yX9_count 1 := ⟨by decide +kernel, by decide +kernel, by decide +kernel⟩
theorem wcX8_judge : Cond.code yX8_judge cX8_judge 4 (some .long) ∈ gw_tbl := gm 500 (by decide +kernel) rfl
theorem wiX8_judge : Cond.instanceMethod yX8_judge ∈ gw_tbl := gm 498 (by decide +kernel) rfl
theorem weX8_judge : Cond.selects (clN 8) yX8_judge yX8_judge ∈ gw_tbl := gm 499 (by decide +kernel) rfl
theorem wnX8_judge : Cond.initialized yX8_judge.cls ∈ gw_tbl := gm 63 (by decide +kernel) rfl
theorem wbX8_judge : BasOK yX8_judge 2 := ⟨by decide +kernel, by decide +kernel, by decide +kernel⟩
theorem wcX9_judge : Cond.code yX9_judge cX9_judge 3 (some .long) ∈ gw_tbl := gm 976 (by decide +kernel) rfl
theorem wiX9_judge : Cond.instanceMethod yX9_judge ∈ gw_tbl := gm 974 (by decide +kernel) rfl
theorem weX9_judge : Cond.selects (clN 9) yX9_judge yX9_judge ∈ gw_tbl := gm 975 (by decide +kernel) rfl
theorem wnX9_judge : Cond.initialized yX9_judge.cls ∈ gw_tbl := gm 72 (by decide +kernel) rfl
theorem wbX9_judge : BasOK yX9_judge 2 := ⟨by decide +kernel, by decide +kernel, by decide +kernel⟩
theorem wcX8_way : Cond.code yX8_way cX8_way 4 (some .int) ∈ gw_tbl := gm 596 (by decide +kernel) rfl
theorem wiX8_way : Cond.instanceMethod yX8_way ∈ gw_tbl := gm 594 (by decide +kernel) rfl
theorem weX8_way : Cond.selects (clN 8) yX8_way yX8_way ∈ gw_tbl := gm 595 (by decide +kernel) rfl
theorem wnX8_way : Cond.initialized yX8_way.cls ∈ gw_tbl := gm 63 (by decide +kernel) rfl
theorem wbX8_way : BasOK yX8_way 2 := ⟨by decide +kernel, by decide +kernel, by decide +kernel⟩
theorem wcX9_way : Cond.code yX9_way cX9_way 3 (some .int) ∈ gw_tbl := gm 1036 (by decide +kernel) rfl
theorem wiX9_way : Cond.instanceMethod yX9_way ∈ gw_tbl := gm 1034 (by decide +kernel) rfl
theorem weX9_way : Cond.selects (clN 9) yX9_way yX9_way ∈ gw_tbl := gm 1035 (by decide +kernel) rfl
theorem wnX9_way : Cond.initialized yX9_way.cls ∈ gw_tbl := gm 72 (by decide +kernel) rfl
theorem wbX9_way : BasOK yX9_way 2 := ⟨by decide +kernel, by decide +kernel, by decide +kernel⟩
theorem wcX8_without : Cond.code yX8_without cX8_without 5 (some .long) ∈ gw_tbl := gm 606 (by decide +kernel) rfl
theorem wiX8_without : Cond.instanceMethod yX8_without ∈ gw_tbl := gm 604 (by decide +kernel) rfl
theorem weX8_without : Cond.selects (clN 8) yX8_without yX8_without ∈ gw_tbl := gm 605 (by decide +kernel) rfl
theorem wnX8_without : Cond.initialized yX8_without.cls ∈ gw_tbl := gm 63 (by decide +kernel) rfl
theorem wbX8_without : BasOK yX8_without 3 := ⟨by decide +kernel, by decide +kernel, by decide +kernel⟩
theorem wcX9_without : Cond.code yX9_without cX9_without 4 (some .long) ∈ gw_tbl := gm 1040 (by decide +kernel) rfl
theorem wiX9_without : Cond.instanceMethod yX9_without ∈ gw_tbl := gm 1038 (by decide +kernel) rfl
theorem weX9_without : Cond.selects (clN 9) yX9_without yX9_without ∈ gw_tbl := gm 1039 (by decide +kernel) rfl
theorem wnX9_without : Cond.initialized yX9_without.cls ∈ gw_tbl := gm 72 (by decide +kernel) rfl
theorem wbX9_without : BasOK yX9_without 3 := ⟨by decide +kernel, by decide +kernel, by decide +kernel⟩
theorem wcX8_lost : Cond.code yX8_lost cX8_lost 4 (some .long) ∈ gw_tbl := gm 610 (by decide +kernel) rfl
theorem wiX8_lost : Cond.instanceMethod yX8_lost ∈ gw_tbl := gm 608 (by decide +kernel) rfl
theorem weX8_lost : Cond.selects (clN 8) yX8_lost yX8_lost ∈ gw_tbl := gm 609 (by decide +kernel) rfl
theorem wnX8_lost : Cond.initialized yX8_lost.cls ∈ gw_tbl := gm 63 (by decide +kernel) rfl
theorem wbX8_lost : BasOK yX8_lost 3 := ⟨by decide +kernel, by decide +kernel, by decide +kernel⟩
theorem wcX9_lost : Cond.code yX9_lost cX9_lost 12 (some .long) ∈ gw_tbl := gm 1044 (by decide +kernel) rfl
theorem wiX9_lost : Cond.instanceMethod yX9_lost ∈ gw_tbl := gm 1042 (by decide +kernel) rfl
theorem weX9_lost : Cond.selects (clN 9) yX9_lost yX9_lost ∈ gw_tbl := gm 1043 (by decide +kernel) rfl
theorem wnX9_lost : Cond.initialized yX9_lost.cls ∈ gw_tbl := gm 72 (by decide +kernel) rfl
theorem wbX9_lost : BasOK yX9_lost 3 := ⟨by decide +kernel, by decide +kernel, by decide +kernel⟩
theorem wcX8_type : Cond.code yX8_type cX8_type 2 (some .int) ∈ gw_tbl := gm 647 (by decide +kernel) rfl
theorem wiX8_type : Cond.instanceMethod yX8_type ∈ gw_tbl := gm 645 (by decide +kernel) rfl
theorem weX8_type : Cond.selects (clN 8) yX8_type yX8_type ∈ gw_tbl := gm 646 (by decide +kernel) rfl
theorem wnX8_type : Cond.initialized yX8_type.cls ∈ gw_tbl := gm 63 (by decide +kernel) rfl
theorem wbX8_type : BasOK yX8_type 1 := ⟨by decide +kernel, by decide +kernel, by decide +kernel⟩
theorem wcX9_type : Cond.code yX9_type cX9_type 2 (some .int) ∈ gw_tbl := gm 1049 (by decide +kernel) rfl
theorem wiX9_type : Cond.instanceMethod yX9_type ∈ gw_tbl := gm 1047 (by decide +kernel) rfl
theorem weX9_type : Cond.selects (clN 9) yX9_type yX9_type ∈ gw_tbl := gm 1048 (by decide +kernel) rfl
theorem wnX9_type : Cond.initialized yX9_type.cls ∈ gw_tbl := gm 72 (by decide +kernel) rfl
theorem wbX9_type : BasOK yX9_type 1 := ⟨by decide +kernel, by decide +kernel, by decide +kernel⟩
theorem wcX8_read : Cond.code yX8_read cX8_read 3 (some .int) ∈ gw_tbl := gm 655 (by decide +kernel) rfl
theorem wiX8_read : Cond.instanceMethod yX8_read ∈ gw_tbl := gm 653 (by decide +kernel) rfl
theorem weX8_read : Cond.selects (clN 8) yX8_read yX8_read ∈ gw_tbl := gm 654 (by decide +kernel) rfl
theorem wnX8_read : Cond.initialized yX8_read.cls ∈ gw_tbl := gm 63 (by decide +kernel) rfl
theorem wbX8_read : BasOK yX8_read 0 := ⟨by decide +kernel, by decide +kernel, by decide +kernel⟩
theorem wcX9_read : Cond.code yX9_read cX9_read 3 (some .int) ∈ gw_tbl := gm 1055 (by decide +kernel) rfl
theorem wiX9_read : Cond.instanceMethod yX9_read ∈ gw_tbl := gm 1053 (by decide +kernel) rfl
theorem weX9_read : Cond.selects (clN 9) yX9_read yX9_read ∈ gw_tbl := gm 1054 (by decide +kernel) rfl
theorem wnX9_read : Cond.initialized yX9_read.cls ∈ gw_tbl := gm 72 (by decide +kernel) rfl
theorem wbX9_read : BasOK yX9_read 0 := ⟨by decide +kernel, by decide +kernel, by decide +kernel⟩
theorem wcX8_drift : Cond.code yX8_drift cX8_drift 4 (some .int) ∈ gw_tbl := gm 700 (by decide +kernel) rfl
theorem wiX8_drift : Cond.instanceMethod yX8_drift ∈ gw_tbl := gm 698 (by decide +kernel) rfl
theorem weX8_drift : Cond.selects (clN 8) yX8_drift yX8_drift ∈ gw_tbl := gm 699 (by decide +kernel) rfl
theorem wnX8_drift : Cond.initialized yX8_drift.cls ∈ gw_tbl := gm 63 (by decide +kernel) rfl
theorem wbX8_drift : BasOK yX8_drift 1 := ⟨by decide +kernel, by decide +kernel, by decide +kernel⟩
theorem wcX9_drift : Cond.code yX9_drift cX9_drift 4 (some .int) ∈ gw_tbl := gm 1085 (by decide +kernel) rfl
theorem wiX9_drift : Cond.instanceMethod yX9_drift ∈ gw_tbl := gm 1083 (by decide +kernel) rfl
theorem weX9_drift : Cond.selects (clN 9) yX9_drift yX9_drift ∈ gw_tbl := gm 1084 (by decide +kernel) rfl
theorem wnX9_drift : Cond.initialized yX9_drift.cls ∈ gw_tbl := gm 72 (by decide +kernel) rfl
theorem wbX9_drift : BasOK yX9_drift 1 := ⟨by decide +kernel, by decide +kernel, by decide +kernel⟩
theorem wcX8_undo : Cond.code yX8_undo cX8_undo 1 (some .int) ∈ gw_tbl := gm 713 (by decide +kernel) rfl
theorem wiX8_undo : Cond.instanceMethod yX8_undo ∈ gw_tbl := gm 711 (by decide +kernel) rfl
theorem weX8_undo : Cond.selects (clN 8) yX8_undo yX8_undo ∈ gw_tbl := gm 712 (by decide +kernel) rfl
theorem wnX8_undo : Cond.initialized yX8_undo.cls ∈ gw_tbl := gm 63 (by decide +kernel) rfl
theorem wbX8_undo : BasOK yX8_undo 0 := ⟨by decide +kernel, by decide +kernel, by decide +kernel⟩
theorem wcX9_undo : Cond.code yX9_undo cX9_undo 2 (some .int) ∈ gw_tbl := gm 1098 (by decide +kernel) rfl
theorem wiX9_undo : Cond.instanceMethod yX9_undo ∈ gw_tbl := gm 1096 (by decide +kernel) rfl
theorem weX9_undo : Cond.selects (clN 9) yX9_undo yX9_undo ∈ gw_tbl := gm 1097 (by decide +kernel) rfl
theorem wnX9_undo : Cond.initialized yX9_undo.cls ∈ gw_tbl := gm 72 (by decide +kernel) rfl
theorem wbX9_undo : BasOK yX9_undo 0 := ⟨by decide +kernel, by decide +kernel, by decide +kernel⟩
theorem wcX8_seed : Cond.code yX8_seed cX8_seed 3 (some .int) ∈ gw_tbl := gm 721 (by decide +kernel) rfl
theorem wiX8_seed : Cond.instanceMethod yX8_seed ∈ gw_tbl := gm 719 (by decide +kernel) rfl
theorem weX8_seed : Cond.selects (clN 8) yX8_seed yX8_seed ∈ gw_tbl := gm 720 (by decide +kernel) rfl
theorem wnX8_seed : Cond.initialized yX8_seed.cls ∈ gw_tbl := gm 63 (by decide +kernel) rfl
theorem wbX8_seed : BasOK yX8_seed 1 := ⟨by decide +kernel, by decide +kernel, by decide +kernel⟩
theorem wcX9_seed : Cond.code yX9_seed cX9_seed 3 (some .int) ∈ gw_tbl := gm 1102 (by decide +kernel) rfl
theorem wiX9_seed : Cond.instanceMethod yX9_seed ∈ gw_tbl := gm 1100 (by decide +kernel) rfl
theorem weX9_seed : Cond.selects (clN 9) yX9_seed yX9_seed ∈ gw_tbl := gm 1101 (by decide +kernel) rfl
theorem wnX9_seed : Cond.initialized yX9_seed.cls ∈ gw_tbl := gm 72 (by decide +kernel) rfl
theorem wbX9_seed : BasOK yX9_seed 1 := ⟨by decide +kernel, by decide +kernel, by decide +kernel⟩
theorem wcX8_image : Cond.code yX8_image cX8_image 1 (some .int) ∈ gw_tbl := gm 725 (by decide +kernel) rfl
theorem wiX8_image : Cond.instanceMethod yX8_image ∈ gw_tbl := gm 723 (by decide +kernel) rfl
theorem weX8_image : Cond.selects (clN 8) yX8_image yX8_image ∈ gw_tbl := gm 724 (by decide +kernel) rfl
theorem wnX8_image : Cond.initialized yX8_image.cls ∈ gw_tbl := gm 63 (by decide +kernel) rfl
theorem wbX8_image : BasOK yX8_image 0 := ⟨by decide +kernel, by decide +kernel, by decide +kernel⟩
theorem wcX9_image : Cond.code yX9_image cX9_image 2 (some .int) ∈ gw_tbl := gm 1106 (by decide +kernel) rfl
theorem wiX9_image : Cond.instanceMethod yX9_image ∈ gw_tbl := gm 1104 (by decide +kernel) rfl
theorem weX9_image : Cond.selects (clN 9) yX9_image yX9_image ∈ gw_tbl := gm 1105 (by decide +kernel) rfl
theorem wnX9_image : Cond.initialized yX9_image.cls ∈ gw_tbl := gm 72 (by decide +kernel) rfl
theorem wbX9_image : BasOK yX9_image 0 := ⟨by decide +kernel, by decide +kernel, by decide +kernel⟩
theorem wcX8_restore : Cond.code yX8_restore cX8_restore 1 (some .int) ∈ gw_tbl := gm 734 (by decide +kernel) rfl
theorem wiX8_restore : Cond.instanceMethod yX8_restore ∈ gw_tbl := gm 732 (by decide +kernel) rfl
theorem weX8_restore : Cond.selects (clN 8) yX8_restore yX8_restore ∈ gw_tbl := gm 733 (by decide +kernel) rfl
theorem wnX8_restore : Cond.initialized yX8_restore.cls ∈ gw_tbl := gm 63 (by decide +kernel) rfl
theorem wbX8_restore : BasOK yX8_restore 0 := ⟨by decide +kernel, by decide +kernel, by decide +kernel⟩
theorem wcX9_restore : Cond.code yX9_restore cX9_restore 2 (some .int) ∈ gw_tbl := gm 1110 (by decide +kernel) rfl
theorem wiX9_restore : Cond.instanceMethod yX9_restore ∈ gw_tbl := gm 1108 (by decide +kernel) rfl
theorem weX9_restore : Cond.selects (clN 9) yX9_restore yX9_restore ∈ gw_tbl := gm 1109 (by decide +kernel) rfl
theorem wnX9_restore : Cond.initialized yX9_restore.cls ∈ gw_tbl := gm 72 (by decide +kernel) rfl
theorem wbX9_restore : BasOK yX9_restore 0 := ⟨by decide +kernel, by decide +kernel, by decide +kernel⟩
theorem wcX8_corners : Cond.code yX8_corners cX8_corners 9 (some .int) ∈ gw_tbl := gm 738 (by decide +kernel) rfl
theorem wiX8_corners : Cond.instanceMethod yX8_corners ∈ gw_tbl := gm 736 (by decide +kernel) rfl
theorem weX8_corners : Cond.selects (clN 8) yX8_corners yX8_corners ∈ gw_tbl := gm 737 (by decide +kernel) rfl
theorem wnX8_corners : Cond.initialized yX8_corners.cls ∈ gw_tbl := gm 63 (by decide +kernel) rfl
theorem wbX8_corners : BasOK yX8_corners 4 := ⟨by decide +kernel, by decide +kernel, by decide +kernel⟩
theorem wcX9_corners : Cond.code yX9_corners cX9_corners 8 (some .int) ∈ gw_tbl := gm 1114 (by decide +kernel) rfl
theorem wiX9_corners : Cond.instanceMethod yX9_corners ∈ gw_tbl := gm 1112 (by decide +kernel) rfl
theorem weX9_corners : Cond.selects (clN 9) yX9_corners yX9_corners ∈ gw_tbl := gm 1113 (by decide +kernel) rfl
theorem wnX9_corners : Cond.initialized yX9_corners.cls ∈ gw_tbl := gm 72 (by decide +kernel) rfl
theorem wbX9_corners : BasOK yX9_corners 4 := ⟨by decide +kernel, by decide +kernel, by decide +kernel⟩
theorem wcX8_film : Cond.code yX8_film cX8_film 8 (some .int) ∈ gw_tbl := gm 764 (by decide +kernel) rfl
theorem wiX8_film : Cond.instanceMethod yX8_film ∈ gw_tbl := gm 762 (by decide +kernel) rfl
theorem weX8_film : Cond.selects (clN 8) yX8_film yX8_film ∈ gw_tbl := gm 763 (by decide +kernel) rfl
theorem wnX8_film : Cond.initialized yX8_film.cls ∈ gw_tbl := gm 63 (by decide +kernel) rfl
theorem wbX8_film : BasOK yX8_film 4 := ⟨by decide +kernel, by decide +kernel, by decide +kernel⟩
theorem wcX9_film : Cond.code yX9_film cX9_film 7 (some .int) ∈ gw_tbl := gm 1128 (by decide +kernel) rfl
theorem wiX9_film : Cond.instanceMethod yX9_film ∈ gw_tbl := gm 1126 (by decide +kernel) rfl
theorem weX9_film : Cond.selects (clN 9) yX9_film yX9_film ∈ gw_tbl := gm 1127 (by decide +kernel) rfl
theorem wnX9_film : Cond.initialized yX9_film.cls ∈ gw_tbl := gm 72 (by decide +kernel) rfl
theorem wbX9_film : BasOK yX9_film 4 := ⟨by decide +kernel, by decide +kernel, by decide +kernel⟩
theorem wcX8_sheet : Cond.code yX8_sheet cX8_sheet 4 (some .int) ∈ gw_tbl := gm 768 (by decide +kernel) rfl
theorem wiX8_sheet : Cond.instanceMethod yX8_sheet ∈ gw_tbl := gm 766 (by decide +kernel) rfl
theorem weX8_sheet : Cond.selects (clN 8) yX8_sheet yX8_sheet ∈ gw_tbl := gm 767 (by decide +kernel) rfl
theorem wnX8_sheet : Cond.initialized yX8_sheet.cls ∈ gw_tbl := gm 63 (by decide +kernel) rfl
theorem wbX8_sheet : BasOK yX8_sheet 3 := ⟨by decide +kernel, by decide +kernel, by decide +kernel⟩
theorem wcX9_sheet : Cond.code yX9_sheet cX9_sheet 5 (some .int) ∈ gw_tbl := gm 1132 (by decide +kernel) rfl
theorem wiX9_sheet : Cond.instanceMethod yX9_sheet ∈ gw_tbl := gm 1130 (by decide +kernel) rfl
theorem weX9_sheet : Cond.selects (clN 9) yX9_sheet yX9_sheet ∈ gw_tbl := gm 1131 (by decide +kernel) rfl
theorem wnX9_sheet : Cond.initialized yX9_sheet.cls ∈ gw_tbl := gm 72 (by decide +kernel) rfl
theorem wbX9_sheet : BasOK yX9_sheet 3 := ⟨by decide +kernel, by decide +kernel, by decide +kernel⟩
theorem wcX8_drop : Cond.code yX8_drop cX8_drop 2 (some .int) ∈ gw_tbl := gm 778 (by decide +kernel) rfl
theorem wiX8_drop : Cond.instanceMethod yX8_drop ∈ gw_tbl := gm 776 (by decide +kernel) rfl
theorem weX8_drop : Cond.selects (clN 8) yX8_drop yX8_drop ∈ gw_tbl := gm 777 (by decide +kernel) rfl
theorem wnX8_drop : Cond.initialized yX8_drop.cls ∈ gw_tbl := gm 63 (by decide +kernel) rfl
theorem wbX8_drop : BasOK yX8_drop 1 := ⟨by decide +kernel, by decide +kernel, by decide +kernel⟩
theorem wcX9_drop : Cond.code yX9_drop cX9_drop 3 (some .int) ∈ gw_tbl := gm 1136 (by decide +kernel) rfl
theorem wiX9_drop : Cond.instanceMethod yX9_drop ∈ gw_tbl := gm 1134 (by decide +kernel) rfl
theorem weX9_drop : Cond.selects (clN 9) yX9_drop yX9_drop ∈ gw_tbl := gm 1135 (by decide +kernel) rfl
theorem wnX9_drop : Cond.initialized yX9_drop.cls ∈ gw_tbl := gm 72 (by decide +kernel) rfl
theorem wbX9_drop : BasOK yX9_drop 1 := ⟨by decide +kernel, by decide +kernel, by decide +kernel⟩
theorem wcX8_item : Cond.code yX8_item cX8_item 7 (some .int) ∈ gw_tbl := gm 782 (by decide +kernel) rfl
theorem wiX8_item : Cond.instanceMethod yX8_item ∈ gw_tbl := gm 780 (by decide +kernel) rfl
theorem weX8_item : Cond.selects (clN 8) yX8_item yX8_item ∈ gw_tbl := gm 781 (by decide +kernel) rfl
theorem wnX8_item : Cond.initialized yX8_item.cls ∈ gw_tbl := gm 63 (by decide +kernel) rfl
theorem wbX8_item : BasOK yX8_item 4 := ⟨by decide +kernel, by decide +kernel, by decide +kernel⟩
theorem wcX9_item : Cond.code yX9_item cX9_item 7 (some .int) ∈ gw_tbl := gm 1140 (by decide +kernel) rfl
theorem wiX9_item : Cond.instanceMethod yX9_item ∈ gw_tbl := gm 1138 (by decide +kernel) rfl
theorem weX9_item : Cond.selects (clN 9) yX9_item yX9_item ∈ gw_tbl := gm 1139 (by decide +kernel) rfl
theorem wnX9_item : Cond.initialized yX9_item.cls ∈ gw_tbl := gm 72 (by decide +kernel) rfl
theorem wbX9_item : BasOK yX9_item 4 := ⟨by decide +kernel, by decide +kernel, by decide +kernel⟩
theorem wcX8_copy : Cond.code yX8_copy cX8_copy 6 (some .int) ∈ gw_tbl := gm 789 (by decide +kernel) rfl
theorem wiX8_copy : Cond.instanceMethod yX8_copy ∈ gw_tbl := gm 787 (by decide +kernel) rfl
theorem weX8_copy : Cond.selects (clN 8) yX8_copy yX8_copy ∈ gw_tbl := gm 788 (by decide +kernel) rfl
theorem wnX8_copy : Cond.initialized yX8_copy.cls ∈ gw_tbl := gm 63 (by decide +kernel) rfl
theorem wbX8_copy : BasOK yX8_copy 5 := ⟨by decide +kernel, by decide +kernel, by decide +kernel⟩
theorem wcX9_copy : Cond.code yX9_copy cX9_copy 7 (some .int) ∈ gw_tbl := gm 1147 (by decide +kernel) rfl
theorem wiX9_copy : Cond.instanceMethod yX9_copy ∈ gw_tbl := gm 1145 (by decide +kernel) rfl
theorem weX9_copy : Cond.selects (clN 9) yX9_copy yX9_copy ∈ gw_tbl := gm 1146 (by decide +kernel) rfl
theorem wnX9_copy : Cond.initialized yX9_copy.cls ∈ gw_tbl := gm 72 (by decide +kernel) rfl
theorem wbX9_copy : BasOK yX9_copy 5 := ⟨by decide +kernel, by decide +kernel, by decide +kernel⟩
noncomputable def mL : Mth := (lk kL, lk [], lk [], lk [(112, 4294967295)], lk [(13, (0, 4, vfn 8 fX8_add)), (17, (0, 4, vfn 9 fX9_add)), (18, (0, 2, vfn 8 fX8_out)), (22, (0, 2, vfn 9 fX9_out)), (23, (0, 4, vfn 8 fX8_move)), (26, (0, 4, vfn 9 fX9_move)), (27, (0, 2, vfn 8 fX8_tolerance)), (30, (0, 2, vfn 9 fX9_tolerance)), (31, (0, 3, vfn 8 fX8_point)), (35, (0, 3, vfn 9 fX9_point)), (36, (0, 3, vfn 8 fX8_hull)), (39, (0, 3, vfn 9 fX9_hull)), (40, (0, 4, vfn 8 fX8_edge)), (43, (0, 4, vfn 9 fX9_edge)), (44, (0, 2, vfn 8 fX8_count)), (47, (0, 2, vfn 9 fX9_count)), (48, (0, 3, vfn 8 fX8_judge)), (52, (0, 3, vfn 9 fX9_judge)), (53, (0, 3, vfn 8 fX8_way)), (56, (0, 3, vfn 9 fX9_way)), (57, (0, 4, vfn 8 fX8_without)), (61, (0, 4, vfn 9 fX9_without)), (62, (0, 4, vfn 8 fX8_lost)), (65, (0, 4, vfn 9 fX9_lost)), (66, (0, 2, vfn 8 fX8_type)), (69, (0, 2, vfn 9 fX9_type)), (70, (0, 1, vfn 8 fX8_read)), (74, (0, 1, vfn 9 fX9_read)), (75, (0, 2, vfn 8 fX8_drift)), (78, (0, 2, vfn 9 fX9_drift)), (79, (0, 1, vfn 8 fX8_undo)), (82, (0, 1, vfn 9 fX9_undo)), (83, (0, 2, vfn 8 fX8_seed)), (86, (0, 2, vfn 9 fX9_seed)), (87, (0, 1, vfn 8 fX8_image)), (90, (0, 1, vfn 9 fX9_image)), (91, (0, 1, vfn 8 fX8_restore)), (94, (0, 1, vfn 9 fX9_restore)), (95, (0, 5, vfn 8 fX8_corners)), (99, (0, 5, vfn 9 fX9_corners)), (100, (0, 5, vfn 8 fX8_film)), (103, (0, 5, vfn 9 fX9_film)), (104, (0, 4, vfn 8 fX8_sheet)), (107, (0, 4, vfn 9 fX9_sheet)), (108, (0, 2, vfn 8 fX8_drop)), (111, (0, 2, vfn 9 fX9_drop)), (114, (0, 5, vfn 8 fX8_item)), (118, (0, 5, vfn 9 fX9_item)), (119, (0, 6, vfn 8 fX8_copy)), (123, (0, 6, vfn 9 fX9_copy))], lk [], some .boolean, 99, false)
noncomputable def mL0 : Mth := (lk kL, lk [], lk [], lk [], lk [(9, (1, 1, vfn 8 fX8_init)), (12, (1, 1, vfn 9 fX9_init))], lk [(7, 8), (10, 9)], some .boolean, 99, false)
theorem callsL : ∀ k t, mCal mL k = some t → CX false R_law 11 480 k t := fun k t h => lk_all (P := CX false R_law 11 480) (List.forall_mem_cons.mpr ⟨cx_V ctX8_add (by decide) rfl (Or.inl (gm 331 (by decide +kernel) rfl)) wiX8_add weX8_add wnX8_add wcX8_add wbX8_add ⟨Nat.le_of_ble_eq_true rfl, Nat.le_of_ble_eq_true rfl⟩, (List.forall_mem_cons.mpr ⟨cx_V ctX9_add (by decide) rfl (Or.inl (gm 883 (by decide +kernel) rfl)) wiX9_add weX9_add wnX9_add wcX9_add wbX9_add ⟨Nat.le_of_ble_eq_true rfl, Nat.le_of_ble_eq_true rfl⟩, (List.forall_mem_cons.mpr ⟨cx_V ctX8_out (by decide) rfl (Or.inl (gm 372 (by decide +kernel) rfl)) wiX8_out weX8_out wnX8_out wcX8_out wbX8_out ⟨Nat.le_of_ble_eq_true rfl, Nat.le_of_ble_eq_true rfl⟩, (List.forall_mem_cons.mpr ⟨cx_V ctX9_out (by decide) rfl (Or.inl (gm 904 (by decide +kernel) rfl)) wiX9_out weX9_out wnX9_out wcX9_out wbX9_out ⟨Nat.le_of_ble_eq_true rfl, Nat.le_of_ble_eq_true rfl⟩, (List.forall_mem_cons.mpr ⟨cx_V ctX8_move (by decide) rfl (Or.inl (gm 384 (by decide +kernel) rfl)) wiX8_move weX8_move wnX8_move wcX8_move wbX8_move ⟨Nat.le_of_ble_eq_true rfl, Nat.le_of_ble_eq_true rfl⟩, (List.forall_mem_cons.mpr ⟨cx_V ctX9_move (by decide) rfl (Or.inl (gm 912 (by decide +kernel) rfl)) wiX9_move weX9_move wnX9_move wcX9_move wbX9_move ⟨Nat.le_of_ble_eq_true rfl, Nat.le_of_ble_eq_true rfl⟩, (List.forall_mem_cons.mpr ⟨cx_V ctX8_tolerance (by decide) rfl (Or.inl (gm 398 (by decide +kernel) rfl)) wiX8_tolerance weX8_tolerance wnX8_tolerance wcX8_tolerance wbX8_tolerance ⟨Nat.le_of_ble_eq_true rfl, Nat.le_of_ble_eq_true rfl⟩, (List.forall_mem_cons.mpr ⟨cx_V ctX9_tolerance (by decide) rfl (Or.inl (gm 921 (by decide +kernel) rfl)) wiX9_tolerance weX9_tolerance wnX9_tolerance wcX9_tolerance wbX9_tolerance ⟨Nat.le_of_ble_eq_true rfl, Nat.le_of_ble_eq_true rfl⟩, (List.forall_mem_cons.mpr ⟨cx_V ctX8_point (by decide) rfl (Or.inl (gm 402 (by decide +kernel) rfl)) wiX8_point weX8_point wnX8_point wcX8_point wbX8_point ⟨Nat.le_of_ble_eq_true rfl, Nat.le_of_ble_eq_true rfl⟩, (List.forall_mem_cons.mpr ⟨cx_V ctX9_point (by decide) rfl (Or.inl (gm 926 (by decide +kernel) rfl)) wiX9_point weX9_point wnX9_point wcX9_point wbX9_point ⟨Nat.le_of_ble_eq_true rfl, Nat.le_of_ble_eq_true rfl⟩, (List.forall_mem_cons.mpr ⟨cx_V ctX8_hull (by decide) rfl (Or.inl (gm 406 (by decide +kernel) rfl)) wiX8_hull weX8_hull wnX8_hull wcX8_hull wbX8_hull ⟨Nat.le_of_ble_eq_true rfl, Nat.le_of_ble_eq_true rfl⟩, (List.forall_mem_cons.mpr ⟨cx_V ctX9_hull (by decide) rfl (Or.inl (gm 930 (by decide +kernel) rfl)) wiX9_hull weX9_hull wnX9_hull wcX9_hull wbX9_hull ⟨Nat.le_of_ble_eq_true rfl, Nat.le_of_ble_eq_true rfl⟩, (List.forall_mem_cons.mpr ⟨cx_V ctX8_edge (by decide) rfl (Or.inl (gm 457 (by decide +kernel) rfl)) wiX8_edge weX8_edge wnX8_edge wcX8_edge wbX8_edge ⟨Nat.le_of_ble_eq_true rfl, Nat.le_of_ble_eq_true rfl⟩, (List.forall_mem_cons.mpr ⟨cx_V ctX9_edge (by decide) rfl (Or.inl (gm 958 (by decide +kernel) rfl)) wiX9_edge weX9_edge wnX9_edge wcX9_edge wbX9_edge ⟨Nat.le_of_ble_eq_true rfl, Nat.le_of_ble_eq_true rfl⟩, (List.forall_mem_cons.mpr ⟨cx_V ctX8_count (by decide) rfl (Or.inl (gm 485 (by decide +kernel) rfl)) wiX8_count weX8_count wnX8_count wcX8_count wbX8_count ⟨Nat.le_of_ble_eq_true rfl, Nat.le_of_ble_eq_true rfl⟩, (List.forall_mem_cons.mpr ⟨cx_V ctX9_count (by decide) rfl (Or.inl (gm 965 (by decide +kernel) rfl)) wiX9_count weX9_count wnX9_count wcX9_count wbX9_count ⟨Nat.le_of_ble_eq_true rfl, Nat.le_of_ble_eq_true rfl⟩, (List.forall_mem_cons.mpr ⟨cx_V ctX8_judge (by decide) rfl (Or.inl (gm 497 (by decide +kernel) rfl)) wiX8_judge weX8_judge wnX8_judge wcX8_judge wbX8_judge ⟨Nat.le_of_ble_eq_true rfl, Nat.le_of_ble_eq_true rfl⟩, (List.forall_mem_cons.mpr ⟨cx_V ctX9_judge (by decide) rfl (Or.inl (gm 973 (by decide +kernel) rfl)) wiX9_judge weX9_judge wnX9_judge wcX9_judge wbX9_judge ⟨Nat.le_of_ble_eq_true rfl, Nat.le_of_ble_eq_true rfl⟩, (List.forall_mem_cons.mpr ⟨cx_V ctX8_way (by decide) rfl (Or.inl (gm 593 (by decide +kernel) rfl)) wiX8_way weX8_way wnX8_way wcX8_way wbX8_way ⟨Nat.le_of_ble_eq_true rfl, Nat.le_of_ble_eq_true rfl⟩, (List.forall_mem_cons.mpr ⟨cx_V ctX9_way (by decide) rfl (Or.inl (gm 1033 (by decide +kernel) rfl)) wiX9_way weX9_way wnX9_way wcX9_way wbX9_way ⟨Nat.le_of_ble_eq_true rfl, Nat.le_of_ble_eq_true rfl⟩, (List.forall_mem_cons.mpr ⟨cx_V ctX8_without (by decide) rfl (Or.inl (gm 603 (by decide +kernel) rfl)) wiX8_without weX8_without wnX8_without wcX8_without wbX8_without ⟨Nat.le_of_ble_eq_true rfl, Nat.le_of_ble_eq_true rfl⟩, (List.forall_mem_cons.mpr ⟨cx_V ctX9_without (by decide) rfl (Or.inl (gm 1037 (by decide +kernel) rfl)) wiX9_without weX9_without wnX9_without wcX9_without wbX9_without ⟨Nat.le_of_ble_eq_true rfl, Nat.le_of_ble_eq_true rfl⟩, (List.forall_mem_cons.mpr ⟨cx_V ctX8_lost (by decide) rfl (Or.inl (gm 607 (by decide +kernel) rfl)) wiX8_lost weX8_lost wnX8_lost wcX8_lost wbX8_lost ⟨Nat.le_of_ble_eq_true rfl, Nat.le_of_ble_eq_true rfl⟩, (List.forall_mem_cons.mpr ⟨cx_V ctX9_lost (by decide) rfl (Or.inl (gm 1041 (by decide +kernel) rfl)) wiX9_lost weX9_lost wnX9_lost wcX9_lost wbX9_lost ⟨Nat.le_of_ble_eq_true rfl, Nat.le_of_ble_eq_true rfl⟩, (List.forall_mem_cons.mpr ⟨cx_V ctX8_type (by decide) rfl (Or.inl (gm 644 (by decide +kernel) rfl)) wiX8_type weX8_type wnX8_type wcX8_type wbX8_type ⟨Nat.le_of_ble_eq_true rfl, Nat.le_of_ble_eq_true rfl⟩, (List.forall_mem_cons.mpr ⟨cx_V ctX9_type (by decide) rfl (Or.inl (gm 1046 (by decide +kernel) rfl)) wiX9_type weX9_type wnX9_type wcX9_type wbX9_type ⟨Nat.le_of_ble_eq_true rfl, Nat.le_of_ble_eq_true rfl⟩, (List.forall_mem_cons.mpr ⟨cx_V ctX8_read (by decide) rfl (Or.inl (gm 652 (by decide +kernel) rfl)) wiX8_read weX8_read wnX8_read wcX8_read wbX8_read ⟨Nat.le_of_ble_eq_true rfl, Nat.le_of_ble_eq_true rfl⟩, (List.forall_mem_cons.mpr ⟨cx_V ctX9_read (by decide) rfl (Or.inl (gm 1052 (by decide +kernel) rfl)) wiX9_read weX9_read wnX9_read wcX9_read wbX9_read ⟨Nat.le_of_ble_eq_true rfl, Nat.le_of_ble_eq_true rfl⟩, (List.forall_mem_cons.mpr ⟨cx_V ctX8_drift (by decide) rfl (Or.inl (gm 697 (by decide +kernel) rfl)) wiX8_drift weX8_drift wnX8_drift wcX8_drift wbX8_drift ⟨Nat.le_of_ble_eq_true rfl, Nat.le_of_ble_eq_true rfl⟩, (List.forall_mem_cons.mpr ⟨cx_V ctX9_drift (by decide) rfl (Or.inl (gm 1082 (by decide +kernel) rfl)) wiX9_drift weX9_drift wnX9_drift wcX9_drift wbX9_drift ⟨Nat.le_of_ble_eq_true rfl, Nat.le_of_ble_eq_true rfl⟩, (List.forall_mem_cons.mpr ⟨cx_V ctX8_undo (by decide) rfl (Or.inl (gm 710 (by decide +kernel) rfl)) wiX8_undo weX8_undo wnX8_undo wcX8_undo wbX8_undo ⟨Nat.le_of_ble_eq_true rfl, Nat.le_of_ble_eq_true rfl⟩, (List.forall_mem_cons.mpr ⟨cx_V ctX9_undo (by decide) rfl (Or.inl (gm 1095 (by decide +kernel) rfl)) wiX9_undo weX9_undo wnX9_undo wcX9_undo wbX9_undo ⟨Nat.le_of_ble_eq_true rfl, Nat.le_of_ble_eq_true rfl⟩, (List.forall_mem_cons.mpr ⟨cx_V ctX8_seed (by decide) rfl (Or.inl (gm 718 (by decide +kernel) rfl)) wiX8_seed weX8_seed wnX8_seed wcX8_seed wbX8_seed ⟨Nat.le_of_ble_eq_true rfl, Nat.le_of_ble_eq_true rfl⟩, (List.forall_mem_cons.mpr ⟨cx_V ctX9_seed (by decide) rfl (Or.inl (gm 1099 (by decide +kernel) rfl)) wiX9_seed weX9_seed wnX9_seed wcX9_seed wbX9_seed ⟨Nat.le_of_ble_eq_true rfl, Nat.le_of_ble_eq_true rfl⟩, (List.forall_mem_cons.mpr ⟨cx_V ctX8_image (by decide) rfl (Or.inl (gm 722 (by decide +kernel) rfl)) wiX8_image weX8_image wnX8_image wcX8_image wbX8_image ⟨Nat.le_of_ble_eq_true rfl, Nat.le_of_ble_eq_true rfl⟩, (List.forall_mem_cons.mpr ⟨cx_V ctX9_image (by decide) rfl (Or.inl (gm 1103 (by decide +kernel) rfl)) wiX9_image weX9_image wnX9_image wcX9_image wbX9_image ⟨Nat.le_of_ble_eq_true rfl, Nat.le_of_ble_eq_true rfl⟩, (List.forall_mem_cons.mpr ⟨cx_V ctX8_restore (by decide) rfl (Or.inl (gm 731 (by decide +kernel) rfl)) wiX8_restore weX8_restore wnX8_restore wcX8_restore wbX8_restore ⟨Nat.le_of_ble_eq_true rfl, Nat.le_of_ble_eq_true rfl⟩, (List.forall_mem_cons.mpr ⟨cx_V ctX9_restore (by decide) rfl (Or.inl (gm 1107 (by decide +kernel) rfl)) wiX9_restore weX9_restore wnX9_restore wcX9_restore wbX9_restore ⟨Nat.le_of_ble_eq_true rfl, Nat.le_of_ble_eq_true rfl⟩, (List.forall_mem_cons.mpr ⟨cx_V ctX8_corners (by decide) rfl (Or.inl (gm 735 (by decide +kernel) rfl)) wiX8_corners weX8_corners wnX8_corners wcX8_corners wbX8_corners ⟨Nat.le_of_ble_eq_true rfl, Nat.le_of_ble_eq_true rfl⟩, (List.forall_mem_cons.mpr ⟨cx_V ctX9_corners (by decide) rfl (Or.inl (gm 1111 (by decide +kernel) rfl)) wiX9_corners weX9_corners wnX9_corners wcX9_corners wbX9_corners ⟨Nat.le_of_ble_eq_true rfl, Nat.le_of_ble_eq_true rfl⟩, (List.forall_mem_cons.mpr ⟨cx_V ctX8_film (by decide) rfl (Or.inl (gm 761 (by decide +kernel) rfl)) wiX8_film weX8_film wnX8_film wcX8_film wbX8_film ⟨Nat.le_of_ble_eq_true rfl, Nat.le_of_ble_eq_true rfl⟩, (List.forall_mem_cons.mpr ⟨cx_V ctX9_film (by decide) rfl (Or.inl (gm 1125 (by decide +kernel) rfl)) wiX9_film weX9_film wnX9_film wcX9_film wbX9_film ⟨Nat.le_of_ble_eq_true rfl, Nat.le_of_ble_eq_true rfl⟩, (List.forall_mem_cons.mpr ⟨cx_V ctX8_sheet (by decide) rfl (Or.inl (gm 765 (by decide +kernel) rfl)) wiX8_sheet weX8_sheet wnX8_sheet wcX8_sheet wbX8_sheet ⟨Nat.le_of_ble_eq_true rfl, Nat.le_of_ble_eq_true rfl⟩, (List.forall_mem_cons.mpr ⟨cx_V ctX9_sheet (by decide) rfl (Or.inl (gm 1129 (by decide +kernel) rfl)) wiX9_sheet weX9_sheet wnX9_sheet wcX9_sheet wbX9_sheet ⟨Nat.le_of_ble_eq_true rfl, Nat.le_of_ble_eq_true rfl⟩, (List.forall_mem_cons.mpr ⟨cx_V ctX8_drop (by decide) rfl (Or.inl (gm 775 (by decide +kernel) rfl)) wiX8_drop weX8_drop wnX8_drop wcX8_drop wbX8_drop ⟨Nat.le_of_ble_eq_true rfl, Nat.le_of_ble_eq_true rfl⟩, (List.forall_mem_cons.mpr ⟨cx_V ctX9_drop (by decide) rfl (Or.inl (gm 1133 (by decide +kernel) rfl)) wiX9_drop weX9_drop wnX9_drop wcX9_drop wbX9_drop ⟨Nat.le_of_ble_eq_true rfl, Nat.le_of_ble_eq_true rfl⟩, (List.forall_mem_cons.mpr ⟨cx_V ctX8_item (by decide) rfl (Or.inl (gm 779 (by decide +kernel) rfl)) wiX8_item weX8_item wnX8_item wcX8_item wbX8_item ⟨Nat.le_of_ble_eq_true rfl, Nat.le_of_ble_eq_true rfl⟩, (List.forall_mem_cons.mpr ⟨cx_V ctX9_item (by decide) rfl (Or.inl (gm 1137 (by decide +kernel) rfl)) wiX9_item weX9_item wnX9_item wcX9_item wbX9_item ⟨Nat.le_of_ble_eq_true rfl, Nat.le_of_ble_eq_true rfl⟩, (List.forall_mem_cons.mpr ⟨cx_V ctX8_copy (by decide) rfl (Or.inl (gm 786 (by decide +kernel) rfl)) wiX8_copy weX8_copy wnX8_copy wcX8_copy wbX8_copy ⟨Nat.le_of_ble_eq_true rfl, Nat.le_of_ble_eq_true rfl⟩, (List.forall_mem_cons.mpr ⟨cx_V ctX9_copy (by decide) rfl (Or.inl (gm 1144 (by decide +kernel) rfl)) wiX9_copy weX9_copy wnX9_copy wcX9_copy wbX9_copy ⟨Nat.le_of_ble_eq_true rfl, Nat.le_of_ble_eq_true rfl⟩, (fun _ h => absurd h List.not_mem_nil)⟩)⟩)⟩)⟩)⟩)⟩)⟩)⟩)⟩)⟩)⟩)⟩)⟩)⟩)⟩)⟩)⟩)⟩)⟩)⟩)⟩)⟩)⟩)⟩)⟩)⟩)⟩)⟩)⟩)⟩)⟩)⟩)⟩)⟩)⟩)⟩)⟩)⟩)⟩)⟩)⟩)⟩)⟩)⟩)⟩)⟩)⟩)⟩)⟩)⟩) h
theorem callsL0 : ∀ k t, mCal mL0 k = some t → CX true R_law 11 480 k t := fun k t h => lk_all (P := CX true R_law 11 480) (List.forall_mem_cons.mpr ⟨cx_I ctX8_init rfl (Or.inl (gm 79 (by decide +kernel) rfl)) wiX8_init wnX8_init wcX8_init wbX8_init ⟨Nat.le_of_ble_eq_true rfl, Nat.le_of_ble_eq_true rfl⟩, (List.forall_mem_cons.mpr ⟨cx_I ctX9_init rfl (Or.inl (gm 794 (by decide +kernel) rfl)) wiX9_init wnX9_init wcX9_init wbX9_init ⟨Nat.le_of_ble_eq_true rfl, Nat.le_of_ble_eq_true rfl⟩, (fun _ h => absurd h List.not_mem_nil)⟩)⟩) h
