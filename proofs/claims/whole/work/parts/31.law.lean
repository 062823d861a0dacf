abbrev m_La_law : sv_M := (yL_law, code, 4, some .boolean)
theorem kd0 : ss_K 0 = 20 := by decide +kernel
def t_La_law_0 : List (Nat × Instr × Nat) := [(0, .new 7, 3), (3, .dup, 1), (4, .invokespecial 9, 3), (7, .astore_n 1, 1), (8, .new 10, 3), (11, .dup, 1), (12, .invokespecial 12, 3), (15, .astore_n 2, 1), (16, .iconst 0, 1), (17, .istore_n 3, 1), (18, .iload_n 3, 1), (19, .aload_n 0, 1), (20, .arraylength, 1), (21, .bipush 8, 2), (23, .isub, 1), (24, .if_icmp .gt 1901, 3), (27, .aload_n 0, 1), (28, .iload_n 3, 1), (29, .iaload, 1), (30, .bipush 63, 2), (32, .iand, 1), (33, .tableswitch (1886) (0) (40) #[179, 202, 255, 298, 341, 374, 407, 450, 537, 612, 635, 668, 691, 724, 777, 820, 863, 926, 969, 982, 1005, 1048, 1071, 1095, 1170, 1233, 1296, 1329, 1362, 1405, 1428, 1441, 1464, 1551, 1594, 1617, 1650, 1673, 1716, 1789, 1823], 179)]
theorem k_La_law_0 : sv_tk m_La_law.2.1 t_La_law_0 := by decide +kernel
def t_La_law_212 : List (Nat × Instr × Nat) := [(212, .aload_n 1, 1), (213, .aload_n 0, 1), (214, .iload_n 3, 1), (215, .iconst 1, 1), (216, .iadd, 1), (217, .iaload, 1), (218, .invokevirtual 13, 3), (221, .aload_n 2, 1), (222, .aload_n 0, 1), (223, .iload_n 3, 1), (224, .iconst 1, 1), (225, .iadd, 1), (226, .iaload, 1), (227, .invokevirtual 17, 3), (230, .if_icmp .eq 1689, 3), (233, .iconst 0, 1), (234, .ireturn, 1)]
theorem k_La_law_212 : sv_tk m_La_law.2.1 t_La_law_212 := by decide +kernel
def t_La_law_235 : List (Nat × Instr × Nat) := [(235, .aload_n 1, 1), (236, .aload_n 0, 1), (237, .iload_n 3, 1), (238, .iconst 1, 1), (239, .iadd, 1), (240, .iaload, 1), (241, .aload_n 0, 1), (242, .iload_n 3, 1), (243, .iconst 2, 1), (244, .iadd, 1), (245, .iaload, 1), (246, .aload_n 0, 1), (247, .iload_n 3, 1), (248, .iconst 3, 1), (249, .iadd, 1), (250, .iaload, 1), (251, .aload_n 0, 1), (252, .iload_n 3, 1), (253, .iconst 4, 1), (254, .iadd, 1), (255, .iaload, 1), (256, .invokevirtual 18, 3), (259, .aload_n 2, 1), (260, .aload_n 0, 1), (261, .iload_n 3, 1), (262, .iconst 1, 1), (263, .iadd, 1), (264, .iaload, 1), (265, .aload_n 0, 1), (266, .iload_n 3, 1), (267, .iconst 2, 1), (268, .iadd, 1), (269, .iaload, 1), (270, .aload_n 0, 1), (271, .iload_n 3, 1), (272, .iconst 3, 1), (273, .iadd, 1), (274, .iaload, 1), (275, .aload_n 0, 1), (276, .iload_n 3, 1), (277, .iconst 4, 1), (278, .iadd, 1), (279, .iaload, 1), (280, .invokevirtual 22, 3), (283, .if_icmp .eq 1636, 3), (286, .iconst 0, 1), (287, .ireturn, 1)]
theorem k_La_law_235 : sv_tk m_La_law.2.1 t_La_law_235 := by decide +kernel
def t_La_law_288 : List (Nat × Instr × Nat) := [(288, .aload_n 1, 1), (289, .aload_n 0, 1), (290, .iload_n 3, 1), (291, .iconst 1, 1), (292, .iadd, 1), (293, .iaload, 1), (294, .aload_n 0, 1), (295, .iload_n 3, 1), (296, .iconst 2, 1), (297, .iadd, 1), (298, .iaload, 1), (299, .aload_n 0, 1), (300, .iload_n 3, 1), (301, .iconst 3, 1), (302, .iadd, 1), (303, .iaload, 1), (304, .invokevirtual 23, 3), (307, .aload_n 2, 1), (308, .aload_n 0, 1), (309, .iload_n 3, 1), (310, .iconst 1, 1), (311, .iadd, 1), (312, .iaload, 1), (313, .aload_n 0, 1), (314, .iload_n 3, 1), (315, .iconst 2, 1), (316, .iadd, 1), (317, .iaload, 1), (318, .aload_n 0, 1), (319, .iload_n 3, 1), (320, .iconst 3, 1), (321, .iadd, 1), (322, .iaload, 1), (323, .invokevirtual 27, 3), (326, .if_icmp .eq 1593, 3), (329, .iconst 0, 1), (330, .ireturn, 1)]
theorem k_La_law_288 : sv_tk m_La_law.2.1 t_La_law_288 := by decide +kernel
def t_La_law_331 : List (Nat × Instr × Nat) := [(331, .aload_n 1, 1), (332, .aload_n 0, 1), (333, .iload_n 3, 1), (334, .iconst 1, 1), (335, .iadd, 1), (336, .iaload, 1), (337, .aload_n 0, 1), (338, .iload_n 3, 1), (339, .iconst 2, 1), (340, .iadd, 1), (341, .iaload, 1), (342, .aload_n 0, 1), (343, .iload_n 3, 1), (344, .iconst 3, 1), (345, .iadd, 1), (346, .iaload, 1), (347, .invokevirtual 28, 3), (350, .aload_n 2, 1), (351, .aload_n 0, 1), (352, .iload_n 3, 1), (353, .iconst 1, 1), (354, .iadd, 1), (355, .iaload, 1), (356, .aload_n 0, 1), (357, .iload_n 3, 1), (358, .iconst 2, 1), (359, .iadd, 1), (360, .iaload, 1), (361, .aload_n 0, 1), (362, .iload_n 3, 1), (363, .iconst 3, 1), (364, .iadd, 1), (365, .iaload, 1), (366, .invokevirtual 31, 3), (369, .if_icmp .eq 1550, 3), (372, .iconst 0, 1), (373, .ireturn, 1)]
theorem k_La_law_331 : sv_tk m_La_law.2.1 t_La_law_331 := by decide +kernel
def t_La_law_374 : List (Nat × Instr × Nat) := [(374, .aload_n 1, 1), (375, .aload_n 0, 1), (376, .iload_n 3, 1), (377, .iconst 1, 1), (378, .iadd, 1), (379, .iaload, 1), (380, .aload_n 0, 1), (381, .iload_n 3, 1), (382, .iconst 2, 1), (383, .iadd, 1), (384, .iaload, 1), (385, .invokevirtual 32, 3), (388, .aload_n 2, 1), (389, .aload_n 0, 1), (390, .iload_n 3, 1), (391, .iconst 1, 1), (392, .iadd, 1), (393, .iaload, 1), (394, .aload_n 0, 1), (395, .iload_n 3, 1), (396, .iconst 2, 1), (397, .iadd, 1), (398, .iaload, 1), (399, .invokevirtual 36, 3), (402, .if_icmp .eq 1517, 3), (405, .iconst 0, 1), (406, .ireturn, 1)]
theorem k_La_law_374 : sv_tk m_La_law.2.1 t_La_law_374 := by decide +kernel
def t_La_law_407 : List (Nat × Instr × Nat) := [(407, .aload_n 1, 1), (408, .aload_n 0, 1), (409, .iload_n 3, 1), (410, .iconst 1, 1), (411, .iadd, 1), (412, .iaload, 1), (413, .aload_n 0, 1), (414, .iload_n 3, 1), (415, .iconst 2, 1), (416, .iadd, 1), (417, .iaload, 1), (418, .invokevirtual 37, 3), (421, .aload_n 2, 1), (422, .aload_n 0, 1), (423, .iload_n 3, 1), (424, .iconst 1, 1), (425, .iadd, 1), (426, .iaload, 1), (427, .aload_n 0, 1), (428, .iload_n 3, 1), (429, .iconst 2, 1), (430, .iadd, 1), (431, .iaload, 1), (432, .invokevirtual 40, 3), (435, .if_icmp .eq 1484, 3), (438, .iconst 0, 1), (439, .ireturn, 1)]
theorem k_La_law_407 : sv_tk m_La_law.2.1 t_La_law_407 := by decide +kernel
def t_La_law_440 : List (Nat × Instr × Nat) := [(440, .aload_n 1, 1), (441, .aload_n 0, 1), (442, .iload_n 3, 1), (443, .iconst 1, 1), (444, .iadd, 1), (445, .iaload, 1), (446, .aload_n 0, 1), (447, .iload_n 3, 1), (448, .iconst 2, 1), (449, .iadd, 1), (450, .iaload, 1), (451, .aload_n 0, 1), (452, .iload_n 3, 1), (453, .iconst 3, 1), (454, .iadd, 1), (455, .iaload, 1), (456, .invokevirtual 41, 3), (459, .aload_n 2, 1), (460, .aload_n 0, 1), (461, .iload_n 3, 1), (462, .iconst 1, 1), (463, .iadd, 1), (464, .iaload, 1), (465, .aload_n 0, 1), (466, .iload_n 3, 1), (467, .iconst 2, 1), (468, .iadd, 1), (469, .iaload, 1), (470, .aload_n 0, 1), (471, .iload_n 3, 1), (472, .iconst 3, 1), (473, .iadd, 1), (474, .iaload, 1), (475, .invokevirtual 44, 3), (478, .if_icmp .eq 1441, 3), (481, .iconst 0, 1), (482, .ireturn, 1)]
theorem k_La_law_440 : sv_tk m_La_law.2.1 t_La_law_440 := by decide +kernel
def t_La_law_483 : List (Nat × Instr × Nat) := [(483, .aload_n 1, 1), (484, .aload_n 0, 1), (485, .iload_n 3, 1), (486, .iconst 1, 1), (487, .iadd, 1), (488, .iaload, 1), (489, .aload_n 0, 1), (490, .iload_n 3, 1), (491, .iconst 2, 1), (492, .iadd, 1), (493, .iaload, 1), (494, .aload_n 0, 1), (495, .iload_n 3, 1), (496, .iconst 3, 1), (497, .iadd, 1), (498, .iaload, 1), (499, .aload_n 0, 1), (500, .iload_n 3, 1), (501, .iconst 4, 1), (502, .iadd, 1), (503, .iaload, 1), (504, .aload_n 0, 1), (505, .iload_n 3, 1), (506, .iconst 5, 1), (507, .iadd, 1), (508, .iaload, 1), (509, .aload_n 0, 1), (510, .iload_n 3, 1), (511, .bipush 6, 2), (513, .iadd, 1), (514, .iaload, 1), (515, .aload_n 0, 1), (516, .iload_n 3, 1), (517, .bipush 7, 2), (519, .iadd, 1), (520, .iaload, 1), (521, .invokevirtual 45, 3), (524, .aload_n 2, 1), (525, .aload_n 0, 1), (526, .iload_n 3, 1), (527, .iconst 1, 1), (528, .iadd, 1), (529, .iaload, 1), (530, .aload_n 0, 1), (531, .iload_n 3, 1), (532, .iconst 2, 1), (533, .iadd, 1), (534, .iaload, 1), (535, .aload_n 0, 1), (536, .iload_n 3, 1), (537, .iconst 3, 1), (538, .iadd, 1), (539, .iaload, 1), (540, .aload_n 0, 1), (541, .iload_n 3, 1), (542, .iconst 4, 1), (543, .iadd, 1), (544, .iaload, 1), (545, .aload_n 0, 1), (546, .iload_n 3, 1), (547, .iconst 5, 1), (548, .iadd, 1), (549, .iaload, 1), (550, .aload_n 0, 1), (551, .iload_n 3, 1), (552, .bipush 6, 2), (554, .iadd, 1), (555, .iaload, 1), (556, .aload_n 0, 1), (557, .iload_n 3, 1), (558, .bipush 7, 2), (560, .iadd, 1), (561, .iaload, 1), (562, .invokevirtual 49, 3), (565, .if_icmp .eq 1354, 3), (568, .iconst 0, 1), (569, .ireturn, 1)]
theorem k_La_law_483 : sv_tk m_La_law.2.1 t_La_law_483 := by decide +kernel
def t_La_law_570 : List (Nat × Instr × Nat) := [(570, .aload_n 1, 1), (571, .aload_n 0, 1), (572, .iload_n 3, 1), (573, .iconst 1, 1), (574, .iadd, 1), (575, .iaload, 1), (576, .aload_n 0, 1), (577, .iload_n 3, 1), (578, .iconst 2, 1), (579, .iadd, 1), (580, .iaload, 1), (581, .aload_n 0, 1), (582, .iload_n 3, 1), (583, .iconst 3, 1), (584, .iadd, 1), (585, .iaload, 1), (586, .aload_n 0, 1), (587, .iload_n 3, 1), (588, .iconst 4, 1), (589, .iadd, 1), (590, .iaload, 1), (591, .aload_n 0, 1), (592, .iload_n 3, 1), (593, .iconst 5, 1), (594, .iadd, 1), (595, .iaload, 1), (596, .aload_n 0, 1), (597, .iload_n 3, 1), (598, .bipush 6, 2), (600, .iadd, 1), (601, .iaload, 1), (602, .invokevirtual 50, 3), (605, .aload_n 2, 1), (606, .aload_n 0, 1), (607, .iload_n 3, 1), (608, .iconst 1, 1), (609, .iadd, 1), (610, .iaload, 1), (611, .aload_n 0, 1), (612, .iload_n 3, 1), (613, .iconst 2, 1), (614, .iadd, 1), (615, .iaload, 1), (616, .aload_n 0, 1), (617, .iload_n 3, 1), (618, .iconst 3, 1), (619, .iadd, 1), (620, .iaload, 1), (621, .aload_n 0, 1), (622, .iload_n 3, 1), (623, .iconst 4, 1), (624, .iadd, 1), (625, .iaload, 1), (626, .aload_n 0, 1), (627, .iload_n 3, 1), (628, .iconst 5, 1), (629, .iadd, 1), (630, .iaload, 1), (631, .aload_n 0, 1), (632, .iload_n 3, 1), (633, .bipush 6, 2), (635, .iadd, 1), (636, .iaload, 1), (637, .invokevirtual 54, 3), (640, .if_icmp .eq 1279, 3), (643, .iconst 0, 1), (644, .ireturn, 1)]
theorem k_La_law_570 : sv_tk m_La_law.2.1 t_La_law_570 := by decide +kernel
def t_La_law_645 : List (Nat × Instr × Nat) := [(645, .aload_n 1, 1), (646, .aload_n 0, 1), (647, .iload_n 3, 1), (648, .iconst 1, 1), (649, .iadd, 1), (650, .iaload, 1), (651, .invokevirtual 55, 3), (654, .aload_n 2, 1), (655, .aload_n 0, 1), (656, .iload_n 3, 1), (657, .iconst 1, 1), (658, .iadd, 1), (659, .iaload, 1), (660, .invokevirtual 58, 3), (663, .if_icmp .eq 1256, 3), (666, .iconst 0, 1), (667, .ireturn, 1)]
theorem k_La_law_645 : sv_tk m_La_law.2.1 t_La_law_645 := by decide +kernel
def t_La_law_668 : List (Nat × Instr × Nat) := [(668, .aload_n 1, 1), (669, .aload_n 0, 1), (670, .iload_n 3, 1), (671, .iconst 1, 1), (672, .iadd, 1), (673, .iaload, 1), (674, .aload_n 0, 1), (675, .iload_n 3, 1), (676, .iconst 2, 1), (677, .iadd, 1), (678, .iaload, 1), (679, .invokevirtual 59, 3), (682, .aload_n 2, 1), (683, .aload_n 0, 1), (684, .iload_n 3, 1), (685, .iconst 1, 1), (686, .iadd, 1), (687, .iaload, 1), (688, .aload_n 0, 1), (689, .iload_n 3, 1), (690, .iconst 2, 1), (691, .iadd, 1), (692, .iaload, 1), (693, .invokevirtual 62, 3), (696, .if_icmp .eq 1223, 3), (699, .iconst 0, 1), (700, .ireturn, 1)]
theorem k_La_law_668 : sv_tk m_La_law.2.1 t_La_law_668 := by decide +kernel
def t_La_law_701 : List (Nat × Instr × Nat) := [(701, .aload_n 1, 1), (702, .aload_n 0, 1), (703, .iload_n 3, 1), (704, .iconst 1, 1), (705, .iadd, 1), (706, .iaload, 1), (707, .invokevirtual 63, 3), (710, .aload_n 2, 1), (711, .aload_n 0, 1), (712, .iload_n 3, 1), (713, .iconst 1, 1), (714, .iadd, 1), (715, .iaload, 1), (716, .invokevirtual 66, 3), (719, .if_icmp .eq 1200, 3), (722, .iconst 0, 1), (723, .ireturn, 1)]
theorem k_La_law_701 : sv_tk m_La_law.2.1 t_La_law_701 := by decide +kernel
def t_La_law_724 : List (Nat × Instr × Nat) := [(724, .aload_n 1, 1), (725, .aload_n 0, 1), (726, .iload_n 3, 1), (727, .iconst 1, 1), (728, .iadd, 1), (729, .iaload, 1), (730, .aload_n 0, 1), (731, .iload_n 3, 1), (732, .iconst 2, 1), (733, .iadd, 1), (734, .iaload, 1), (735, .invokevirtual 67, 3), (738, .aload_n 2, 1), (739, .aload_n 0, 1), (740, .iload_n 3, 1), (741, .iconst 1, 1), (742, .iadd, 1), (743, .iaload, 1), (744, .aload_n 0, 1), (745, .iload_n 3, 1), (746, .iconst 2, 1), (747, .iadd, 1), (748, .iaload, 1), (749, .invokevirtual 70, 3), (752, .if_icmp .eq 1167, 3), (755, .iconst 0, 1), (756, .ireturn, 1)]
theorem k_La_law_724 : sv_tk m_La_law.2.1 t_La_law_724 := by decide +kernel
def t_La_law_757 : List (Nat × Instr × Nat) := [(757, .aload_n 1, 1), (758, .aload_n 0, 1), (759, .iload_n 3, 1), (760, .iconst 1, 1), (761, .iadd, 1), (762, .iaload, 1), (763, .aload_n 0, 1), (764, .iload_n 3, 1), (765, .iconst 2, 1), (766, .iadd, 1), (767, .iaload, 1), (768, .aload_n 0, 1), (769, .iload_n 3, 1), (770, .iconst 3, 1), (771, .iadd, 1), (772, .iaload, 1), (773, .aload_n 0, 1), (774, .iload_n 3, 1), (775, .iconst 4, 1), (776, .iadd, 1), (777, .iaload, 1), (778, .invokevirtual 71, 3), (781, .aload_n 2, 1), (782, .aload_n 0, 1), (783, .iload_n 3, 1), (784, .iconst 1, 1), (785, .iadd, 1), (786, .iaload, 1), (787, .aload_n 0, 1), (788, .iload_n 3, 1), (789, .iconst 2, 1), (790, .iadd, 1), (791, .iaload, 1), (792, .aload_n 0, 1), (793, .iload_n 3, 1), (794, .iconst 3, 1), (795, .iadd, 1), (796, .iaload, 1), (797, .aload_n 0, 1), (798, .iload_n 3, 1), (799, .iconst 4, 1), (800, .iadd, 1), (801, .iaload, 1), (802, .invokevirtual 74, 3), (805, .if_icmp .eq 1114, 3), (808, .iconst 0, 1), (809, .ireturn, 1)]
theorem k_La_law_757 : sv_tk m_La_law.2.1 t_La_law_757 := by decide +kernel
def t_La_law_810 : List (Nat × Instr × Nat) := [(810, .aload_n 1, 1), (811, .aload_n 0, 1), (812, .iload_n 3, 1), (813, .iconst 1, 1), (814, .iadd, 1), (815, .iaload, 1), (816, .aload_n 0, 1), (817, .iload_n 3, 1), (818, .iconst 2, 1), (819, .iadd, 1), (820, .iaload, 1), (821, .aload_n 0, 1), (822, .iload_n 3, 1), (823, .iconst 3, 1), (824, .iadd, 1), (825, .iaload, 1), (826, .invokevirtual 75, 3), (829, .aload_n 2, 1), (830, .aload_n 0, 1), (831, .iload_n 3, 1), (832, .iconst 1, 1), (833, .iadd, 1), (834, .iaload, 1), (835, .aload_n 0, 1), (836, .iload_n 3, 1), (837, .iconst 2, 1), (838, .iadd, 1), (839, .iaload, 1), (840, .aload_n 0, 1), (841, .iload_n 3, 1), (842, .iconst 3, 1), (843, .iadd, 1), (844, .iaload, 1), (845, .invokevirtual 78, 3), (848, .if_icmp .eq 1071, 3), (851, .iconst 0, 1), (852, .ireturn, 1)]
theorem k_La_law_810 : sv_tk m_La_law.2.1 t_La_law_810 := by decide +kernel
def t_La_law_853 : List (Nat × Instr × Nat) := [(853, .aload_n 1, 1), (854, .aload_n 0, 1), (855, .iload_n 3, 1), (856, .iconst 1, 1), (857, .iadd, 1), (858, .iaload, 1), (859, .aload_n 0, 1), (860, .iload_n 3, 1), (861, .iconst 2, 1), (862, .iadd, 1), (863, .iaload, 1), (864, .aload_n 0, 1), (865, .iload_n 3, 1), (866, .iconst 3, 1), (867, .iadd, 1), (868, .iaload, 1), (869, .invokevirtual 79, 3), (872, .aload_n 2, 1), (873, .aload_n 0, 1), (874, .iload_n 3, 1), (875, .iconst 1, 1), (876, .iadd, 1), (877, .iaload, 1), (878, .aload_n 0, 1), (879, .iload_n 3, 1), (880, .iconst 2, 1), (881, .iadd, 1), (882, .iaload, 1), (883, .aload_n 0, 1), (884, .iload_n 3, 1), (885, .iconst 3, 1), (886, .iadd, 1), (887, .iaload, 1), (888, .invokevirtual 82, 3), (891, .if_icmp .eq 1028, 3), (894, .iconst 0, 1), (895, .ireturn, 1)]
theorem k_La_law_853 : sv_tk m_La_law.2.1 t_La_law_853 := by decide +kernel
def t_La_law_896 : List (Nat × Instr × Nat) := [(896, .aload_n 1, 1), (897, .aload_n 0, 1), (898, .iload_n 3, 1), (899, .iconst 1, 1), (900, .iadd, 1), (901, .iaload, 1), (902, .aload_n 0, 1), (903, .iload_n 3, 1), (904, .iconst 2, 1), (905, .iadd, 1), (906, .iaload, 1), (907, .aload_n 0, 1), (908, .iload_n 3, 1), (909, .iconst 3, 1), (910, .iadd, 1), (911, .iaload, 1), (912, .aload_n 0, 1), (913, .iload_n 3, 1), (914, .iconst 4, 1), (915, .iadd, 1), (916, .iaload, 1), (917, .aload_n 0, 1), (918, .iload_n 3, 1), (919, .iconst 5, 1), (920, .iadd, 1), (921, .iaload, 1), (922, .invokevirtual 83, 3), (925, .aload_n 2, 1), (926, .aload_n 0, 1), (927, .iload_n 3, 1), (928, .iconst 1, 1), (929, .iadd, 1), (930, .iaload, 1), (931, .aload_n 0, 1), (932, .iload_n 3, 1), (933, .iconst 2, 1), (934, .iadd, 1), (935, .iaload, 1), (936, .aload_n 0, 1), (937, .iload_n 3, 1), (938, .iconst 3, 1), (939, .iadd, 1), (940, .iaload, 1), (941, .aload_n 0, 1), (942, .iload_n 3, 1), (943, .iconst 4, 1), (944, .iadd, 1), (945, .iaload, 1), (946, .aload_n 0, 1), (947, .iload_n 3, 1), (948, .iconst 5, 1), (949, .iadd, 1), (950, .iaload, 1), (951, .invokevirtual 87, 3), (954, .if_icmp .eq 965, 3), (957, .iconst 0, 1), (958, .ireturn, 1)]
theorem k_La_law_896 : sv_tk m_La_law.2.1 t_La_law_896 := by decide +kernel
def t_La_law_959 : List (Nat × Instr × Nat) := [(959, .aload_n 1, 1), (960, .aload_n 0, 1), (961, .iload_n 3, 1), (962, .iconst 1, 1), (963, .iadd, 1), (964, .iaload, 1), (965, .aload_n 0, 1), (966, .iload_n 3, 1), (967, .iconst 2, 1), (968, .iadd, 1), (969, .iaload, 1), (970, .aload_n 0, 1), (971, .iload_n 3, 1), (972, .iconst 3, 1), (973, .iadd, 1), (974, .iaload, 1), (975, .invokevirtual 88, 3), (978, .aload_n 2, 1), (979, .aload_n 0, 1), (980, .iload_n 3, 1), (981, .iconst 1, 1), (982, .iadd, 1), (983, .iaload, 1), (984, .aload_n 0, 1), (985, .iload_n 3, 1), (986, .iconst 2, 1), (987, .iadd, 1), (988, .iaload, 1), (989, .aload_n 0, 1), (990, .iload_n 3, 1), (991, .iconst 3, 1), (992, .iadd, 1), (993, .iaload, 1), (994, .invokevirtual 91, 3), (997, .if_icmp .eq 922, 3), (1000, .iconst 0, 1), (1001, .ireturn, 1)]
theorem k_La_law_959 : sv_tk m_La_law.2.1 t_La_law_959 := by decide +kernel
def t_La_law_1002 : List (Nat × Instr × Nat) := [(1002, .aload_n 1, 1), (1003, .invokevirtual 92, 3), (1006, .aload_n 2, 1), (1007, .invokevirtual 96, 3), (1010, .if_icmp .eq 909, 3), (1013, .iconst 0, 1), (1014, .ireturn, 1)]
theorem k_La_law_1002 : sv_tk m_La_law.2.1 t_La_law_1002 := by decide +kernel
def t_La_law_1015 : List (Nat × Instr × Nat) := [(1015, .aload_n 1, 1), (1016, .aload_n 0, 1), (1017, .iload_n 3, 1), (1018, .iconst 1, 1), (1019, .iadd, 1), (1020, .iaload, 1), (1021, .invokevirtual 97, 3), (1024, .aload_n 2, 1), (1025, .aload_n 0, 1), (1026, .iload_n 3, 1), (1027, .iconst 1, 1), (1028, .iadd, 1), (1029, .iaload, 1), (1030, .invokevirtual 100, 3), (1033, .if_icmp .eq 886, 3), (1036, .iconst 0, 1), (1037, .ireturn, 1)]
theorem k_La_law_1015 : sv_tk m_La_law.2.1 t_La_law_1015 := by decide +kernel
def t_La_law_1038 : List (Nat × Instr × Nat) := [(1038, .aload_n 1, 1), (1039, .aload_n 0, 1), (1040, .iload_n 3, 1), (1041, .iconst 1, 1), (1042, .iadd, 1), (1043, .iaload, 1), (1044, .aload_n 0, 1), (1045, .iload_n 3, 1), (1046, .iconst 2, 1), (1047, .iadd, 1), (1048, .iaload, 1), (1049, .aload_n 0, 1), (1050, .iload_n 3, 1), (1051, .iconst 3, 1), (1052, .iadd, 1), (1053, .iaload, 1), (1054, .invokevirtual 101, 3), (1057, .aload_n 2, 1), (1058, .aload_n 0, 1), (1059, .iload_n 3, 1), (1060, .iconst 1, 1), (1061, .iadd, 1), (1062, .iaload, 1), (1063, .aload_n 0, 1), (1064, .iload_n 3, 1), (1065, .iconst 2, 1), (1066, .iadd, 1), (1067, .iaload, 1), (1068, .aload_n 0, 1), (1069, .iload_n 3, 1), (1070, .iconst 3, 1), (1071, .iadd, 1), (1072, .iaload, 1), (1073, .invokevirtual 104, 3), (1076, .if_icmp .eq 843, 3), (1079, .iconst 0, 1), (1080, .ireturn, 1)]
theorem k_La_law_1038 : sv_tk m_La_law.2.1 t_La_law_1038 := by decide +kernel
def t_La_law_1081 : List (Nat × Instr × Nat) := [(1081, .aload_n 1, 1), (1082, .aload_n 0, 1), (1083, .iload_n 3, 1), (1084, .iconst 1, 1), (1085, .iadd, 1), (1086, .iaload, 1), (1087, .invokevirtual 105, 3), (1090, .aload_n 2, 1), (1091, .aload_n 0, 1), (1092, .iload_n 3, 1), (1093, .iconst 1, 1), (1094, .iadd, 1), (1095, .iaload, 1), (1096, .invokevirtual 108, 3), (1099, .if_icmp .eq 820, 3), (1102, .iconst 0, 1), (1103, .ireturn, 1)]
theorem k_La_law_1081 : sv_tk m_La_law.2.1 t_La_law_1081 := by decide +kernel
def t_La_law_1104 : List (Nat × Instr × Nat) := [(1104, .aload_n 1, 1), (1105, .aload_n 0, 1), (1106, .iload_n 3, 1), (1107, .iconst 1, 1), (1108, .iadd, 1), (1109, .iaload, 1), (1110, .invokevirtual 109, 3), (1113, .aload_n 2, 1), (1114, .aload_n 0, 1), (1115, .iload_n 3, 1), (1116, .iconst 1, 1), (1117, .iadd, 1), (1118, .iaload, 1), (1119, .invokevirtual 113, 3), (1122, .lcmp, 1), (1123, .ifCond .eq 796, 3), (1126, .iconst 0, 1), (1127, .ireturn, 1)]
theorem k_La_law_1104 : sv_tk m_La_law.2.1 t_La_law_1104 := by decide +kernel
def t_La_law_1128 : List (Nat × Instr × Nat) := [(1128, .aload_n 1, 1), (1129, .aload_n 0, 1), (1130, .iload_n 3, 1), (1131, .iconst 1, 1), (1132, .iadd, 1), (1133, .iaload, 1), (1134, .aload_n 0, 1), (1135, .iload_n 3, 1), (1136, .iconst 2, 1), (1137, .iadd, 1), (1138, .iaload, 1), (1139, .aload_n 0, 1), (1140, .iload_n 3, 1), (1141, .iconst 3, 1), (1142, .iadd, 1), (1143, .iaload, 1), (1144, .aload_n 0, 1), (1145, .iload_n 3, 1), (1146, .iconst 4, 1), (1147, .iadd, 1), (1148, .iaload, 1), (1149, .aload_n 0, 1), (1150, .iload_n 3, 1), (1151, .iconst 5, 1), (1152, .iadd, 1), (1153, .iaload, 1), (1154, .aload_n 0, 1), (1155, .iload_n 3, 1), (1156, .bipush 6, 2), (1158, .iadd, 1), (1159, .iaload, 1), (1160, .invokevirtual 114, 3), (1163, .aload_n 2, 1), (1164, .aload_n 0, 1), (1165, .iload_n 3, 1), (1166, .iconst 1, 1), (1167, .iadd, 1), (1168, .iaload, 1), (1169, .aload_n 0, 1), (1170, .iload_n 3, 1), (1171, .iconst 2, 1), (1172, .iadd, 1), (1173, .iaload, 1), (1174, .aload_n 0, 1), (1175, .iload_n 3, 1), (1176, .iconst 3, 1), (1177, .iadd, 1), (1178, .iaload, 1), (1179, .aload_n 0, 1), (1180, .iload_n 3, 1), (1181, .iconst 4, 1), (1182, .iadd, 1), (1183, .iaload, 1), (1184, .aload_n 0, 1), (1185, .iload_n 3, 1), (1186, .iconst 5, 1), (1187, .iadd, 1), (1188, .iaload, 1), (1189, .aload_n 0, 1), (1190, .iload_n 3, 1), (1191, .bipush 6, 2), (1193, .iadd, 1), (1194, .iaload, 1), (1195, .invokevirtual 117, 3), (1198, .if_icmp .eq 721, 3), (1201, .iconst 0, 1), (1202, .ireturn, 1)]
theorem k_La_law_1128 : sv_tk m_La_law.2.1 t_La_law_1128 := by decide +kernel
def t_La_law_1203 : List (Nat × Instr × Nat) := [(1203, .aload_n 1, 1), (1204, .aload_n 0, 1), (1205, .iload_n 3, 1), (1206, .iconst 1, 1), (1207, .iadd, 1), (1208, .iaload, 1), (1209, .aload_n 0, 1), (1210, .iload_n 3, 1), (1211, .iconst 2, 1), (1212, .iadd, 1), (1213, .iaload, 1), (1214, .aload_n 0, 1), (1215, .iload_n 3, 1), (1216, .iconst 3, 1), (1217, .iadd, 1), (1218, .iaload, 1), (1219, .aload_n 0, 1), (1220, .iload_n 3, 1), (1221, .iconst 4, 1), (1222, .iadd, 1), (1223, .iaload, 1), (1224, .aload_n 0, 1), (1225, .iload_n 3, 1), (1226, .iconst 5, 1), (1227, .iadd, 1), (1228, .iaload, 1), (1229, .invokevirtual 118, 3), (1232, .aload_n 2, 1), (1233, .aload_n 0, 1), (1234, .iload_n 3, 1), (1235, .iconst 1, 1), (1236, .iadd, 1), (1237, .iaload, 1), (1238, .aload_n 0, 1), (1239, .iload_n 3, 1), (1240, .iconst 2, 1), (1241, .iadd, 1), (1242, .iaload, 1), (1243, .aload_n 0, 1), (1244, .iload_n 3, 1), (1245, .iconst 3, 1), (1246, .iadd, 1), (1247, .iaload, 1), (1248, .aload_n 0, 1), (1249, .iload_n 3, 1), (1250, .iconst 4, 1), (1251, .iadd, 1), (1252, .iaload, 1), (1253, .aload_n 0, 1), (1254, .iload_n 3, 1), (1255, .iconst 5, 1), (1256, .iadd, 1), (1257, .iaload, 1), (1258, .invokevirtual 121, 3), (1261, .if_icmp .eq 658, 3), (1264, .iconst 0, 1), (1265, .ireturn, 1)]
theorem k_La_law_1203 : sv_tk m_La_law.2.1 t_La_law_1203 := by decide +kernel
def t_La_law_1266 : List (Nat × Instr × Nat) := [(1266, .aload_n 1, 1), (1267, .aload_n 0, 1), (1268, .iload_n 3, 1), (1269, .iconst 1, 1), (1270, .iadd, 1), (1271, .iaload, 1), (1272, .aload_n 0, 1), (1273, .iload_n 3, 1), (1274, .iconst 2, 1), (1275, .iadd, 1), (1276, .iaload, 1), (1277, .aload_n 0, 1), (1278, .iload_n 3, 1), (1279, .iconst 3, 1), (1280, .iadd, 1), (1281, .iaload, 1), (1282, .aload_n 0, 1), (1283, .iload_n 3, 1), (1284, .iconst 4, 1), (1285, .iadd, 1), (1286, .iaload, 1), (1287, .aload_n 0, 1), (1288, .iload_n 3, 1), (1289, .iconst 5, 1), (1290, .iadd, 1), (1291, .iaload, 1), (1292, .invokevirtual 122, 3), (1295, .aload_n 2, 1), (1296, .aload_n 0, 1), (1297, .iload_n 3, 1), (1298, .iconst 1, 1), (1299, .iadd, 1), (1300, .iaload, 1), (1301, .aload_n 0, 1), (1302, .iload_n 3, 1), (1303, .iconst 2, 1), (1304, .iadd, 1), (1305, .iaload, 1), (1306, .aload_n 0, 1), (1307, .iload_n 3, 1), (1308, .iconst 3, 1), (1309, .iadd, 1), (1310, .iaload, 1), (1311, .aload_n 0, 1), (1312, .iload_n 3, 1), (1313, .iconst 4, 1), (1314, .iadd, 1), (1315, .iaload, 1), (1316, .aload_n 0, 1), (1317, .iload_n 3, 1), (1318, .iconst 5, 1), (1319, .iadd, 1), (1320, .iaload, 1), (1321, .invokevirtual 125, 3), (1324, .if_icmp .eq 595, 3), (1327, .iconst 0, 1), (1328, .ireturn, 1)]
theorem k_La_law_1266 : sv_tk m_La_law.2.1 t_La_law_1266 := by decide +kernel
def t_La_law_1329 : List (Nat × Instr × Nat) := [(1329, .aload_n 1, 1), (1330, .aload_n 0, 1), (1331, .iload_n 3, 1), (1332, .iconst 1, 1), (1333, .iadd, 1), (1334, .iaload, 1), (1335, .aload_n 0, 1), (1336, .iload_n 3, 1), (1337, .iconst 2, 1), (1338, .iadd, 1), (1339, .iaload, 1), (1340, .invokevirtual 126, 3), (1343, .aload_n 2, 1), (1344, .aload_n 0, 1), (1345, .iload_n 3, 1), (1346, .iconst 1, 1), (1347, .iadd, 1), (1348, .iaload, 1), (1349, .aload_n 0, 1), (1350, .iload_n 3, 1), (1351, .iconst 2, 1), (1352, .iadd, 1), (1353, .iaload, 1), (1354, .invokevirtual 129, 3), (1357, .if_icmp .eq 562, 3), (1360, .iconst 0, 1), (1361, .ireturn, 1)]
theorem k_La_law_1329 : sv_tk m_La_law.2.1 t_La_law_1329 := by decide +kernel
def t_La_law_1362 : List (Nat × Instr × Nat) := [(1362, .aload_n 1, 1), (1363, .aload_n 0, 1), (1364, .iload_n 3, 1), (1365, .iconst 1, 1), (1366, .iadd, 1), (1367, .iaload, 1), (1368, .aload_n 0, 1), (1369, .iload_n 3, 1), (1370, .iconst 2, 1), (1371, .iadd, 1), (1372, .iaload, 1), (1373, .invokevirtual 130, 3), (1376, .aload_n 2, 1), (1377, .aload_n 0, 1), (1378, .iload_n 3, 1), (1379, .iconst 1, 1), (1380, .iadd, 1), (1381, .iaload, 1), (1382, .aload_n 0, 1), (1383, .iload_n 3, 1), (1384, .iconst 2, 1), (1385, .iadd, 1), (1386, .iaload, 1), (1387, .invokevirtual 133, 3), (1390, .if_icmp .eq 529, 3), (1393, .iconst 0, 1), (1394, .ireturn, 1)]
theorem k_La_law_1362 : sv_tk m_La_law.2.1 t_La_law_1362 := by decide +kernel
def t_La_law_1395 : List (Nat × Instr × Nat) := [(1395, .aload_n 1, 1), (1396, .aload_n 0, 1), (1397, .iload_n 3, 1), (1398, .iconst 1, 1), (1399, .iadd, 1), (1400, .iaload, 1), (1401, .aload_n 0, 1), (1402, .iload_n 3, 1), (1403, .iconst 2, 1), (1404, .iadd, 1), (1405, .iaload, 1), (1406, .aload_n 0, 1), (1407, .iload_n 3, 1), (1408, .iconst 3, 1), (1409, .iadd, 1), (1410, .iaload, 1), (1411, .invokevirtual 134, 3), (1414, .aload_n 2, 1), (1415, .aload_n 0, 1), (1416, .iload_n 3, 1), (1417, .iconst 1, 1), (1418, .iadd, 1), (1419, .iaload, 1), (1420, .aload_n 0, 1), (1421, .iload_n 3, 1), (1422, .iconst 2, 1), (1423, .iadd, 1), (1424, .iaload, 1), (1425, .aload_n 0, 1), (1426, .iload_n 3, 1), (1427, .iconst 3, 1), (1428, .iadd, 1), (1429, .iaload, 1), (1430, .invokevirtual 137, 3), (1433, .if_icmp .eq 486, 3), (1436, .iconst 0, 1), (1437, .ireturn, 1)]
theorem k_La_law_1395 : sv_tk m_La_law.2.1 t_La_law_1395 := by decide +kernel
def t_La_law_1438 : List (Nat × Instr × Nat) := [(1438, .aload_n 1, 1), (1439, .aload_n 0, 1), (1440, .iload_n 3, 1), (1441, .iconst 1, 1), (1442, .iadd, 1), (1443, .iaload, 1), (1444, .invokevirtual 138, 3), (1447, .aload_n 2, 1), (1448, .aload_n 0, 1), (1449, .iload_n 3, 1), (1450, .iconst 1, 1), (1451, .iadd, 1), (1452, .iaload, 1), (1453, .invokevirtual 141, 3), (1456, .if_icmp .eq 463, 3), (1459, .iconst 0, 1), (1460, .ireturn, 1)]
theorem k_La_law_1438 : sv_tk m_La_law.2.1 t_La_law_1438 := by decide +kernel
def t_La_law_1461 : List (Nat × Instr × Nat) := [(1461, .aload_n 1, 1), (1462, .invokevirtual 142, 3), (1465, .aload_n 2, 1), (1466, .invokevirtual 145, 3), (1469, .if_icmp .eq 450, 3), (1472, .iconst 0, 1), (1473, .ireturn, 1)]
theorem k_La_law_1461 : sv_tk m_La_law.2.1 t_La_law_1461 := by decide +kernel
def t_La_law_1474 : List (Nat × Instr × Nat) := [(1474, .aload_n 1, 1), (1475, .aload_n 0, 1), (1476, .iload_n 3, 1), (1477, .iconst 1, 1), (1478, .iadd, 1), (1479, .iaload, 1), (1480, .invokevirtual 146, 3), (1483, .aload_n 2, 1), (1484, .aload_n 0, 1), (1485, .iload_n 3, 1), (1486, .iconst 1, 1), (1487, .iadd, 1), (1488, .iaload, 1), (1489, .invokevirtual 149, 3), (1492, .if_icmp .eq 427, 3), (1495, .iconst 0, 1), (1496, .ireturn, 1)]
theorem k_La_law_1474 : sv_tk m_La_law.2.1 t_La_law_1474 := by decide +kernel
def t_La_law_1497 : List (Nat × Instr × Nat) := [(1497, .aload_n 1, 1), (1498, .aload_n 0, 1), (1499, .iload_n 3, 1), (1500, .iconst 1, 1), (1501, .iadd, 1), (1502, .iaload, 1), (1503, .aload_n 0, 1), (1504, .iload_n 3, 1), (1505, .iconst 2, 1), (1506, .iadd, 1), (1507, .iaload, 1), (1508, .aload_n 0, 1), (1509, .iload_n 3, 1), (1510, .iconst 3, 1), (1511, .iadd, 1), (1512, .iaload, 1), (1513, .aload_n 0, 1), (1514, .iload_n 3, 1), (1515, .iconst 4, 1), (1516, .iadd, 1), (1517, .iaload, 1), (1518, .aload_n 0, 1), (1519, .iload_n 3, 1), (1520, .iconst 5, 1), (1521, .iadd, 1), (1522, .iaload, 1), (1523, .aload_n 0, 1), (1524, .iload_n 3, 1), (1525, .bipush 6, 2), (1527, .iadd, 1), (1528, .iaload, 1), (1529, .aload_n 0, 1), (1530, .iload_n 3, 1), (1531, .bipush 7, 2), (1533, .iadd, 1), (1534, .iaload, 1), (1535, .invokevirtual 150, 3), (1538, .aload_n 2, 1), (1539, .aload_n 0, 1), (1540, .iload_n 3, 1), (1541, .iconst 1, 1), (1542, .iadd, 1), (1543, .iaload, 1), (1544, .aload_n 0, 1), (1545, .iload_n 3, 1), (1546, .iconst 2, 1), (1547, .iadd, 1), (1548, .iaload, 1), (1549, .aload_n 0, 1), (1550, .iload_n 3, 1), (1551, .iconst 3, 1), (1552, .iadd, 1), (1553, .iaload, 1), (1554, .aload_n 0, 1), (1555, .iload_n 3, 1), (1556, .iconst 4, 1), (1557, .iadd, 1), (1558, .iaload, 1), (1559, .aload_n 0, 1), (1560, .iload_n 3, 1), (1561, .iconst 5, 1), (1562, .iadd, 1), (1563, .iaload, 1), (1564, .aload_n 0, 1), (1565, .iload_n 3, 1), (1566, .bipush 6, 2), (1568, .iadd, 1), (1569, .iaload, 1), (1570, .aload_n 0, 1), (1571, .iload_n 3, 1), (1572, .bipush 7, 2), (1574, .iadd, 1), (1575, .iaload, 1), (1576, .invokevirtual 153, 3), (1579, .if_icmp .eq 340, 3), (1582, .iconst 0, 1), (1583, .ireturn, 1)]
theorem k_La_law_1497 : sv_tk m_La_law.2.1 t_La_law_1497 := by decide +kernel
def t_La_law_1584 : List (Nat × Instr × Nat) := [(1584, .aload_n 1, 1), (1585, .aload_n 0, 1), (1586, .iload_n 3, 1), (1587, .iconst 1, 1), (1588, .iadd, 1), (1589, .iaload, 1), (1590, .aload_n 0, 1), (1591, .iload_n 3, 1), (1592, .iconst 2, 1), (1593, .iadd, 1), (1594, .iaload, 1), (1595, .aload_n 0, 1), (1596, .iload_n 3, 1), (1597, .iconst 3, 1), (1598, .iadd, 1), (1599, .iaload, 1), (1600, .invokevirtual 154, 3), (1603, .aload_n 2, 1), (1604, .aload_n 0, 1), (1605, .iload_n 3, 1), (1606, .iconst 1, 1), (1607, .iadd, 1), (1608, .iaload, 1), (1609, .aload_n 0, 1), (1610, .iload_n 3, 1), (1611, .iconst 2, 1), (1612, .iadd, 1), (1613, .iaload, 1), (1614, .aload_n 0, 1), (1615, .iload_n 3, 1), (1616, .iconst 3, 1), (1617, .iadd, 1), (1618, .iaload, 1), (1619, .invokevirtual 157, 3), (1622, .if_icmp .eq 297, 3), (1625, .iconst 0, 1), (1626, .ireturn, 1)]
theorem k_La_law_1584 : sv_tk m_La_law.2.1 t_La_law_1584 := by decide +kernel
def t_La_law_1627 : List (Nat × Instr × Nat) := [(1627, .aload_n 1, 1), (1628, .aload_n 0, 1), (1629, .iload_n 3, 1), (1630, .iconst 1, 1), (1631, .iadd, 1), (1632, .iaload, 1), (1633, .invokevirtual 158, 3), (1636, .aload_n 2, 1), (1637, .aload_n 0, 1), (1638, .iload_n 3, 1), (1639, .iconst 1, 1), (1640, .iadd, 1), (1641, .iaload, 1), (1642, .invokevirtual 161, 3), (1645, .if_icmp .eq 274, 3), (1648, .iconst 0, 1), (1649, .ireturn, 1)]
theorem k_La_law_1627 : sv_tk m_La_law.2.1 t_La_law_1627 := by decide +kernel
def t_La_law_1650 : List (Nat × Instr × Nat) := [(1650, .aload_n 1, 1), (1651, .aload_n 0, 1), (1652, .iload_n 3, 1), (1653, .iconst 1, 1), (1654, .iadd, 1), (1655, .iaload, 1), (1656, .aload_n 0, 1), (1657, .iload_n 3, 1), (1658, .iconst 2, 1), (1659, .iadd, 1), (1660, .iaload, 1), (1661, .invokevirtual 162, 3), (1664, .aload_n 2, 1), (1665, .aload_n 0, 1), (1666, .iload_n 3, 1), (1667, .iconst 1, 1), (1668, .iadd, 1), (1669, .iaload, 1), (1670, .aload_n 0, 1), (1671, .iload_n 3, 1), (1672, .iconst 2, 1), (1673, .iadd, 1), (1674, .iaload, 1), (1675, .invokevirtual 165, 3), (1678, .if_icmp .eq 241, 3), (1681, .iconst 0, 1), (1682, .ireturn, 1)]
theorem k_La_law_1650 : sv_tk m_La_law.2.1 t_La_law_1650 := by decide +kernel
def t_La_law_1683 : List (Nat × Instr × Nat) := [(1683, .aload_n 1, 1), (1684, .aload_n 0, 1), (1685, .iload_n 3, 1), (1686, .iconst 1, 1), (1687, .iadd, 1), (1688, .iaload, 1), (1689, .invokevirtual 166, 3), (1692, .aload_n 2, 1), (1693, .aload_n 0, 1), (1694, .iload_n 3, 1), (1695, .iconst 1, 1), (1696, .iadd, 1), (1697, .iaload, 1), (1698, .invokevirtual 169, 3), (1701, .if_icmp .eq 218, 3), (1704, .iconst 0, 1), (1705, .ireturn, 1)]
theorem k_La_law_1683 : sv_tk m_La_law.2.1 t_La_law_1683 := by decide +kernel
def t_La_law_1706 : List (Nat × Instr × Nat) := [(1706, .aload_n 1, 1), (1707, .aload_n 0, 1), (1708, .iload_n 3, 1), (1709, .iconst 1, 1), (1710, .iadd, 1), (1711, .iaload, 1), (1712, .aload_n 0, 1), (1713, .iload_n 3, 1), (1714, .iconst 2, 1), (1715, .iadd, 1), (1716, .iaload, 1), (1717, .aload_n 0, 1), (1718, .iload_n 3, 1), (1719, .iconst 3, 1), (1720, .iadd, 1), (1721, .iaload, 1), (1722, .invokevirtual 170, 3), (1725, .aload_n 2, 1), (1726, .aload_n 0, 1), (1727, .iload_n 3, 1), (1728, .iconst 1, 1), (1729, .iadd, 1), (1730, .iaload, 1), (1731, .aload_n 0, 1), (1732, .iload_n 3, 1), (1733, .iconst 2, 1), (1734, .iadd, 1), (1735, .iaload, 1), (1736, .aload_n 0, 1), (1737, .iload_n 3, 1), (1738, .iconst 3, 1), (1739, .iadd, 1), (1740, .iaload, 1), (1741, .invokevirtual 173, 3), (1744, .if_icmp .eq 175, 3), (1747, .iconst 0, 1), (1748, .ireturn, 1)]
theorem k_La_law_1706 : sv_tk m_La_law.2.1 t_La_law_1706 := by decide +kernel
def t_La_law_1749 : List (Nat × Instr × Nat) := [(1749, .aload_n 1, 1), (1750, .aload_n 0, 1), (1751, .iload_n 3, 1), (1752, .iconst 1, 1), (1753, .iadd, 1), (1754, .iaload, 1), (1755, .aload_n 0, 1), (1756, .iload_n 3, 1), (1757, .iconst 2, 1), (1758, .iadd, 1), (1759, .iaload, 1), (1760, .aload_n 0, 1), (1761, .iload_n 3, 1), (1762, .iconst 3, 1), (1763, .iadd, 1), (1764, .iaload, 1), (1765, .i2l, 1), (1766, .bipush 32, 2), (1768, .lshl, 1), (1769, .aload_n 0, 1), (1770, .iload_n 3, 1), (1771, .iconst 4, 1), (1772, .iadd, 1), (1773, .iaload, 1), (1774, .i2l, 1), (1775, .ldc2_w 174, 3), (1778, .land, 1), (1779, .lor, 1), (1780, .invokevirtual 176, 3), (1783, .aload_n 2, 1), (1784, .aload_n 0, 1), (1785, .iload_n 3, 1), (1786, .iconst 1, 1), (1787, .iadd, 1), (1788, .iaload, 1), (1789, .aload_n 0, 1), (1790, .iload_n 3, 1), (1791, .iconst 2, 1), (1792, .iadd, 1), (1793, .iaload, 1), (1794, .aload_n 0, 1), (1795, .iload_n 3, 1), (1796, .iconst 3, 1), (1797, .iadd, 1), (1798, .iaload, 1), (1799, .i2l, 1), (1800, .bipush 32, 2), (1802, .lshl, 1), (1803, .aload_n 0, 1), (1804, .iload_n 3, 1), (1805, .iconst 4, 1), (1806, .iadd, 1), (1807, .iaload, 1), (1808, .i2l, 1), (1809, .ldc2_w 174, 3), (1812, .land, 1), (1813, .lor, 1), (1814, .invokevirtual 180, 3), (1817, .if_icmp .eq 102, 3), (1820, .iconst 0, 1), (1821, .ireturn, 1)]
theorem k_La_law_1749 : sv_tk m_La_law.2.1 t_La_law_1749 := by decide +kernel
def t_La_law_1822 : List (Nat × Instr × Nat) := [(1822, .aload_n 1, 1), (1823, .aload_n 0, 1), (1824, .iload_n 3, 1), (1825, .iconst 1, 1), (1826, .iadd, 1), (1827, .iaload, 1), (1828, .aload_n 0, 1), (1829, .iload_n 3, 1), (1830, .iconst 2, 1), (1831, .iadd, 1), (1832, .iaload, 1), (1833, .invokevirtual 181, 3), (1836, .aload_n 2, 1), (1837, .aload_n 0, 1), (1838, .iload_n 3, 1), (1839, .iconst 1, 1), (1840, .iadd, 1), (1841, .iaload, 1), (1842, .aload_n 0, 1), (1843, .iload_n 3, 1), (1844, .iconst 2, 1), (1845, .iadd, 1), (1846, .iaload, 1), (1847, .invokevirtual 185, 3), (1850, .lcmp, 1), (1851, .ifCond .eq 68, 3), (1854, .iconst 0, 1), (1855, .ireturn, 1)]
theorem k_La_law_1822 : sv_tk m_La_law.2.1 t_La_law_1822 := by decide +kernel
def t_La_law_1856 : List (Nat × Instr × Nat) := [(1856, .aload_n 1, 1), (1857, .aload_n 0, 1), (1858, .iload_n 3, 1), (1859, .iconst 1, 1), (1860, .iadd, 1), (1861, .iaload, 1), (1862, .aload_n 0, 1), (1863, .iload_n 3, 1), (1864, .iconst 2, 1), (1865, .iadd, 1), (1866, .iaload, 1), (1867, .aload_n 0, 1), (1868, .iload_n 3, 1), (1869, .iconst 3, 1), (1870, .iadd, 1), (1871, .iaload, 1), (1872, .aload_n 0, 1), (1873, .iload_n 3, 1), (1874, .iconst 4, 1), (1875, .iadd, 1), (1876, .iaload, 1), (1877, .aload_n 0, 1), (1878, .iload_n 3, 1), (1879, .iconst 5, 1), (1880, .iadd, 1), (1881, .iaload, 1), (1882, .invokevirtual 186, 3), (1885, .aload_n 2, 1), (1886, .aload_n 0, 1), (1887, .iload_n 3, 1), (1888, .iconst 1, 1), (1889, .iadd, 1), (1890, .iaload, 1), (1891, .aload_n 0, 1), (1892, .iload_n 3, 1), (1893, .iconst 2, 1), (1894, .iadd, 1), (1895, .iaload, 1), (1896, .aload_n 0, 1), (1897, .iload_n 3, 1), (1898, .iconst 3, 1), (1899, .iadd, 1), (1900, .iaload, 1), (1901, .aload_n 0, 1), (1902, .iload_n 3, 1), (1903, .iconst 4, 1), (1904, .iadd, 1), (1905, .iaload, 1), (1906, .aload_n 0, 1), (1907, .iload_n 3, 1), (1908, .iconst 5, 1), (1909, .iadd, 1), (1910, .iaload, 1), (1911, .invokevirtual 189, 3), (1914, .if_icmp .eq 5, 3), (1917, .iconst 0, 1), (1918, .ireturn, 1)]
theorem k_La_law_1856 : sv_tk m_La_law.2.1 t_La_law_1856 := by decide +kernel
def t_La_law_1919 : List (Nat × Instr × Nat) := [(1919, .iinc 3 8, 3), (1922, .goto (-1904), 3), (1925, .iconst 1, 1), (1926, .ireturn, 1)]
theorem k_La_law_1919 : sv_tk m_La_law.2.1 t_La_law_1919 := by decide +kernel
noncomputable def F_La_law_b1919 (kc18 : Int32 → sv_S → Option (Int32 × sv_S)) (x3 : Int32) (s : sv_S) : Option (Int32 × sv_S) :=
  ss_let (x3 + (8 : Int32)) fun v4 =>
  kc18 v4 s
theorem V_La_law_b1919 (E : sv_E) (d : Nat) (kc18 : Int32 → sv_S → Option (Int32 × sv_S)) (hc18 : ∀ (x3 : Int32) (s : sv_S), sv_V E m_La_law (d + 83) ss_i 18 [(0, sv_r E 0), (1, sv_r E 64), (2, sv_r E 187), (3, .int x3)] [] (ss_e s) (kc18 x3 s)) (x3 : Int32) (s : sv_S) : sv_V E m_La_law (d + 83) ss_i 1919 [(0, sv_r E 0), (1, sv_r E 64), (2, sv_r E 187), (3, .int x3)] [] (ss_e s) (F_La_law_b1919 kc18 x3 s) := by
  unfold F_La_law_b1919
  refine ss_letr (fun v4 e_v4 => ?_)
  refine sv_iinc (pc := 1919) (v := v4) (lv' := [(3, .int v4), (0, sv_r E 0), (1, sv_r E 64), (2, sv_r E 187)]) (sv_d k_La_law_1919 0 rfl) (n := 3) rfl (by rw [e_v4]; rfl) (by decide) rfl ?_
  refine sv_goto (pc := 1922) (tgt := 18) (sv_d k_La_law_1919 1 rfl) (by decide) ?_
  exact sv_loc [1, 2, 3, 0] rfl (hc18 v4 s)
noncomputable def F_La_law_b212 (kc18 : Int32 → sv_S → Option (Int32 × sv_S)) (x3 : Int32) (s : sv_S) : Option (Int32 × sv_S) :=
  if sv_ib (x3 + (1 : Int32)) (ss_N s.2.2.2.1 0) = true then
    (F_X_pass (s.1 0 (x3 + (1 : Int32)).toNatClampNeg) s).bind fun r2 =>
    if sv_ib (x3 + (1 : Int32)) (ss_N r2.2.2.2.2.1 0) = true then
      (F_Mo_pass (r2.2.1 0 (x3 + (1 : Int32)).toNatClampNeg) r2.2).bind fun r3 =>
      if r2.1 = r3.1 then
        F_La_law_b1919 kc18 x3 r3.2
      else
      some ((0 : Int32), r3.2)
    else none
  else none
theorem V_La_law_b212 (E : sv_E) (d : Nat) (kc18 : Int32 → sv_S → Option (Int32 × sv_S)) (hc18 : ∀ (x3 : Int32) (s : sv_S), sv_V E m_La_law (d + 83) ss_i 18 [(0, sv_r E 0), (1, sv_r E 64), (2, sv_r E 187), (3, .int x3)] [] (ss_e s) (kc18 x3 s)) (x3 : Int32) (s : sv_S) : sv_V E m_La_law (d + 83) ss_i 212 [(0, sv_r E 0), (1, sv_r E 64), (2, sv_r E 187), (3, .int x3)] [] (ss_e s) (F_La_law_b212 kc18 x3 s) := by
  unfold F_La_law_b212
  refine sv_aload_n (pc := 212) 1 (sv_d k_La_law_212 0 rfl) rfl rfl ?_
  refine sv_aload_n (pc := 213) 0 (sv_d k_La_law_212 1 rfl) rfl rfl ?_
  refine sv_iload_n (pc := 214) 3 (sv_d k_La_law_212 2 rfl) rfl rfl ?_
  refine sv_iconst (pc := 215) (v := (1 : Int32)) (sv_d k_La_law_212 3 rfl) (by decide) ?_
  refine sv_iadd (pc := 216) (sv_d k_La_law_212 4 rfl) ?_
  refine ss_iald (pc := 217) (n := (ss_N s.2.2.2.1 0)) (sv_d k_La_law_212 5 rfl) kd0 (ss_lt (by decide)) rfl ?_
  refine sv_callV (pc := 218) (ψ := ss_i) (As := [.int (s.1 0 (x3 + (1 : Int32)).toNatClampNeg)]) (rest := []) (c := 64) (sv_d k_La_law_212 6 rfl) g_X_pass w550 in_X_pass se_X_pass cf11 kd64 (ss_lt (by decide)) rfl (Nat.le_of_ble_eq_true rfl) (V_X_pass E (d + 82) (s.1 0 (x3 + (1 : Int32)).toNatClampNeg) s) (Nat.le_of_ble_eq_true rfl) rfl (fun r2 => ?_)
  show sv_V E _ _ _ 221 _ [.int r2.1] (ss_e r2.2) _
  refine sv_aload_n (pc := 221) 2 (sv_d k_La_law_212 7 rfl) rfl rfl ?_
  refine sv_aload_n (pc := 222) 0 (sv_d k_La_law_212 8 rfl) rfl rfl ?_
  refine sv_iload_n (pc := 223) 3 (sv_d k_La_law_212 9 rfl) rfl rfl ?_
  refine sv_iconst (pc := 224) (v := (1 : Int32)) (sv_d k_La_law_212 10 rfl) (by decide) ?_
  refine sv_iadd (pc := 225) (sv_d k_La_law_212 11 rfl) ?_
  refine ss_iald (pc := 226) (n := (ss_N r2.2.2.2.2.1 0)) (sv_d k_La_law_212 12 rfl) kd0 (ss_lt (by decide)) rfl ?_
  refine sv_callV (pc := 227) (ψ := ss_i) (As := [.int (r2.2.1 0 (x3 + (1 : Int32)).toNatClampNeg)]) (rest := [.int r2.1]) (c := 187) (sv_d k_La_law_212 13 rfl) g_Mo_pass w1541 in_Mo_pass se_Mo_pass cf12 kd187 (ss_lt (by decide)) rfl (Nat.le_of_ble_eq_true rfl) (V_Mo_pass E (d + 81) (r2.2.1 0 (x3 + (1 : Int32)).toNatClampNeg) r2.2) (Nat.le_of_ble_eq_true rfl) rfl (fun r3 => ?_)
  show sv_V E _ _ _ 230 _ [.int r3.1, .int r2.1] (ss_e r3.2) _
  refine sv_icmp_eq (pc := 230) (tgt := 1919) (sv_d k_La_law_212 14 rfl) (by decide) ?_ ?_
  · exact sv_loc [0, 1, 2, 3] rfl (V_La_law_b1919 E d kc18 hc18 x3 r3.2)
  · refine sv_iconst (pc := 233) (v := (0 : Int32)) (sv_d k_La_law_212 15 rfl) (by decide) ?_
    exact sv_ret (pc := 234) (sv_d k_La_law_212 16 rfl) ⟨_, rfl, rfl⟩ rfl
noncomputable def F_La_law_b235 (kc18 : Int32 → sv_S → Option (Int32 × sv_S)) (x3 : Int32) (s : sv_S) : Option (Int32 × sv_S) :=
  if sv_ib (x3 + (1 : Int32)) (ss_N s.2.2.2.1 0) = true then
    if sv_ib (x3 + (2 : Int32)) (ss_N s.2.2.2.1 0) = true then
      if sv_ib (x3 + (3 : Int32)) (ss_N s.2.2.2.1 0) = true then
        if sv_ib (x3 + (4 : Int32)) (ss_N s.2.2.2.1 0) = true then
          (F_X_line (s.1 0 (x3 + (1 : Int32)).toNatClampNeg) (s.1 0 (x3 + (2 : Int32)).toNatClampNeg) (s.1 0 (x3 + (3 : Int32)).toNatClampNeg) (s.1 0 (x3 + (4 : Int32)).toNatClampNeg) s).bind fun r6 =>
          if sv_ib (x3 + (1 : Int32)) (ss_N r6.2.2.2.2.1 0) = true then
            if sv_ib (x3 + (2 : Int32)) (ss_N r6.2.2.2.2.1 0) = true then
              if sv_ib (x3 + (3 : Int32)) (ss_N r6.2.2.2.2.1 0) = true then
                if sv_ib (x3 + (4 : Int32)) (ss_N r6.2.2.2.2.1 0) = true then
                  (F_Mo_line (r6.2.1 0 (x3 + (1 : Int32)).toNatClampNeg) (r6.2.1 0 (x3 + (2 : Int32)).toNatClampNeg) (r6.2.1 0 (x3 + (3 : Int32)).toNatClampNeg) (r6.2.1 0 (x3 + (4 : Int32)).toNatClampNeg) r6.2).bind fun r7 =>
                  if r6.1 = r7.1 then
                    F_La_law_b1919 kc18 x3 r7.2
                  else
                  some ((0 : Int32), r7.2)
                else none
              else none
            else none
          else none
        else none
      else none
    else none
  else none
theorem V_La_law_b235 (E : sv_E) (d : Nat) (kc18 : Int32 → sv_S → Option (Int32 × sv_S)) (hc18 : ∀ (x3 : Int32) (s : sv_S), sv_V E m_La_law (d + 83) ss_i 18 [(0, sv_r E 0), (1, sv_r E 64), (2, sv_r E 187), (3, .int x3)] [] (ss_e s) (kc18 x3 s)) (x3 : Int32) (s : sv_S) : sv_V E m_La_law (d + 83) ss_i 235 [(0, sv_r E 0), (1, sv_r E 64), (2, sv_r E 187), (3, .int x3)] [] (ss_e s) (F_La_law_b235 kc18 x3 s) := by
  unfold F_La_law_b235
  refine sv_aload_n (pc := 235) 1 (sv_d k_La_law_235 0 rfl) rfl rfl ?_
  refine sv_aload_n (pc := 236) 0 (sv_d k_La_law_235 1 rfl) rfl rfl ?_
  refine sv_iload_n (pc := 237) 3 (sv_d k_La_law_235 2 rfl) rfl rfl ?_
  refine sv_iconst (pc := 238) (v := (1 : Int32)) (sv_d k_La_law_235 3 rfl) (by decide) ?_
  refine sv_iadd (pc := 239) (sv_d k_La_law_235 4 rfl) ?_
  refine ss_iald (pc := 240) (n := (ss_N s.2.2.2.1 0)) (sv_d k_La_law_235 5 rfl) kd0 (ss_lt (by decide)) rfl ?_
  refine sv_aload_n (pc := 241) 0 (sv_d k_La_law_235 6 rfl) rfl rfl ?_
  refine sv_iload_n (pc := 242) 3 (sv_d k_La_law_235 7 rfl) rfl rfl ?_
  refine sv_iconst (pc := 243) (v := (2 : Int32)) (sv_d k_La_law_235 8 rfl) (by decide) ?_
  refine sv_iadd (pc := 244) (sv_d k_La_law_235 9 rfl) ?_
  refine ss_iald (pc := 245) (n := (ss_N s.2.2.2.1 0)) (sv_d k_La_law_235 10 rfl) kd0 (ss_lt (by decide)) rfl ?_
  refine sv_aload_n (pc := 246) 0 (sv_d k_La_law_235 11 rfl) rfl rfl ?_
  refine sv_iload_n (pc := 247) 3 (sv_d k_La_law_235 12 rfl) rfl rfl ?_
  refine sv_iconst (pc := 248) (v := (3 : Int32)) (sv_d k_La_law_235 13 rfl) (by decide) ?_
  refine sv_iadd (pc := 249) (sv_d k_La_law_235 14 rfl) ?_
  refine ss_iald (pc := 250) (n := (ss_N s.2.2.2.1 0)) (sv_d k_La_law_235 15 rfl) kd0 (ss_lt (by decide)) rfl ?_
  refine sv_aload_n (pc := 251) 0 (sv_d k_La_law_235 16 rfl) rfl rfl ?_
  refine sv_iload_n (pc := 252) 3 (sv_d k_La_law_235 17 rfl) rfl rfl ?_
  refine sv_iconst (pc := 253) (v := (4 : Int32)) (sv_d k_La_law_235 18 rfl) (by decide) ?_
  refine sv_iadd (pc := 254) (sv_d k_La_law_235 19 rfl) ?_
  refine ss_iald (pc := 255) (n := (ss_N s.2.2.2.1 0)) (sv_d k_La_law_235 20 rfl) kd0 (ss_lt (by decide)) rfl ?_
  refine sv_callV (pc := 256) (ψ := ss_i) (As := [.int (s.1 0 (x3 + (1 : Int32)).toNatClampNeg), .int (s.1 0 (x3 + (2 : Int32)).toNatClampNeg), .int (s.1 0 (x3 + (3 : Int32)).toNatClampNeg), .int (s.1 0 (x3 + (4 : Int32)).toNatClampNeg)]) (rest := []) (c := 64) (sv_d k_La_law_235 21 rfl) g_X_line w554 in_X_line se_X_line cf11 kd64 (ss_lt (by decide)) rfl (Nat.le_of_ble_eq_true rfl) (V_X_line E (d + 79) (s.1 0 (x3 + (1 : Int32)).toNatClampNeg) (s.1 0 (x3 + (2 : Int32)).toNatClampNeg) (s.1 0 (x3 + (3 : Int32)).toNatClampNeg) (s.1 0 (x3 + (4 : Int32)).toNatClampNeg) s) (Nat.le_of_ble_eq_true rfl) rfl (fun r6 => ?_)
  show sv_V E _ _ _ 259 _ [.int r6.1] (ss_e r6.2) _
  refine sv_aload_n (pc := 259) 2 (sv_d k_La_law_235 22 rfl) rfl rfl ?_
  refine sv_aload_n (pc := 260) 0 (sv_d k_La_law_235 23 rfl) rfl rfl ?_
  refine sv_iload_n (pc := 261) 3 (sv_d k_La_law_235 24 rfl) rfl rfl ?_
  refine sv_iconst (pc := 262) (v := (1 : Int32)) (sv_d k_La_law_235 25 rfl) (by decide) ?_
  refine sv_iadd (pc := 263) (sv_d k_La_law_235 26 rfl) ?_
  refine ss_iald (pc := 264) (n := (ss_N r6.2.2.2.2.1 0)) (sv_d k_La_law_235 27 rfl) kd0 (ss_lt (by decide)) rfl ?_
  refine sv_aload_n (pc := 265) 0 (sv_d k_La_law_235 28 rfl) rfl rfl ?_
  refine sv_iload_n (pc := 266) 3 (sv_d k_La_law_235 29 rfl) rfl rfl ?_
  refine sv_iconst (pc := 267) (v := (2 : Int32)) (sv_d k_La_law_235 30 rfl) (by decide) ?_
  refine sv_iadd (pc := 268) (sv_d k_La_law_235 31 rfl) ?_
  refine ss_iald (pc := 269) (n := (ss_N r6.2.2.2.2.1 0)) (sv_d k_La_law_235 32 rfl) kd0 (ss_lt (by decide)) rfl ?_
  refine sv_aload_n (pc := 270) 0 (sv_d k_La_law_235 33 rfl) rfl rfl ?_
  refine sv_iload_n (pc := 271) 3 (sv_d k_La_law_235 34 rfl) rfl rfl ?_
  refine sv_iconst (pc := 272) (v := (3 : Int32)) (sv_d k_La_law_235 35 rfl) (by decide) ?_
  refine sv_iadd (pc := 273) (sv_d k_La_law_235 36 rfl) ?_
  refine ss_iald (pc := 274) (n := (ss_N r6.2.2.2.2.1 0)) (sv_d k_La_law_235 37 rfl) kd0 (ss_lt (by decide)) rfl ?_
  refine sv_aload_n (pc := 275) 0 (sv_d k_La_law_235 38 rfl) rfl rfl ?_
  refine sv_iload_n (pc := 276) 3 (sv_d k_La_law_235 39 rfl) rfl rfl ?_
  refine sv_iconst (pc := 277) (v := (4 : Int32)) (sv_d k_La_law_235 40 rfl) (by decide) ?_
  refine sv_iadd (pc := 278) (sv_d k_La_law_235 41 rfl) ?_
  refine ss_iald (pc := 279) (n := (ss_N r6.2.2.2.2.1 0)) (sv_d k_La_law_235 42 rfl) kd0 (ss_lt (by decide)) rfl ?_
  refine sv_callV (pc := 280) (ψ := ss_i) (As := [.int (r6.2.1 0 (x3 + (1 : Int32)).toNatClampNeg), .int (r6.2.1 0 (x3 + (2 : Int32)).toNatClampNeg), .int (r6.2.1 0 (x3 + (3 : Int32)).toNatClampNeg), .int (r6.2.1 0 (x3 + (4 : Int32)).toNatClampNeg)]) (rest := [.int r6.1]) (c := 187) (sv_d k_La_law_235 43 rfl) g_Mo_line w1549 in_Mo_line se_Mo_line cf12 kd187 (ss_lt (by decide)) rfl (Nat.le_of_ble_eq_true rfl) (V_Mo_line E (d + 80) (r6.2.1 0 (x3 + (1 : Int32)).toNatClampNeg) (r6.2.1 0 (x3 + (2 : Int32)).toNatClampNeg) (r6.2.1 0 (x3 + (3 : Int32)).toNatClampNeg) (r6.2.1 0 (x3 + (4 : Int32)).toNatClampNeg) r6.2) (Nat.le_of_ble_eq_true rfl) rfl (fun r7 => ?_)
  show sv_V E _ _ _ 283 _ [.int r7.1, .int r6.1] (ss_e r7.2) _
  refine sv_icmp_eq (pc := 283) (tgt := 1919) (sv_d k_La_law_235 44 rfl) (by decide) ?_ ?_
  · exact sv_loc [0, 1, 2, 3] rfl (V_La_law_b1919 E d kc18 hc18 x3 r7.2)
  · refine sv_iconst (pc := 286) (v := (0 : Int32)) (sv_d k_La_law_235 45 rfl) (by decide) ?_
    exact sv_ret (pc := 287) (sv_d k_La_law_235 46 rfl) ⟨_, rfl, rfl⟩ rfl
noncomputable def F_La_law_b288 (kc18 : Int32 → sv_S → Option (Int32 × sv_S)) (x3 : Int32) (s : sv_S) : Option (Int32 × sv_S) :=
  if sv_ib (x3 + (1 : Int32)) (ss_N s.2.2.2.1 0) = true then
    if sv_ib (x3 + (2 : Int32)) (ss_N s.2.2.2.1 0) = true then
      if sv_ib (x3 + (3 : Int32)) (ss_N s.2.2.2.1 0) = true then
        (F_X_miles (s.1 0 (x3 + (1 : Int32)).toNatClampNeg) (s.1 0 (x3 + (2 : Int32)).toNatClampNeg) (s.1 0 (x3 + (3 : Int32)).toNatClampNeg) s).bind fun r9 =>
        if sv_ib (x3 + (1 : Int32)) (ss_N s.2.2.2.1 0) = true then
          if sv_ib (x3 + (2 : Int32)) (ss_N s.2.2.2.1 0) = true then
            if sv_ib (x3 + (3 : Int32)) (ss_N s.2.2.2.1 0) = true then
              (F_Mo_miles (s.1 0 (x3 + (1 : Int32)).toNatClampNeg) (s.1 0 (x3 + (2 : Int32)).toNatClampNeg) (s.1 0 (x3 + (3 : Int32)).toNatClampNeg) s).bind fun r10 =>
              if r9 = r10.1 then
                F_La_law_b1919 kc18 x3 r10.2
              else
              some ((0 : Int32), r10.2)
            else none
          else none
        else none
      else none
    else none
  else none
theorem V_La_law_b288 (E : sv_E) (d : Nat) (kc18 : Int32 → sv_S → Option (Int32 × sv_S)) (hc18 : ∀ (x3 : Int32) (s : sv_S), sv_V E m_La_law (d + 83) ss_i 18 [(0, sv_r E 0), (1, sv_r E 64), (2, sv_r E 187), (3, .int x3)] [] (ss_e s) (kc18 x3 s)) (x3 : Int32) (s : sv_S) : sv_V E m_La_law (d + 83) ss_i 288 [(0, sv_r E 0), (1, sv_r E 64), (2, sv_r E 187), (3, .int x3)] [] (ss_e s) (F_La_law_b288 kc18 x3 s) := by
  unfold F_La_law_b288
  refine sv_aload_n (pc := 288) 1 (sv_d k_La_law_288 0 rfl) rfl rfl ?_
  refine sv_aload_n (pc := 289) 0 (sv_d k_La_law_288 1 rfl) rfl rfl ?_
  refine sv_iload_n (pc := 290) 3 (sv_d k_La_law_288 2 rfl) rfl rfl ?_
  refine sv_iconst (pc := 291) (v := (1 : Int32)) (sv_d k_La_law_288 3 rfl) (by decide) ?_
  refine sv_iadd (pc := 292) (sv_d k_La_law_288 4 rfl) ?_
  refine ss_iald (pc := 293) (n := (ss_N s.2.2.2.1 0)) (sv_d k_La_law_288 5 rfl) kd0 (ss_lt (by decide)) rfl ?_
  refine sv_aload_n (pc := 294) 0 (sv_d k_La_law_288 6 rfl) rfl rfl ?_
  refine sv_iload_n (pc := 295) 3 (sv_d k_La_law_288 7 rfl) rfl rfl ?_
  refine sv_iconst (pc := 296) (v := (2 : Int32)) (sv_d k_La_law_288 8 rfl) (by decide) ?_
  refine sv_iadd (pc := 297) (sv_d k_La_law_288 9 rfl) ?_
  refine ss_iald (pc := 298) (n := (ss_N s.2.2.2.1 0)) (sv_d k_La_law_288 10 rfl) kd0 (ss_lt (by decide)) rfl ?_
  refine sv_aload_n (pc := 299) 0 (sv_d k_La_law_288 11 rfl) rfl rfl ?_
  refine sv_iload_n (pc := 300) 3 (sv_d k_La_law_288 12 rfl) rfl rfl ?_
  refine sv_iconst (pc := 301) (v := (3 : Int32)) (sv_d k_La_law_288 13 rfl) (by decide) ?_
  refine sv_iadd (pc := 302) (sv_d k_La_law_288 14 rfl) ?_
  refine ss_iald (pc := 303) (n := (ss_N s.2.2.2.1 0)) (sv_d k_La_law_288 15 rfl) kd0 (ss_lt (by decide)) rfl ?_
  refine sv_callV (pc := 304) (ψ := (ss_pi s)) (As := [.int (s.1 0 (x3 + (1 : Int32)).toNatClampNeg), .int (s.1 0 (x3 + (2 : Int32)).toNatClampNeg), .int (s.1 0 (x3 + (3 : Int32)).toNatClampNeg)]) (rest := []) (c := 64) (sv_d k_La_law_288 16 rfl) g_X_miles w581 in_X_miles se_X_miles cf11 kd64 (ss_lt (by decide)) rfl (Nat.le_of_ble_eq_true rfl) (V_X_miles E (d + 80) (s.1 0 (x3 + (1 : Int32)).toNatClampNeg) (s.1 0 (x3 + (2 : Int32)).toNatClampNeg) (s.1 0 (x3 + (3 : Int32)).toNatClampNeg) s) (Nat.le_of_ble_eq_true rfl) rfl (fun r9 => ?_)
  show sv_V E _ _ _ 307 _ [.int r9] (ss_e s) _
  refine sv_aload_n (pc := 307) 2 (sv_d k_La_law_288 17 rfl) rfl rfl ?_
  refine sv_aload_n (pc := 308) 0 (sv_d k_La_law_288 18 rfl) rfl rfl ?_
  refine sv_iload_n (pc := 309) 3 (sv_d k_La_law_288 19 rfl) rfl rfl ?_
  refine sv_iconst (pc := 310) (v := (1 : Int32)) (sv_d k_La_law_288 20 rfl) (by decide) ?_
  refine sv_iadd (pc := 311) (sv_d k_La_law_288 21 rfl) ?_
  refine ss_iald (pc := 312) (n := (ss_N s.2.2.2.1 0)) (sv_d k_La_law_288 22 rfl) kd0 (ss_lt (by decide)) rfl ?_
  refine sv_aload_n (pc := 313) 0 (sv_d k_La_law_288 23 rfl) rfl rfl ?_
  refine sv_iload_n (pc := 314) 3 (sv_d k_La_law_288 24 rfl) rfl rfl ?_
  refine sv_iconst (pc := 315) (v := (2 : Int32)) (sv_d k_La_law_288 25 rfl) (by decide) ?_
  refine sv_iadd (pc := 316) (sv_d k_La_law_288 26 rfl) ?_
  refine ss_iald (pc := 317) (n := (ss_N s.2.2.2.1 0)) (sv_d k_La_law_288 27 rfl) kd0 (ss_lt (by decide)) rfl ?_
  refine sv_aload_n (pc := 318) 0 (sv_d k_La_law_288 28 rfl) rfl rfl ?_
  refine sv_iload_n (pc := 319) 3 (sv_d k_La_law_288 29 rfl) rfl rfl ?_
  refine sv_iconst (pc := 320) (v := (3 : Int32)) (sv_d k_La_law_288 30 rfl) (by decide) ?_
  refine sv_iadd (pc := 321) (sv_d k_La_law_288 31 rfl) ?_
  refine ss_iald (pc := 322) (n := (ss_N s.2.2.2.1 0)) (sv_d k_La_law_288 32 rfl) kd0 (ss_lt (by decide)) rfl ?_
  refine sv_callV (pc := 323) (ψ := ss_i) (As := [.int (s.1 0 (x3 + (1 : Int32)).toNatClampNeg), .int (s.1 0 (x3 + (2 : Int32)).toNatClampNeg), .int (s.1 0 (x3 + (3 : Int32)).toNatClampNeg)]) (rest := [.int r9]) (c := 187) (sv_d k_La_law_288 33 rfl) g_Mo_miles w1561 in_Mo_miles se_Mo_miles cf12 kd187 (ss_lt (by decide)) rfl (Nat.le_of_ble_eq_true rfl) (V_Mo_miles E (d + 80) (s.1 0 (x3 + (1 : Int32)).toNatClampNeg) (s.1 0 (x3 + (2 : Int32)).toNatClampNeg) (s.1 0 (x3 + (3 : Int32)).toNatClampNeg) s) (Nat.le_of_ble_eq_true rfl) rfl (fun r10 => ?_)
  show sv_V E _ _ _ 326 _ [.int r10.1, .int r9] (ss_e r10.2) _
  refine sv_icmp_eq (pc := 326) (tgt := 1919) (sv_d k_La_law_288 34 rfl) (by decide) ?_ ?_
  · exact sv_loc [0, 1, 2, 3] rfl (V_La_law_b1919 E d kc18 hc18 x3 r10.2)
  · refine sv_iconst (pc := 329) (v := (0 : Int32)) (sv_d k_La_law_288 35 rfl) (by decide) ?_
    exact sv_ret (pc := 330) (sv_d k_La_law_288 36 rfl) ⟨_, rfl, rfl⟩ rfl
noncomputable def F_La_law_b331 (kc18 : Int32 → sv_S → Option (Int32 × sv_S)) (x3 : Int32) (s : sv_S) : Option (Int32 × sv_S) :=
  if sv_ib (x3 + (1 : Int32)) (ss_N s.2.2.2.1 0) = true then
    if sv_ib (x3 + (2 : Int32)) (ss_N s.2.2.2.1 0) = true then
      if sv_ib (x3 + (3 : Int32)) (ss_N s.2.2.2.1 0) = true then
        (F_X_way (s.1 0 (x3 + (1 : Int32)).toNatClampNeg) (s.1 0 (x3 + (2 : Int32)).toNatClampNeg) (s.1 0 (x3 + (3 : Int32)).toNatClampNeg) s).bind fun r12 =>
        if sv_ib (x3 + (1 : Int32)) (ss_N s.2.2.2.1 0) = true then
          if sv_ib (x3 + (2 : Int32)) (ss_N s.2.2.2.1 0) = true then
            if sv_ib (x3 + (3 : Int32)) (ss_N s.2.2.2.1 0) = true then
              (F_Mo_way (s.1 0 (x3 + (1 : Int32)).toNatClampNeg) (s.1 0 (x3 + (2 : Int32)).toNatClampNeg) (s.1 0 (x3 + (3 : Int32)).toNatClampNeg) s).bind fun r13 =>
              if r12 = r13.1 then
                F_La_law_b1919 kc18 x3 r13.2
              else
              some ((0 : Int32), r13.2)
            else none
          else none
        else none
      else none
    else none
  else none
theorem V_La_law_b331 (E : sv_E) (d : Nat) (kc18 : Int32 → sv_S → Option (Int32 × sv_S)) (hc18 : ∀ (x3 : Int32) (s : sv_S), sv_V E m_La_law (d + 83) ss_i 18 [(0, sv_r E 0), (1, sv_r E 64), (2, sv_r E 187), (3, .int x3)] [] (ss_e s) (kc18 x3 s)) (x3 : Int32) (s : sv_S) : sv_V E m_La_law (d + 83) ss_i 331 [(0, sv_r E 0), (1, sv_r E 64), (2, sv_r E 187), (3, .int x3)] [] (ss_e s) (F_La_law_b331 kc18 x3 s) := by
  unfold F_La_law_b331
  refine sv_aload_n (pc := 331) 1 (sv_d k_La_law_331 0 rfl) rfl rfl ?_
  refine sv_aload_n (pc := 332) 0 (sv_d k_La_law_331 1 rfl) rfl rfl ?_
  refine sv_iload_n (pc := 333) 3 (sv_d k_La_law_331 2 rfl) rfl rfl ?_
  refine sv_iconst (pc := 334) (v := (1 : Int32)) (sv_d k_La_law_331 3 rfl) (by decide) ?_
  refine sv_iadd (pc := 335) (sv_d k_La_law_331 4 rfl) ?_
  refine ss_iald (pc := 336) (n := (ss_N s.2.2.2.1 0)) (sv_d k_La_law_331 5 rfl) kd0 (ss_lt (by decide)) rfl ?_
  refine sv_aload_n (pc := 337) 0 (sv_d k_La_law_331 6 rfl) rfl rfl ?_
  refine sv_iload_n (pc := 338) 3 (sv_d k_La_law_331 7 rfl) rfl rfl ?_
  refine sv_iconst (pc := 339) (v := (2 : Int32)) (sv_d k_La_law_331 8 rfl) (by decide) ?_
  refine sv_iadd (pc := 340) (sv_d k_La_law_331 9 rfl) ?_
  refine ss_iald (pc := 341) (n := (ss_N s.2.2.2.1 0)) (sv_d k_La_law_331 10 rfl) kd0 (ss_lt (by decide)) rfl ?_
  refine sv_aload_n (pc := 342) 0 (sv_d k_La_law_331 11 rfl) rfl rfl ?_
  refine sv_iload_n (pc := 343) 3 (sv_d k_La_law_331 12 rfl) rfl rfl ?_
  refine sv_iconst (pc := 344) (v := (3 : Int32)) (sv_d k_La_law_331 13 rfl) (by decide) ?_
  refine sv_iadd (pc := 345) (sv_d k_La_law_331 14 rfl) ?_
  refine ss_iald (pc := 346) (n := (ss_N s.2.2.2.1 0)) (sv_d k_La_law_331 15 rfl) kd0 (ss_lt (by decide)) rfl ?_
  refine sv_callV (pc := 347) (ψ := (ss_pi s)) (As := [.int (s.1 0 (x3 + (1 : Int32)).toNatClampNeg), .int (s.1 0 (x3 + (2 : Int32)).toNatClampNeg), .int (s.1 0 (x3 + (3 : Int32)).toNatClampNeg)]) (rest := []) (c := 64) (sv_d k_La_law_331 16 rfl) g_X_way w592 in_X_way se_X_way cf11 kd64 (ss_lt (by decide)) rfl (Nat.le_of_ble_eq_true rfl) (V_X_way E (d + 79) (s.1 0 (x3 + (1 : Int32)).toNatClampNeg) (s.1 0 (x3 + (2 : Int32)).toNatClampNeg) (s.1 0 (x3 + (3 : Int32)).toNatClampNeg) s) (Nat.le_of_ble_eq_true rfl) rfl (fun r12 => ?_)
  show sv_V E _ _ _ 350 _ [.int r12] (ss_e s) _
  refine sv_aload_n (pc := 350) 2 (sv_d k_La_law_331 17 rfl) rfl rfl ?_
  refine sv_aload_n (pc := 351) 0 (sv_d k_La_law_331 18 rfl) rfl rfl ?_
  refine sv_iload_n (pc := 352) 3 (sv_d k_La_law_331 19 rfl) rfl rfl ?_
  refine sv_iconst (pc := 353) (v := (1 : Int32)) (sv_d k_La_law_331 20 rfl) (by decide) ?_
  refine sv_iadd (pc := 354) (sv_d k_La_law_331 21 rfl) ?_
  refine ss_iald (pc := 355) (n := (ss_N s.2.2.2.1 0)) (sv_d k_La_law_331 22 rfl) kd0 (ss_lt (by decide)) rfl ?_
  refine sv_aload_n (pc := 356) 0 (sv_d k_La_law_331 23 rfl) rfl rfl ?_
  refine sv_iload_n (pc := 357) 3 (sv_d k_La_law_331 24 rfl) rfl rfl ?_
  refine sv_iconst (pc := 358) (v := (2 : Int32)) (sv_d k_La_law_331 25 rfl) (by decide) ?_
  refine sv_iadd (pc := 359) (sv_d k_La_law_331 26 rfl) ?_
  refine ss_iald (pc := 360) (n := (ss_N s.2.2.2.1 0)) (sv_d k_La_law_331 27 rfl) kd0 (ss_lt (by decide)) rfl ?_
  refine sv_aload_n (pc := 361) 0 (sv_d k_La_law_331 28 rfl) rfl rfl ?_
  refine sv_iload_n (pc := 362) 3 (sv_d k_La_law_331 29 rfl) rfl rfl ?_
  refine sv_iconst (pc := 363) (v := (3 : Int32)) (sv_d k_La_law_331 30 rfl) (by decide) ?_
  refine sv_iadd (pc := 364) (sv_d k_La_law_331 31 rfl) ?_
  refine ss_iald (pc := 365) (n := (ss_N s.2.2.2.1 0)) (sv_d k_La_law_331 32 rfl) kd0 (ss_lt (by decide)) rfl ?_
  refine sv_callV (pc := 366) (ψ := ss_i) (As := [.int (s.1 0 (x3 + (1 : Int32)).toNatClampNeg), .int (s.1 0 (x3 + (2 : Int32)).toNatClampNeg), .int (s.1 0 (x3 + (3 : Int32)).toNatClampNeg)]) (rest := [.int r12]) (c := 187) (sv_d k_La_law_331 33 rfl) g_Mo_way w1574 in_Mo_way se_Mo_way cf12 kd187 (ss_lt (by decide)) rfl (Nat.le_of_ble_eq_true rfl) (V_Mo_way E (d + 80) (s.1 0 (x3 + (1 : Int32)).toNatClampNeg) (s.1 0 (x3 + (2 : Int32)).toNatClampNeg) (s.1 0 (x3 + (3 : Int32)).toNatClampNeg) s) (Nat.le_of_ble_eq_true rfl) rfl (fun r13 => ?_)
  show sv_V E _ _ _ 369 _ [.int r13.1, .int r12] (ss_e r13.2) _
  refine sv_icmp_eq (pc := 369) (tgt := 1919) (sv_d k_La_law_331 34 rfl) (by decide) ?_ ?_
  · exact sv_loc [0, 1, 2, 3] rfl (V_La_law_b1919 E d kc18 hc18 x3 r13.2)
  · refine sv_iconst (pc := 372) (v := (0 : Int32)) (sv_d k_La_law_331 35 rfl) (by decide) ?_
    exact sv_ret (pc := 373) (sv_d k_La_law_331 36 rfl) ⟨_, rfl, rfl⟩ rfl
noncomputable def F_La_law_b374 (kc18 : Int32 → sv_S → Option (Int32 × sv_S)) (x3 : Int32) (s : sv_S) : Option (Int32 × sv_S) :=
  if sv_ib (x3 + (1 : Int32)) (ss_N s.2.2.2.1 0) = true then
    if sv_ib (x3 + (2 : Int32)) (ss_N s.2.2.2.1 0) = true then
      (F_X_feed (s.1 0 (x3 + (1 : Int32)).toNatClampNeg) (s.1 0 (x3 + (2 : Int32)).toNatClampNeg) s).bind fun r15 =>
      if sv_ib (x3 + (1 : Int32)) (ss_N r15.2.2.2.2.1 0) = true then
        if sv_ib (x3 + (2 : Int32)) (ss_N r15.2.2.2.2.1 0) = true then
          (F_Mo_feed (r15.2.1 0 (x3 + (1 : Int32)).toNatClampNeg) (r15.2.1 0 (x3 + (2 : Int32)).toNatClampNeg) r15.2).bind fun r16 =>
          if r15.1 = r16.1 then
            F_La_law_b1919 kc18 x3 r16.2
          else
          some ((0 : Int32), r16.2)
        else none
      else none
    else none
  else none
theorem V_La_law_b374 (E : sv_E) (d : Nat) (kc18 : Int32 → sv_S → Option (Int32 × sv_S)) (hc18 : ∀ (x3 : Int32) (s : sv_S), sv_V E m_La_law (d + 83) ss_i 18 [(0, sv_r E 0), (1, sv_r E 64), (2, sv_r E 187), (3, .int x3)] [] (ss_e s) (kc18 x3 s)) (x3 : Int32) (s : sv_S) : sv_V E m_La_law (d + 83) ss_i 374 [(0, sv_r E 0), (1, sv_r E 64), (2, sv_r E 187), (3, .int x3)] [] (ss_e s) (F_La_law_b374 kc18 x3 s) := by
  unfold F_La_law_b374
  refine sv_aload_n (pc := 374) 1 (sv_d k_La_law_374 0 rfl) rfl rfl ?_
  refine sv_aload_n (pc := 375) 0 (sv_d k_La_law_374 1 rfl) rfl rfl ?_
  refine sv_iload_n (pc := 376) 3 (sv_d k_La_law_374 2 rfl) rfl rfl ?_
  refine sv_iconst (pc := 377) (v := (1 : Int32)) (sv_d k_La_law_374 3 rfl) (by decide) ?_
  refine sv_iadd (pc := 378) (sv_d k_La_law_374 4 rfl) ?_
  refine ss_iald (pc := 379) (n := (ss_N s.2.2.2.1 0)) (sv_d k_La_law_374 5 rfl) kd0 (ss_lt (by decide)) rfl ?_
  refine sv_aload_n (pc := 380) 0 (sv_d k_La_law_374 6 rfl) rfl rfl ?_
  refine sv_iload_n (pc := 381) 3 (sv_d k_La_law_374 7 rfl) rfl rfl ?_
  refine sv_iconst (pc := 382) (v := (2 : Int32)) (sv_d k_La_law_374 8 rfl) (by decide) ?_
  refine sv_iadd (pc := 383) (sv_d k_La_law_374 9 rfl) ?_
  refine ss_iald (pc := 384) (n := (ss_N s.2.2.2.1 0)) (sv_d k_La_law_374 10 rfl) kd0 (ss_lt (by decide)) rfl ?_
  refine sv_callV (pc := 385) (ψ := ss_i) (As := [.int (s.1 0 (x3 + (1 : Int32)).toNatClampNeg), .int (s.1 0 (x3 + (2 : Int32)).toNatClampNeg)]) (rest := []) (c := 64) (sv_d k_La_law_374 11 rfl) g_X_feed w605 in_X_feed se_X_feed cf11 kd64 (ss_lt (by decide)) rfl (Nat.le_of_ble_eq_true rfl) (V_X_feed E (d + 81) (s.1 0 (x3 + (1 : Int32)).toNatClampNeg) (s.1 0 (x3 + (2 : Int32)).toNatClampNeg) s) (Nat.le_of_ble_eq_true rfl) rfl (fun r15 => ?_)
  show sv_V E _ _ _ 388 _ [.int r15.1] (ss_e r15.2) _
  refine sv_aload_n (pc := 388) 2 (sv_d k_La_law_374 12 rfl) rfl rfl ?_
  refine sv_aload_n (pc := 389) 0 (sv_d k_La_law_374 13 rfl) rfl rfl ?_
  refine sv_iload_n (pc := 390) 3 (sv_d k_La_law_374 14 rfl) rfl rfl ?_
  refine sv_iconst (pc := 391) (v := (1 : Int32)) (sv_d k_La_law_374 15 rfl) (by decide) ?_
  refine sv_iadd (pc := 392) (sv_d k_La_law_374 16 rfl) ?_
  refine ss_iald (pc := 393) (n := (ss_N r15.2.2.2.2.1 0)) (sv_d k_La_law_374 17 rfl) kd0 (ss_lt (by decide)) rfl ?_
  refine sv_aload_n (pc := 394) 0 (sv_d k_La_law_374 18 rfl) rfl rfl ?_
  refine sv_iload_n (pc := 395) 3 (sv_d k_La_law_374 19 rfl) rfl rfl ?_
  refine sv_iconst (pc := 396) (v := (2 : Int32)) (sv_d k_La_law_374 20 rfl) (by decide) ?_
  refine sv_iadd (pc := 397) (sv_d k_La_law_374 21 rfl) ?_
  refine ss_iald (pc := 398) (n := (ss_N r15.2.2.2.2.1 0)) (sv_d k_La_law_374 22 rfl) kd0 (ss_lt (by decide)) rfl ?_
  refine sv_callV (pc := 399) (ψ := ss_i) (As := [.int (r15.2.1 0 (x3 + (1 : Int32)).toNatClampNeg), .int (r15.2.1 0 (x3 + (2 : Int32)).toNatClampNeg)]) (rest := [.int r15.1]) (c := 187) (sv_d k_La_law_374 23 rfl) g_Mo_feed w1586 in_Mo_feed se_Mo_feed cf12 kd187 (ss_lt (by decide)) rfl (Nat.le_of_ble_eq_true rfl) (V_Mo_feed E (d + 81) (r15.2.1 0 (x3 + (1 : Int32)).toNatClampNeg) (r15.2.1 0 (x3 + (2 : Int32)).toNatClampNeg) r15.2) (Nat.le_of_ble_eq_true rfl) rfl (fun r16 => ?_)
  show sv_V E _ _ _ 402 _ [.int r16.1, .int r15.1] (ss_e r16.2) _
  refine sv_icmp_eq (pc := 402) (tgt := 1919) (sv_d k_La_law_374 24 rfl) (by decide) ?_ ?_
  · exact sv_loc [0, 1, 2, 3] rfl (V_La_law_b1919 E d kc18 hc18 x3 r16.2)
  · refine sv_iconst (pc := 405) (v := (0 : Int32)) (sv_d k_La_law_374 25 rfl) (by decide) ?_
    exact sv_ret (pc := 406) (sv_d k_La_law_374 26 rfl) ⟨_, rfl, rfl⟩ rfl
noncomputable def F_La_law_b407 (kc18 : Int32 → sv_S → Option (Int32 × sv_S)) (x3 : Int32) (s : sv_S) : Option (Int32 × sv_S) :=
  if sv_ib (x3 + (1 : Int32)) (ss_N s.2.2.2.1 0) = true then
    if sv_ib (x3 + (2 : Int32)) (ss_N s.2.2.2.1 0) = true then
      (F_X_law (s.1 0 (x3 + (1 : Int32)).toNatClampNeg) (s.1 0 (x3 + (2 : Int32)).toNatClampNeg) s).bind fun r18 =>
      if sv_ib (x3 + (1 : Int32)) (ss_N r18.2.2.2.2.1 0) = true then
        if sv_ib (x3 + (2 : Int32)) (ss_N r18.2.2.2.2.1 0) = true then
          (F_Mo_law (r18.2.1 0 (x3 + (1 : Int32)).toNatClampNeg) (r18.2.1 0 (x3 + (2 : Int32)).toNatClampNeg) r18.2).bind fun r19 =>
          if r18.1 = r19.1 then
            F_La_law_b1919 kc18 x3 r19.2
          else
          some ((0 : Int32), r19.2)
        else none
      else none
    else none
  else none
theorem V_La_law_b407 (E : sv_E) (d : Nat) (kc18 : Int32 → sv_S → Option (Int32 × sv_S)) (hc18 : ∀ (x3 : Int32) (s : sv_S), sv_V E m_La_law (d + 83) ss_i 18 [(0, sv_r E 0), (1, sv_r E 64), (2, sv_r E 187), (3, .int x3)] [] (ss_e s) (kc18 x3 s)) (x3 : Int32) (s : sv_S) : sv_V E m_La_law (d + 83) ss_i 407 [(0, sv_r E 0), (1, sv_r E 64), (2, sv_r E 187), (3, .int x3)] [] (ss_e s) (F_La_law_b407 kc18 x3 s) := by
  unfold F_La_law_b407
  refine sv_aload_n (pc := 407) 1 (sv_d k_La_law_407 0 rfl) rfl rfl ?_
  refine sv_aload_n (pc := 408) 0 (sv_d k_La_law_407 1 rfl) rfl rfl ?_
  refine sv_iload_n (pc := 409) 3 (sv_d k_La_law_407 2 rfl) rfl rfl ?_
  refine sv_iconst (pc := 410) (v := (1 : Int32)) (sv_d k_La_law_407 3 rfl) (by decide) ?_
  refine sv_iadd (pc := 411) (sv_d k_La_law_407 4 rfl) ?_
  refine ss_iald (pc := 412) (n := (ss_N s.2.2.2.1 0)) (sv_d k_La_law_407 5 rfl) kd0 (ss_lt (by decide)) rfl ?_
  refine sv_aload_n (pc := 413) 0 (sv_d k_La_law_407 6 rfl) rfl rfl ?_
  refine sv_iload_n (pc := 414) 3 (sv_d k_La_law_407 7 rfl) rfl rfl ?_
  refine sv_iconst (pc := 415) (v := (2 : Int32)) (sv_d k_La_law_407 8 rfl) (by decide) ?_
  refine sv_iadd (pc := 416) (sv_d k_La_law_407 9 rfl) ?_
  refine ss_iald (pc := 417) (n := (ss_N s.2.2.2.1 0)) (sv_d k_La_law_407 10 rfl) kd0 (ss_lt (by decide)) rfl ?_
  refine sv_callV (pc := 418) (ψ := ss_i) (As := [.int (s.1 0 (x3 + (1 : Int32)).toNatClampNeg), .int (s.1 0 (x3 + (2 : Int32)).toNatClampNeg)]) (rest := []) (c := 64) (sv_d k_La_law_407 11 rfl) g_X_law w617 in_X_law se_X_law cf11 kd64 (ss_lt (by decide)) rfl (Nat.le_of_ble_eq_true rfl) (V_X_law E (d + 47) (s.1 0 (x3 + (1 : Int32)).toNatClampNeg) (s.1 0 (x3 + (2 : Int32)).toNatClampNeg) s) (Nat.le_of_ble_eq_true rfl) rfl (fun r18 => ?_)
  show sv_V E _ _ _ 421 _ [.int r18.1] (ss_e r18.2) _
  refine sv_aload_n (pc := 421) 2 (sv_d k_La_law_407 12 rfl) rfl rfl ?_
  refine sv_aload_n (pc := 422) 0 (sv_d k_La_law_407 13 rfl) rfl rfl ?_
  refine sv_iload_n (pc := 423) 3 (sv_d k_La_law_407 14 rfl) rfl rfl ?_
  refine sv_iconst (pc := 424) (v := (1 : Int32)) (sv_d k_La_law_407 15 rfl) (by decide) ?_
  refine sv_iadd (pc := 425) (sv_d k_La_law_407 16 rfl) ?_
  refine ss_iald (pc := 426) (n := (ss_N r18.2.2.2.2.1 0)) (sv_d k_La_law_407 17 rfl) kd0 (ss_lt (by decide)) rfl ?_
  refine sv_aload_n (pc := 427) 0 (sv_d k_La_law_407 18 rfl) rfl rfl ?_
  refine sv_iload_n (pc := 428) 3 (sv_d k_La_law_407 19 rfl) rfl rfl ?_
  refine sv_iconst (pc := 429) (v := (2 : Int32)) (sv_d k_La_law_407 20 rfl) (by decide) ?_
  refine sv_iadd (pc := 430) (sv_d k_La_law_407 21 rfl) ?_
  refine ss_iald (pc := 431) (n := (ss_N r18.2.2.2.2.1 0)) (sv_d k_La_law_407 22 rfl) kd0 (ss_lt (by decide)) rfl ?_
  refine sv_callV (pc := 432) (ψ := ss_i) (As := [.int (r18.2.1 0 (x3 + (1 : Int32)).toNatClampNeg), .int (r18.2.1 0 (x3 + (2 : Int32)).toNatClampNeg)]) (rest := [.int r18.1]) (c := 187) (sv_d k_La_law_407 23 rfl) g_Mo_law w1590 in_Mo_law se_Mo_law cf12 kd187 (ss_lt (by decide)) rfl (Nat.le_of_ble_eq_true rfl) (V_Mo_law E (d + 75) (r18.2.1 0 (x3 + (1 : Int32)).toNatClampNeg) (r18.2.1 0 (x3 + (2 : Int32)).toNatClampNeg) r18.2) (Nat.le_of_ble_eq_true rfl) rfl (fun r19 => ?_)
  show sv_V E _ _ _ 435 _ [.int r19.1, .int r18.1] (ss_e r19.2) _
  refine sv_icmp_eq (pc := 435) (tgt := 1919) (sv_d k_La_law_407 24 rfl) (by decide) ?_ ?_
  · exact sv_loc [0, 1, 2, 3] rfl (V_La_law_b1919 E d kc18 hc18 x3 r19.2)
  · refine sv_iconst (pc := 438) (v := (0 : Int32)) (sv_d k_La_law_407 25 rfl) (by decide) ?_
    exact sv_ret (pc := 439) (sv_d k_La_law_407 26 rfl) ⟨_, rfl, rfl⟩ rfl
noncomputable def F_La_law_b440 (kc18 : Int32 → sv_S → Option (Int32 × sv_S)) (x3 : Int32) (s : sv_S) : Option (Int32 × sv_S) :=
  if sv_ib (x3 + (1 : Int32)) (ss_N s.2.2.2.1 0) = true then
    if sv_ib (x3 + (2 : Int32)) (ss_N s.2.2.2.1 0) = true then
      if sv_ib (x3 + (3 : Int32)) (ss_N s.2.2.2.1 0) = true then
        (F_X_holds (s.1 0 (x3 + (1 : Int32)).toNatClampNeg) (s.1 0 (x3 + (2 : Int32)).toNatClampNeg) (s.1 0 (x3 + (3 : Int32)).toNatClampNeg) s).bind fun r21 =>
        if sv_ib (x3 + (1 : Int32)) (ss_N r21.2.2.2.2.1 0) = true then
          if sv_ib (x3 + (2 : Int32)) (ss_N r21.2.2.2.2.1 0) = true then
            if sv_ib (x3 + (3 : Int32)) (ss_N r21.2.2.2.2.1 0) = true then
              (F_Mo_holds (r21.2.1 0 (x3 + (1 : Int32)).toNatClampNeg) (r21.2.1 0 (x3 + (2 : Int32)).toNatClampNeg) (r21.2.1 0 (x3 + (3 : Int32)).toNatClampNeg) r21.2).bind fun r22 =>
              if r21.1 = r22.1 then
                F_La_law_b1919 kc18 x3 r22.2
              else
              some ((0 : Int32), r22.2)
            else none
          else none
        else none
      else none
    else none
  else none
theorem V_La_law_b440 (E : sv_E) (d : Nat) (kc18 : Int32 → sv_S → Option (Int32 × sv_S)) (hc18 : ∀ (x3 : Int32) (s : sv_S), sv_V E m_La_law (d + 83) ss_i 18 [(0, sv_r E 0), (1, sv_r E 64), (2, sv_r E 187), (3, .int x3)] [] (ss_e s) (kc18 x3 s)) (x3 : Int32) (s : sv_S) : sv_V E m_La_law (d + 83) ss_i 440 [(0, sv_r E 0), (1, sv_r E 64), (2, sv_r E 187), (3, .int x3)] [] (ss_e s) (F_La_law_b440 kc18 x3 s) := by
  unfold F_La_law_b440
  refine sv_aload_n (pc := 440) 1 (sv_d k_La_law_440 0 rfl) rfl rfl ?_
  refine sv_aload_n (pc := 441) 0 (sv_d k_La_law_440 1 rfl) rfl rfl ?_
  refine sv_iload_n (pc := 442) 3 (sv_d k_La_law_440 2 rfl) rfl rfl ?_
  refine sv_iconst (pc := 443) (v := (1 : Int32)) (sv_d k_La_law_440 3 rfl) (by decide) ?_
  refine sv_iadd (pc := 444) (sv_d k_La_law_440 4 rfl) ?_
  refine ss_iald (pc := 445) (n := (ss_N s.2.2.2.1 0)) (sv_d k_La_law_440 5 rfl) kd0 (ss_lt (by decide)) rfl ?_
  refine sv_aload_n (pc := 446) 0 (sv_d k_La_law_440 6 rfl) rfl rfl ?_
  refine sv_iload_n (pc := 447) 3 (sv_d k_La_law_440 7 rfl) rfl rfl ?_
  refine sv_iconst (pc := 448) (v := (2 : Int32)) (sv_d k_La_law_440 8 rfl) (by decide) ?_
  refine sv_iadd (pc := 449) (sv_d k_La_law_440 9 rfl) ?_
  refine ss_iald (pc := 450) (n := (ss_N s.2.2.2.1 0)) (sv_d k_La_law_440 10 rfl) kd0 (ss_lt (by decide)) rfl ?_
  refine sv_aload_n (pc := 451) 0 (sv_d k_La_law_440 11 rfl) rfl rfl ?_
  refine sv_iload_n (pc := 452) 3 (sv_d k_La_law_440 12 rfl) rfl rfl ?_
  refine sv_iconst (pc := 453) (v := (3 : Int32)) (sv_d k_La_law_440 13 rfl) (by decide) ?_
  refine sv_iadd (pc := 454) (sv_d k_La_law_440 14 rfl) ?_
  refine ss_iald (pc := 455) (n := (ss_N s.2.2.2.1 0)) (sv_d k_La_law_440 15 rfl) kd0 (ss_lt (by decide)) rfl ?_
  refine sv_callV (pc := 456) (ψ := ss_i) (As := [.int (s.1 0 (x3 + (1 : Int32)).toNatClampNeg), .int (s.1 0 (x3 + (2 : Int32)).toNatClampNeg), .int (s.1 0 (x3 + (3 : Int32)).toNatClampNeg)]) (rest := []) (c := 64) (sv_d k_La_law_440 16 rfl) g_X_holds w788 in_X_holds se_X_holds cf11 kd64 (ss_lt (by decide)) rfl (Nat.le_of_ble_eq_true rfl) (V_X_holds E (d + 80) (s.1 0 (x3 + (1 : Int32)).toNatClampNeg) (s.1 0 (x3 + (2 : Int32)).toNatClampNeg) (s.1 0 (x3 + (3 : Int32)).toNatClampNeg) s) (Nat.le_of_ble_eq_true rfl) rfl (fun r21 => ?_)
  show sv_V E _ _ _ 459 _ [.int r21.1] (ss_e r21.2) _
  refine sv_aload_n (pc := 459) 2 (sv_d k_La_law_440 17 rfl) rfl rfl ?_
  refine sv_aload_n (pc := 460) 0 (sv_d k_La_law_440 18 rfl) rfl rfl ?_
  refine sv_iload_n (pc := 461) 3 (sv_d k_La_law_440 19 rfl) rfl rfl ?_
  refine sv_iconst (pc := 462) (v := (1 : Int32)) (sv_d k_La_law_440 20 rfl) (by decide) ?_
  refine sv_iadd (pc := 463) (sv_d k_La_law_440 21 rfl) ?_
  refine ss_iald (pc := 464) (n := (ss_N r21.2.2.2.2.1 0)) (sv_d k_La_law_440 22 rfl) kd0 (ss_lt (by decide)) rfl ?_
  refine sv_aload_n (pc := 465) 0 (sv_d k_La_law_440 23 rfl) rfl rfl ?_
  refine sv_iload_n (pc := 466) 3 (sv_d k_La_law_440 24 rfl) rfl rfl ?_
  refine sv_iconst (pc := 467) (v := (2 : Int32)) (sv_d k_La_law_440 25 rfl) (by decide) ?_
  refine sv_iadd (pc := 468) (sv_d k_La_law_440 26 rfl) ?_
  refine ss_iald (pc := 469) (n := (ss_N r21.2.2.2.2.1 0)) (sv_d k_La_law_440 27 rfl) kd0 (ss_lt (by decide)) rfl ?_
  refine sv_aload_n (pc := 470) 0 (sv_d k_La_law_440 28 rfl) rfl rfl ?_
  refine sv_iload_n (pc := 471) 3 (sv_d k_La_law_440 29 rfl) rfl rfl ?_
  refine sv_iconst (pc := 472) (v := (3 : Int32)) (sv_d k_La_law_440 30 rfl) (by decide) ?_
  refine sv_iadd (pc := 473) (sv_d k_La_law_440 31 rfl) ?_
  refine ss_iald (pc := 474) (n := (ss_N r21.2.2.2.2.1 0)) (sv_d k_La_law_440 32 rfl) kd0 (ss_lt (by decide)) rfl ?_
  refine sv_callV (pc := 475) (ψ := ss_i) (As := [.int (r21.2.1 0 (x3 + (1 : Int32)).toNatClampNeg), .int (r21.2.1 0 (x3 + (2 : Int32)).toNatClampNeg), .int (r21.2.1 0 (x3 + (3 : Int32)).toNatClampNeg)]) (rest := [.int r21.1]) (c := 187) (sv_d k_La_law_440 33 rfl) g_Mo_holds w1666 in_Mo_holds se_Mo_holds cf12 kd187 (ss_lt (by decide)) rfl (Nat.le_of_ble_eq_true rfl) (V_Mo_holds E (d + 74) (r21.2.1 0 (x3 + (1 : Int32)).toNatClampNeg) (r21.2.1 0 (x3 + (2 : Int32)).toNatClampNeg) (r21.2.1 0 (x3 + (3 : Int32)).toNatClampNeg) r21.2) (Nat.le_of_ble_eq_true rfl) rfl (fun r22 => ?_)
  show sv_V E _ _ _ 478 _ [.int r22.1, .int r21.1] (ss_e r22.2) _
  refine sv_icmp_eq (pc := 478) (tgt := 1919) (sv_d k_La_law_440 34 rfl) (by decide) ?_ ?_
  · exact sv_loc [0, 1, 2, 3] rfl (V_La_law_b1919 E d kc18 hc18 x3 r22.2)
  · refine sv_iconst (pc := 481) (v := (0 : Int32)) (sv_d k_La_law_440 35 rfl) (by decide) ?_
    exact sv_ret (pc := 482) (sv_d k_La_law_440 36 rfl) ⟨_, rfl, rfl⟩ rfl
noncomputable def F_La_law_b483 (kc18 : Int32 → sv_S → Option (Int32 × sv_S)) (x3 : Int32) (s : sv_S) : Option (Int32 × sv_S) :=
  if sv_ib (x3 + (1 : Int32)) (ss_N s.2.2.2.1 0) = true then
    if sv_ib (x3 + (2 : Int32)) (ss_N s.2.2.2.1 0) = true then
      if sv_ib (x3 + (3 : Int32)) (ss_N s.2.2.2.1 0) = true then
        if sv_ib (x3 + (4 : Int32)) (ss_N s.2.2.2.1 0) = true then
          if sv_ib (x3 + (5 : Int32)) (ss_N s.2.2.2.1 0) = true then
            if sv_ib (x3 + (6 : Int32)) (ss_N s.2.2.2.1 0) = true then
              if sv_ib (x3 + (7 : Int32)) (ss_N s.2.2.2.1 0) = true then
                (F_X_rate (s.1 0 (x3 + (1 : Int32)).toNatClampNeg) (s.1 0 (x3 + (2 : Int32)).toNatClampNeg) (s.1 0 (x3 + (3 : Int32)).toNatClampNeg) (s.1 0 (x3 + (4 : Int32)).toNatClampNeg) (s.1 0 (x3 + (5 : Int32)).toNatClampNeg) (s.1 0 (x3 + (6 : Int32)).toNatClampNeg) (s.1 0 (x3 + (7 : Int32)).toNatClampNeg) s).bind fun r24 =>
                if sv_ib (x3 + (1 : Int32)) (ss_N r24.2.2.2.2.1 0) = true then
                  if sv_ib (x3 + (2 : Int32)) (ss_N r24.2.2.2.2.1 0) = true then
                    if sv_ib (x3 + (3 : Int32)) (ss_N r24.2.2.2.2.1 0) = true then
                      if sv_ib (x3 + (4 : Int32)) (ss_N r24.2.2.2.2.1 0) = true then
                        if sv_ib (x3 + (5 : Int32)) (ss_N r24.2.2.2.2.1 0) = true then
                          if sv_ib (x3 + (6 : Int32)) (ss_N r24.2.2.2.2.1 0) = true then
                            if sv_ib (x3 + (7 : Int32)) (ss_N r24.2.2.2.2.1 0) = true then
                              (F_Mo_rate (r24.2.1 0 (x3 + (1 : Int32)).toNatClampNeg) (r24.2.1 0 (x3 + (2 : Int32)).toNatClampNeg) (r24.2.1 0 (x3 + (3 : Int32)).toNatClampNeg) (r24.2.1 0 (x3 + (4 : Int32)).toNatClampNeg) (r24.2.1 0 (x3 + (5 : Int32)).toNatClampNeg) (r24.2.1 0 (x3 + (6 : Int32)).toNatClampNeg) (r24.2.1 0 (x3 + (7 : Int32)).toNatClampNeg) r24.2).bind fun r25 =>
                              if r24.1 = r25.1 then
                                F_La_law_b1919 kc18 x3 r25.2
                              else
                              some ((0 : Int32), r25.2)
                            else none
                          else none
                        else none
                      else none
                    else none
                  else none
                else none
              else none
            else none
          else none
        else none
      else none
    else none
  else none
theorem V_La_law_b483 (E : sv_E) (d : Nat) (kc18 : Int32 → sv_S → Option (Int32 × sv_S)) (hc18 : ∀ (x3 : Int32) (s : sv_S), sv_V E m_La_law (d + 83) ss_i 18 [(0, sv_r E 0), (1, sv_r E 64), (2, sv_r E 187), (3, .int x3)] [] (ss_e s) (kc18 x3 s)) (x3 : Int32) (s : sv_S) : sv_V E m_La_law (d + 83) ss_i 483 [(0, sv_r E 0), (1, sv_r E 64), (2, sv_r E 187), (3, .int x3)] [] (ss_e s) (F_La_law_b483 kc18 x3 s) := by
  unfold F_La_law_b483
  refine sv_aload_n (pc := 483) 1 (sv_d k_La_law_483 0 rfl) rfl rfl ?_
  refine sv_aload_n (pc := 484) 0 (sv_d k_La_law_483 1 rfl) rfl rfl ?_
  refine sv_iload_n (pc := 485) 3 (sv_d k_La_law_483 2 rfl) rfl rfl ?_
  refine sv_iconst (pc := 486) (v := (1 : Int32)) (sv_d k_La_law_483 3 rfl) (by decide) ?_
  refine sv_iadd (pc := 487) (sv_d k_La_law_483 4 rfl) ?_
  refine ss_iald (pc := 488) (n := (ss_N s.2.2.2.1 0)) (sv_d k_La_law_483 5 rfl) kd0 (ss_lt (by decide)) rfl ?_
  refine sv_aload_n (pc := 489) 0 (sv_d k_La_law_483 6 rfl) rfl rfl ?_
  refine sv_iload_n (pc := 490) 3 (sv_d k_La_law_483 7 rfl) rfl rfl ?_
  refine sv_iconst (pc := 491) (v := (2 : Int32)) (sv_d k_La_law_483 8 rfl) (by decide) ?_
  refine sv_iadd (pc := 492) (sv_d k_La_law_483 9 rfl) ?_
  refine ss_iald (pc := 493) (n := (ss_N s.2.2.2.1 0)) (sv_d k_La_law_483 10 rfl) kd0 (ss_lt (by decide)) rfl ?_
  refine sv_aload_n (pc := 494) 0 (sv_d k_La_law_483 11 rfl) rfl rfl ?_
  refine sv_iload_n (pc := 495) 3 (sv_d k_La_law_483 12 rfl) rfl rfl ?_
  refine sv_iconst (pc := 496) (v := (3 : Int32)) (sv_d k_La_law_483 13 rfl) (by decide) ?_
  refine sv_iadd (pc := 497) (sv_d k_La_law_483 14 rfl) ?_
  refine ss_iald (pc := 498) (n := (ss_N s.2.2.2.1 0)) (sv_d k_La_law_483 15 rfl) kd0 (ss_lt (by decide)) rfl ?_
  refine sv_aload_n (pc := 499) 0 (sv_d k_La_law_483 16 rfl) rfl rfl ?_
  refine sv_iload_n (pc := 500) 3 (sv_d k_La_law_483 17 rfl) rfl rfl ?_
  refine sv_iconst (pc := 501) (v := (4 : Int32)) (sv_d k_La_law_483 18 rfl) (by decide) ?_
  refine sv_iadd (pc := 502) (sv_d k_La_law_483 19 rfl) ?_
  refine ss_iald (pc := 503) (n := (ss_N s.2.2.2.1 0)) (sv_d k_La_law_483 20 rfl) kd0 (ss_lt (by decide)) rfl ?_
  refine sv_aload_n (pc := 504) 0 (sv_d k_La_law_483 21 rfl) rfl rfl ?_
  refine sv_iload_n (pc := 505) 3 (sv_d k_La_law_483 22 rfl) rfl rfl ?_
  refine sv_iconst (pc := 506) (v := (5 : Int32)) (sv_d k_La_law_483 23 rfl) (by decide) ?_
  refine sv_iadd (pc := 507) (sv_d k_La_law_483 24 rfl) ?_
  refine ss_iald (pc := 508) (n := (ss_N s.2.2.2.1 0)) (sv_d k_La_law_483 25 rfl) kd0 (ss_lt (by decide)) rfl ?_
  refine sv_aload_n (pc := 509) 0 (sv_d k_La_law_483 26 rfl) rfl rfl ?_
  refine sv_iload_n (pc := 510) 3 (sv_d k_La_law_483 27 rfl) rfl rfl ?_
  refine sv_bipush (pc := 511) (v := (6 : Int32)) (sv_d k_La_law_483 28 rfl) (by decide) ?_
  refine sv_iadd (pc := 513) (sv_d k_La_law_483 29 rfl) ?_
  refine ss_iald (pc := 514) (n := (ss_N s.2.2.2.1 0)) (sv_d k_La_law_483 30 rfl) kd0 (ss_lt (by decide)) rfl ?_
  refine sv_aload_n (pc := 515) 0 (sv_d k_La_law_483 31 rfl) rfl rfl ?_
  refine sv_iload_n (pc := 516) 3 (sv_d k_La_law_483 32 rfl) rfl rfl ?_
  refine sv_bipush (pc := 517) (v := (7 : Int32)) (sv_d k_La_law_483 33 rfl) (by decide) ?_
  refine sv_iadd (pc := 519) (sv_d k_La_law_483 34 rfl) ?_
  refine ss_iald (pc := 520) (n := (ss_N s.2.2.2.1 0)) (sv_d k_La_law_483 35 rfl) kd0 (ss_lt (by decide)) rfl ?_
  refine sv_callV (pc := 521) (ψ := ss_i) (As := [.int (s.1 0 (x3 + (1 : Int32)).toNatClampNeg), .int (s.1 0 (x3 + (2 : Int32)).toNatClampNeg), .int (s.1 0 (x3 + (3 : Int32)).toNatClampNeg), .int (s.1 0 (x3 + (4 : Int32)).toNatClampNeg), .int (s.1 0 (x3 + (5 : Int32)).toNatClampNeg), .int (s.1 0 (x3 + (6 : Int32)).toNatClampNeg), .int (s.1 0 (x3 + (7 : Int32)).toNatClampNeg)]) (rest := []) (c := 64) (sv_d k_La_law_483 36 rfl) g_X_rate w804 in_X_rate se_X_rate cf11 kd64 (ss_lt (by decide)) rfl (Nat.le_of_ble_eq_true rfl) (V_X_rate E (d + 79) (s.1 0 (x3 + (1 : Int32)).toNatClampNeg) (s.1 0 (x3 + (2 : Int32)).toNatClampNeg) (s.1 0 (x3 + (3 : Int32)).toNatClampNeg) (s.1 0 (x3 + (4 : Int32)).toNatClampNeg) (s.1 0 (x3 + (5 : Int32)).toNatClampNeg) (s.1 0 (x3 + (6 : Int32)).toNatClampNeg) (s.1 0 (x3 + (7 : Int32)).toNatClampNeg) s) (Nat.le_of_ble_eq_true rfl) rfl (fun r24 => ?_)
  show sv_V E _ _ _ 524 _ [.int r24.1] (ss_e r24.2) _
  refine sv_aload_n (pc := 524) 2 (sv_d k_La_law_483 37 rfl) rfl rfl ?_
  refine sv_aload_n (pc := 525) 0 (sv_d k_La_law_483 38 rfl) rfl rfl ?_
  refine sv_iload_n (pc := 526) 3 (sv_d k_La_law_483 39 rfl) rfl rfl ?_
  refine sv_iconst (pc := 527) (v := (1 : Int32)) (sv_d k_La_law_483 40 rfl) (by decide) ?_
  refine sv_iadd (pc := 528) (sv_d k_La_law_483 41 rfl) ?_
  refine ss_iald (pc := 529) (n := (ss_N r24.2.2.2.2.1 0)) (sv_d k_La_law_483 42 rfl) kd0 (ss_lt (by decide)) rfl ?_
  refine sv_aload_n (pc := 530) 0 (sv_d k_La_law_483 43 rfl) rfl rfl ?_
  refine sv_iload_n (pc := 531) 3 (sv_d k_La_law_483 44 rfl) rfl rfl ?_
  refine sv_iconst (pc := 532) (v := (2 : Int32)) (sv_d k_La_law_483 45 rfl) (by decide) ?_
  refine sv_iadd (pc := 533) (sv_d k_La_law_483 46 rfl) ?_
  refine ss_iald (pc := 534) (n := (ss_N r24.2.2.2.2.1 0)) (sv_d k_La_law_483 47 rfl) kd0 (ss_lt (by decide)) rfl ?_
  refine sv_aload_n (pc := 535) 0 (sv_d k_La_law_483 48 rfl) rfl rfl ?_
  refine sv_iload_n (pc := 536) 3 (sv_d k_La_law_483 49 rfl) rfl rfl ?_
  refine sv_iconst (pc := 537) (v := (3 : Int32)) (sv_d k_La_law_483 50 rfl) (by decide) ?_
  refine sv_iadd (pc := 538) (sv_d k_La_law_483 51 rfl) ?_
  refine ss_iald (pc := 539) (n := (ss_N r24.2.2.2.2.1 0)) (sv_d k_La_law_483 52 rfl) kd0 (ss_lt (by decide)) rfl ?_
  refine sv_aload_n (pc := 540) 0 (sv_d k_La_law_483 53 rfl) rfl rfl ?_
  refine sv_iload_n (pc := 541) 3 (sv_d k_La_law_483 54 rfl) rfl rfl ?_
  refine sv_iconst (pc := 542) (v := (4 : Int32)) (sv_d k_La_law_483 55 rfl) (by decide) ?_
  refine sv_iadd (pc := 543) (sv_d k_La_law_483 56 rfl) ?_
  refine ss_iald (pc := 544) (n := (ss_N r24.2.2.2.2.1 0)) (sv_d k_La_law_483 57 rfl) kd0 (ss_lt (by decide)) rfl ?_
  refine sv_aload_n (pc := 545) 0 (sv_d k_La_law_483 58 rfl) rfl rfl ?_
  refine sv_iload_n (pc := 546) 3 (sv_d k_La_law_483 59 rfl) rfl rfl ?_
  refine sv_iconst (pc := 547) (v := (5 : Int32)) (sv_d k_La_law_483 60 rfl) (by decide) ?_
  refine sv_iadd (pc := 548) (sv_d k_La_law_483 61 rfl) ?_
  refine ss_iald (pc := 549) (n := (ss_N r24.2.2.2.2.1 0)) (sv_d k_La_law_483 62 rfl) kd0 (ss_lt (by decide)) rfl ?_
  refine sv_aload_n (pc := 550) 0 (sv_d k_La_law_483 63 rfl) rfl rfl ?_
  refine sv_iload_n (pc := 551) 3 (sv_d k_La_law_483 64 rfl) rfl rfl ?_
  refine sv_bipush (pc := 552) (v := (6 : Int32)) (sv_d k_La_law_483 65 rfl) (by decide) ?_
  refine sv_iadd (pc := 554) (sv_d k_La_law_483 66 rfl) ?_
  refine ss_iald (pc := 555) (n := (ss_N r24.2.2.2.2.1 0)) (sv_d k_La_law_483 67 rfl) kd0 (ss_lt (by decide)) rfl ?_
  refine sv_aload_n (pc := 556) 0 (sv_d k_La_law_483 68 rfl) rfl rfl ?_
  refine sv_iload_n (pc := 557) 3 (sv_d k_La_law_483 69 rfl) rfl rfl ?_
  refine sv_bipush (pc := 558) (v := (7 : Int32)) (sv_d k_La_law_483 70 rfl) (by decide) ?_
  refine sv_iadd (pc := 560) (sv_d k_La_law_483 71 rfl) ?_
  refine ss_iald (pc := 561) (n := (ss_N r24.2.2.2.2.1 0)) (sv_d k_La_law_483 72 rfl) kd0 (ss_lt (by decide)) rfl ?_
  refine sv_callV (pc := 562) (ψ := ss_i) (As := [.int (r24.2.1 0 (x3 + (1 : Int32)).toNatClampNeg), .int (r24.2.1 0 (x3 + (2 : Int32)).toNatClampNeg), .int (r24.2.1 0 (x3 + (3 : Int32)).toNatClampNeg), .int (r24.2.1 0 (x3 + (4 : Int32)).toNatClampNeg), .int (r24.2.1 0 (x3 + (5 : Int32)).toNatClampNeg), .int (r24.2.1 0 (x3 + (6 : Int32)).toNatClampNeg), .int (r24.2.1 0 (x3 + (7 : Int32)).toNatClampNeg)]) (rest := [.int r24.1]) (c := 187) (sv_d k_La_law_483 73 rfl) g_Mo_rate w1682 in_Mo_rate se_Mo_rate cf12 kd187 (ss_lt (by decide)) rfl (Nat.le_of_ble_eq_true rfl) (V_Mo_rate E (d + 73) (r24.2.1 0 (x3 + (1 : Int32)).toNatClampNeg) (r24.2.1 0 (x3 + (2 : Int32)).toNatClampNeg) (r24.2.1 0 (x3 + (3 : Int32)).toNatClampNeg) (r24.2.1 0 (x3 + (4 : Int32)).toNatClampNeg) (r24.2.1 0 (x3 + (5 : Int32)).toNatClampNeg) (r24.2.1 0 (x3 + (6 : Int32)).toNatClampNeg) (r24.2.1 0 (x3 + (7 : Int32)).toNatClampNeg) r24.2) (Nat.le_of_ble_eq_true rfl) rfl (fun r25 => ?_)
  show sv_V E _ _ _ 565 _ [.int r25.1, .int r24.1] (ss_e r25.2) _
  refine sv_icmp_eq (pc := 565) (tgt := 1919) (sv_d k_La_law_483 74 rfl) (by decide) ?_ ?_
  · exact sv_loc [0, 1, 2, 3] rfl (V_La_law_b1919 E d kc18 hc18 x3 r25.2)
  · refine sv_iconst (pc := 568) (v := (0 : Int32)) (sv_d k_La_law_483 75 rfl) (by decide) ?_
    exact sv_ret (pc := 569) (sv_d k_La_law_483 76 rfl) ⟨_, rfl, rfl⟩ rfl
noncomputable def F_La_law_b570 (kc18 : Int32 → sv_S → Option (Int32 × sv_S)) (x3 : Int32) (s : sv_S) : Option (Int32 × sv_S) :=
  if sv_ib (x3 + (1 : Int32)) (ss_N s.2.2.2.1 0) = true then
    if sv_ib (x3 + (2 : Int32)) (ss_N s.2.2.2.1 0) = true then
      if sv_ib (x3 + (3 : Int32)) (ss_N s.2.2.2.1 0) = true then
        if sv_ib (x3 + (4 : Int32)) (ss_N s.2.2.2.1 0) = true then
          if sv_ib (x3 + (5 : Int32)) (ss_N s.2.2.2.1 0) = true then
            if sv_ib (x3 + (6 : Int32)) (ss_N s.2.2.2.1 0) = true then
              (F_X_special (s.1 0 (x3 + (1 : Int32)).toNatClampNeg) (s.1 0 (x3 + (2 : Int32)).toNatClampNeg) (s.1 0 (x3 + (3 : Int32)).toNatClampNeg) (s.1 0 (x3 + (4 : Int32)).toNatClampNeg) (s.1 0 (x3 + (5 : Int32)).toNatClampNeg) (s.1 0 (x3 + (6 : Int32)).toNatClampNeg) s).bind fun r27 =>
              if sv_ib (x3 + (1 : Int32)) (ss_N r27.2.2.2.2.1 0) = true then
                if sv_ib (x3 + (2 : Int32)) (ss_N r27.2.2.2.2.1 0) = true then
                  if sv_ib (x3 + (3 : Int32)) (ss_N r27.2.2.2.2.1 0) = true then
                    if sv_ib (x3 + (4 : Int32)) (ss_N r27.2.2.2.2.1 0) = true then
                      if sv_ib (x3 + (5 : Int32)) (ss_N r27.2.2.2.2.1 0) = true then
                        if sv_ib (x3 + (6 : Int32)) (ss_N r27.2.2.2.2.1 0) = true then
                          (F_Mo_special (r27.2.1 0 (x3 + (1 : Int32)).toNatClampNeg) (r27.2.1 0 (x3 + (2 : Int32)).toNatClampNeg) (r27.2.1 0 (x3 + (3 : Int32)).toNatClampNeg) (r27.2.1 0 (x3 + (4 : Int32)).toNatClampNeg) (r27.2.1 0 (x3 + (5 : Int32)).toNatClampNeg) (r27.2.1 0 (x3 + (6 : Int32)).toNatClampNeg) r27.2).bind fun r28 =>
                          if r27.1 = r28.1 then
                            F_La_law_b1919 kc18 x3 r28.2
                          else
                          some ((0 : Int32), r28.2)
                        else none
                      else none
                    else none
                  else none
                else none
              else none
            else none
          else none
        else none
      else none
    else none
  else none
theorem V_La_law_b570 (E : sv_E) (d : Nat) (kc18 : Int32 → sv_S → Option (Int32 × sv_S)) (hc18 : ∀ (x3 : Int32) (s : sv_S), sv_V E m_La_law (d + 83) ss_i 18 [(0, sv_r E 0), (1, sv_r E 64), (2, sv_r E 187), (3, .int x3)] [] (ss_e s) (kc18 x3 s)) (x3 : Int32) (s : sv_S) : sv_V E m_La_law (d + 83) ss_i 570 [(0, sv_r E 0), (1, sv_r E 64), (2, sv_r E 187), (3, .int x3)] [] (ss_e s) (F_La_law_b570 kc18 x3 s) := by
  unfold F_La_law_b570
  refine sv_aload_n (pc := 570) 1 (sv_d k_La_law_570 0 rfl) rfl rfl ?_
  refine sv_aload_n (pc := 571) 0 (sv_d k_La_law_570 1 rfl) rfl rfl ?_
  refine sv_iload_n (pc := 572) 3 (sv_d k_La_law_570 2 rfl) rfl rfl ?_
  refine sv_iconst (pc := 573) (v := (1 : Int32)) (sv_d k_La_law_570 3 rfl) (by decide) ?_
  refine sv_iadd (pc := 574) (sv_d k_La_law_570 4 rfl) ?_
  refine ss_iald (pc := 575) (n := (ss_N s.2.2.2.1 0)) (sv_d k_La_law_570 5 rfl) kd0 (ss_lt (by decide)) rfl ?_
  refine sv_aload_n (pc := 576) 0 (sv_d k_La_law_570 6 rfl) rfl rfl ?_
  refine sv_iload_n (pc := 577) 3 (sv_d k_La_law_570 7 rfl) rfl rfl ?_
  refine sv_iconst (pc := 578) (v := (2 : Int32)) (sv_d k_La_law_570 8 rfl) (by decide) ?_
  refine sv_iadd (pc := 579) (sv_d k_La_law_570 9 rfl) ?_
  refine ss_iald (pc := 580) (n := (ss_N s.2.2.2.1 0)) (sv_d k_La_law_570 10 rfl) kd0 (ss_lt (by decide)) rfl ?_
  refine sv_aload_n (pc := 581) 0 (sv_d k_La_law_570 11 rfl) rfl rfl ?_
  refine sv_iload_n (pc := 582) 3 (sv_d k_La_law_570 12 rfl) rfl rfl ?_
  refine sv_iconst (pc := 583) (v := (3 : Int32)) (sv_d k_La_law_570 13 rfl) (by decide) ?_
  refine sv_iadd (pc := 584) (sv_d k_La_law_570 14 rfl) ?_
  refine ss_iald (pc := 585) (n := (ss_N s.2.2.2.1 0)) (sv_d k_La_law_570 15 rfl) kd0 (ss_lt (by decide)) rfl ?_
  refine sv_aload_n (pc := 586) 0 (sv_d k_La_law_570 16 rfl) rfl rfl ?_
  refine sv_iload_n (pc := 587) 3 (sv_d k_La_law_570 17 rfl) rfl rfl ?_
  refine sv_iconst (pc := 588) (v := (4 : Int32)) (sv_d k_La_law_570 18 rfl) (by decide) ?_
  refine sv_iadd (pc := 589) (sv_d k_La_law_570 19 rfl) ?_
  refine ss_iald (pc := 590) (n := (ss_N s.2.2.2.1 0)) (sv_d k_La_law_570 20 rfl) kd0 (ss_lt (by decide)) rfl ?_
  refine sv_aload_n (pc := 591) 0 (sv_d k_La_law_570 21 rfl) rfl rfl ?_
  refine sv_iload_n (pc := 592) 3 (sv_d k_La_law_570 22 rfl) rfl rfl ?_
  refine sv_iconst (pc := 593) (v := (5 : Int32)) (sv_d k_La_law_570 23 rfl) (by decide) ?_
  refine sv_iadd (pc := 594) (sv_d k_La_law_570 24 rfl) ?_
  refine ss_iald (pc := 595) (n := (ss_N s.2.2.2.1 0)) (sv_d k_La_law_570 25 rfl) kd0 (ss_lt (by decide)) rfl ?_
  refine sv_aload_n (pc := 596) 0 (sv_d k_La_law_570 26 rfl) rfl rfl ?_
  refine sv_iload_n (pc := 597) 3 (sv_d k_La_law_570 27 rfl) rfl rfl ?_
  refine sv_bipush (pc := 598) (v := (6 : Int32)) (sv_d k_La_law_570 28 rfl) (by decide) ?_
  refine sv_iadd (pc := 600) (sv_d k_La_law_570 29 rfl) ?_
  refine ss_iald (pc := 601) (n := (ss_N s.2.2.2.1 0)) (sv_d k_La_law_570 30 rfl) kd0 (ss_lt (by decide)) rfl ?_
  refine sv_callV (pc := 602) (ψ := ss_i) (As := [.int (s.1 0 (x3 + (1 : Int32)).toNatClampNeg), .int (s.1 0 (x3 + (2 : Int32)).toNatClampNeg), .int (s.1 0 (x3 + (3 : Int32)).toNatClampNeg), .int (s.1 0 (x3 + (4 : Int32)).toNatClampNeg), .int (s.1 0 (x3 + (5 : Int32)).toNatClampNeg), .int (s.1 0 (x3 + (6 : Int32)).toNatClampNeg)]) (rest := []) (c := 64) (sv_d k_La_law_570 31 rfl) g_X_special w824 in_X_special se_X_special cf11 kd64 (ss_lt (by decide)) rfl (Nat.le_of_ble_eq_true rfl) (V_X_special E (d + 79) (s.1 0 (x3 + (1 : Int32)).toNatClampNeg) (s.1 0 (x3 + (2 : Int32)).toNatClampNeg) (s.1 0 (x3 + (3 : Int32)).toNatClampNeg) (s.1 0 (x3 + (4 : Int32)).toNatClampNeg) (s.1 0 (x3 + (5 : Int32)).toNatClampNeg) (s.1 0 (x3 + (6 : Int32)).toNatClampNeg) s) (Nat.le_of_ble_eq_true rfl) rfl (fun r27 => ?_)
  show sv_V E _ _ _ 605 _ [.int r27.1] (ss_e r27.2) _
  refine sv_aload_n (pc := 605) 2 (sv_d k_La_law_570 32 rfl) rfl rfl ?_
  refine sv_aload_n (pc := 606) 0 (sv_d k_La_law_570 33 rfl) rfl rfl ?_
  refine sv_iload_n (pc := 607) 3 (sv_d k_La_law_570 34 rfl) rfl rfl ?_
  refine sv_iconst (pc := 608) (v := (1 : Int32)) (sv_d k_La_law_570 35 rfl) (by decide) ?_
  refine sv_iadd (pc := 609) (sv_d k_La_law_570 36 rfl) ?_
  refine ss_iald (pc := 610) (n := (ss_N r27.2.2.2.2.1 0)) (sv_d k_La_law_570 37 rfl) kd0 (ss_lt (by decide)) rfl ?_
  refine sv_aload_n (pc := 611) 0 (sv_d k_La_law_570 38 rfl) rfl rfl ?_
  refine sv_iload_n (pc := 612) 3 (sv_d k_La_law_570 39 rfl) rfl rfl ?_
  refine sv_iconst (pc := 613) (v := (2 : Int32)) (sv_d k_La_law_570 40 rfl) (by decide) ?_
  refine sv_iadd (pc := 614) (sv_d k_La_law_570 41 rfl) ?_
  refine ss_iald (pc := 615) (n := (ss_N r27.2.2.2.2.1 0)) (sv_d k_La_law_570 42 rfl) kd0 (ss_lt (by decide)) rfl ?_
  refine sv_aload_n (pc := 616) 0 (sv_d k_La_law_570 43 rfl) rfl rfl ?_
  refine sv_iload_n (pc := 617) 3 (sv_d k_La_law_570 44 rfl) rfl rfl ?_
  refine sv_iconst (pc := 618) (v := (3 : Int32)) (sv_d k_La_law_570 45 rfl) (by decide) ?_
  refine sv_iadd (pc := 619) (sv_d k_La_law_570 46 rfl) ?_
  refine ss_iald (pc := 620) (n := (ss_N r27.2.2.2.2.1 0)) (sv_d k_La_law_570 47 rfl) kd0 (ss_lt (by decide)) rfl ?_
  refine sv_aload_n (pc := 621) 0 (sv_d k_La_law_570 48 rfl) rfl rfl ?_
  refine sv_iload_n (pc := 622) 3 (sv_d k_La_law_570 49 rfl) rfl rfl ?_
  refine sv_iconst (pc := 623) (v := (4 : Int32)) (sv_d k_La_law_570 50 rfl) (by decide) ?_
  refine sv_iadd (pc := 624) (sv_d k_La_law_570 51 rfl) ?_
  refine ss_iald (pc := 625) (n := (ss_N r27.2.2.2.2.1 0)) (sv_d k_La_law_570 52 rfl) kd0 (ss_lt (by decide)) rfl ?_
  refine sv_aload_n (pc := 626) 0 (sv_d k_La_law_570 53 rfl) rfl rfl ?_
  refine sv_iload_n (pc := 627) 3 (sv_d k_La_law_570 54 rfl) rfl rfl ?_
  refine sv_iconst (pc := 628) (v := (5 : Int32)) (sv_d k_La_law_570 55 rfl) (by decide) ?_
  refine sv_iadd (pc := 629) (sv_d k_La_law_570 56 rfl) ?_
  refine ss_iald (pc := 630) (n := (ss_N r27.2.2.2.2.1 0)) (sv_d k_La_law_570 57 rfl) kd0 (ss_lt (by decide)) rfl ?_
  refine sv_aload_n (pc := 631) 0 (sv_d k_La_law_570 58 rfl) rfl rfl ?_
  refine sv_iload_n (pc := 632) 3 (sv_d k_La_law_570 59 rfl) rfl rfl ?_
  refine sv_bipush (pc := 633) (v := (6 : Int32)) (sv_d k_La_law_570 60 rfl) (by decide) ?_
  refine sv_iadd (pc := 635) (sv_d k_La_law_570 61 rfl) ?_
  refine ss_iald (pc := 636) (n := (ss_N r27.2.2.2.2.1 0)) (sv_d k_La_law_570 62 rfl) kd0 (ss_lt (by decide)) rfl ?_
  refine sv_callV (pc := 637) (ψ := ss_i) (As := [.int (r27.2.1 0 (x3 + (1 : Int32)).toNatClampNeg), .int (r27.2.1 0 (x3 + (2 : Int32)).toNatClampNeg), .int (r27.2.1 0 (x3 + (3 : Int32)).toNatClampNeg), .int (r27.2.1 0 (x3 + (4 : Int32)).toNatClampNeg), .int (r27.2.1 0 (x3 + (5 : Int32)).toNatClampNeg), .int (r27.2.1 0 (x3 + (6 : Int32)).toNatClampNeg)]) (rest := [.int r27.1]) (c := 187) (sv_d k_La_law_570 63 rfl) g_Mo_special w1694 in_Mo_special se_Mo_special cf12 kd187 (ss_lt (by decide)) rfl (Nat.le_of_ble_eq_true rfl) (V_Mo_special E (d + 73) (r27.2.1 0 (x3 + (1 : Int32)).toNatClampNeg) (r27.2.1 0 (x3 + (2 : Int32)).toNatClampNeg) (r27.2.1 0 (x3 + (3 : Int32)).toNatClampNeg) (r27.2.1 0 (x3 + (4 : Int32)).toNatClampNeg) (r27.2.1 0 (x3 + (5 : Int32)).toNatClampNeg) (r27.2.1 0 (x3 + (6 : Int32)).toNatClampNeg) r27.2) (Nat.le_of_ble_eq_true rfl) rfl (fun r28 => ?_)
  show sv_V E _ _ _ 640 _ [.int r28.1, .int r27.1] (ss_e r28.2) _
  refine sv_icmp_eq (pc := 640) (tgt := 1919) (sv_d k_La_law_570 64 rfl) (by decide) ?_ ?_
  · exact sv_loc [0, 1, 2, 3] rfl (V_La_law_b1919 E d kc18 hc18 x3 r28.2)
  · refine sv_iconst (pc := 643) (v := (0 : Int32)) (sv_d k_La_law_570 65 rfl) (by decide) ?_
    exact sv_ret (pc := 644) (sv_d k_La_law_570 66 rfl) ⟨_, rfl, rfl⟩ rfl
noncomputable def F_La_law_b645 (kc18 : Int32 → sv_S → Option (Int32 × sv_S)) (x3 : Int32) (s : sv_S) : Option (Int32 × sv_S) :=
  if sv_ib (x3 + (1 : Int32)) (ss_N s.2.2.2.1 0) = true then
    (F_X_withdraw (s.1 0 (x3 + (1 : Int32)).toNatClampNeg) s).bind fun r30 =>
    if sv_ib (x3 + (1 : Int32)) (ss_N r30.2.2.2.2.1 0) = true then
      (F_Mo_withdraw (r30.2.1 0 (x3 + (1 : Int32)).toNatClampNeg) r30.2).bind fun r31 =>
      if r30.1 = r31.1 then
        F_La_law_b1919 kc18 x3 r31.2
      else
      some ((0 : Int32), r31.2)
    else none
  else none
theorem V_La_law_b645 (E : sv_E) (d : Nat) (kc18 : Int32 → sv_S → Option (Int32 × sv_S)) (hc18 : ∀ (x3 : Int32) (s : sv_S), sv_V E m_La_law (d + 83) ss_i 18 [(0, sv_r E 0), (1, sv_r E 64), (2, sv_r E 187), (3, .int x3)] [] (ss_e s) (kc18 x3 s)) (x3 : Int32) (s : sv_S) : sv_V E m_La_law (d + 83) ss_i 645 [(0, sv_r E 0), (1, sv_r E 64), (2, sv_r E 187), (3, .int x3)] [] (ss_e s) (F_La_law_b645 kc18 x3 s) := by
  unfold F_La_law_b645
  refine sv_aload_n (pc := 645) 1 (sv_d k_La_law_645 0 rfl) rfl rfl ?_
  refine sv_aload_n (pc := 646) 0 (sv_d k_La_law_645 1 rfl) rfl rfl ?_
  refine sv_iload_n (pc := 647) 3 (sv_d k_La_law_645 2 rfl) rfl rfl ?_
  refine sv_iconst (pc := 648) (v := (1 : Int32)) (sv_d k_La_law_645 3 rfl) (by decide) ?_
  refine sv_iadd (pc := 649) (sv_d k_La_law_645 4 rfl) ?_
  refine ss_iald (pc := 650) (n := (ss_N s.2.2.2.1 0)) (sv_d k_La_law_645 5 rfl) kd0 (ss_lt (by decide)) rfl ?_
  refine sv_callV (pc := 651) (ψ := ss_i) (As := [.int (s.1 0 (x3 + (1 : Int32)).toNatClampNeg)]) (rest := []) (c := 64) (sv_d k_La_law_645 6 rfl) g_X_withdraw w838 in_X_withdraw se_X_withdraw cf11 kd64 (ss_lt (by decide)) rfl (Nat.le_of_ble_eq_true rfl) (V_X_withdraw E (d + 81) (s.1 0 (x3 + (1 : Int32)).toNatClampNeg) s) (Nat.le_of_ble_eq_true rfl) rfl (fun r30 => ?_)
  show sv_V E _ _ _ 654 _ [.int r30.1] (ss_e r30.2) _
  refine sv_aload_n (pc := 654) 2 (sv_d k_La_law_645 7 rfl) rfl rfl ?_
  refine sv_aload_n (pc := 655) 0 (sv_d k_La_law_645 8 rfl) rfl rfl ?_
  refine sv_iload_n (pc := 656) 3 (sv_d k_La_law_645 9 rfl) rfl rfl ?_
  refine sv_iconst (pc := 657) (v := (1 : Int32)) (sv_d k_La_law_645 10 rfl) (by decide) ?_
  refine sv_iadd (pc := 658) (sv_d k_La_law_645 11 rfl) ?_
  refine ss_iald (pc := 659) (n := (ss_N r30.2.2.2.2.1 0)) (sv_d k_La_law_645 12 rfl) kd0 (ss_lt (by decide)) rfl ?_
  refine sv_callV (pc := 660) (ψ := ss_i) (As := [.int (r30.2.1 0 (x3 + (1 : Int32)).toNatClampNeg)]) (rest := [.int r30.1]) (c := 187) (sv_d k_La_law_645 13 rfl) g_Mo_withdraw w1702 in_Mo_withdraw se_Mo_withdraw cf12 kd187 (ss_lt (by decide)) rfl (Nat.le_of_ble_eq_true rfl) (V_Mo_withdraw E (d + 80) (r30.2.1 0 (x3 + (1 : Int32)).toNatClampNeg) r30.2) (Nat.le_of_ble_eq_true rfl) rfl (fun r31 => ?_)
  show sv_V E _ _ _ 663 _ [.int r31.1, .int r30.1] (ss_e r31.2) _
  refine sv_icmp_eq (pc := 663) (tgt := 1919) (sv_d k_La_law_645 14 rfl) (by decide) ?_ ?_
  · exact sv_loc [0, 1, 2, 3] rfl (V_La_law_b1919 E d kc18 hc18 x3 r31.2)
  · refine sv_iconst (pc := 666) (v := (0 : Int32)) (sv_d k_La_law_645 15 rfl) (by decide) ?_
    exact sv_ret (pc := 667) (sv_d k_La_law_645 16 rfl) ⟨_, rfl, rfl⟩ rfl
noncomputable def F_La_law_b668 (kc18 : Int32 → sv_S → Option (Int32 × sv_S)) (x3 : Int32) (s : sv_S) : Option (Int32 × sv_S) :=
  if sv_ib (x3 + (1 : Int32)) (ss_N s.2.2.2.1 0) = true then
    if sv_ib (x3 + (2 : Int32)) (ss_N s.2.2.2.1 0) = true then
      (F_X_set (s.1 0 (x3 + (1 : Int32)).toNatClampNeg) (s.1 0 (x3 + (2 : Int32)).toNatClampNeg) s).bind fun r33 =>
      if sv_ib (x3 + (1 : Int32)) (ss_N r33.2.2.2.2.1 0) = true then
        if sv_ib (x3 + (2 : Int32)) (ss_N r33.2.2.2.2.1 0) = true then
          (F_Mo_set (r33.2.1 0 (x3 + (1 : Int32)).toNatClampNeg) (r33.2.1 0 (x3 + (2 : Int32)).toNatClampNeg) r33.2).bind fun r34 =>
          if r33.1 = r34.1 then
            F_La_law_b1919 kc18 x3 r34.2
          else
          some ((0 : Int32), r34.2)
        else none
      else none
    else none
  else none
theorem V_La_law_b668 (E : sv_E) (d : Nat) (kc18 : Int32 → sv_S → Option (Int32 × sv_S)) (hc18 : ∀ (x3 : Int32) (s : sv_S), sv_V E m_La_law (d + 83) ss_i 18 [(0, sv_r E 0), (1, sv_r E 64), (2, sv_r E 187), (3, .int x3)] [] (ss_e s) (kc18 x3 s)) (x3 : Int32) (s : sv_S) : sv_V E m_La_law (d + 83) ss_i 668 [(0, sv_r E 0), (1, sv_r E 64), (2, sv_r E 187), (3, .int x3)] [] (ss_e s) (F_La_law_b668 kc18 x3 s) := by
  unfold F_La_law_b668
  refine sv_aload_n (pc := 668) 1 (sv_d k_La_law_668 0 rfl) rfl rfl ?_
  refine sv_aload_n (pc := 669) 0 (sv_d k_La_law_668 1 rfl) rfl rfl ?_
  refine sv_iload_n (pc := 670) 3 (sv_d k_La_law_668 2 rfl) rfl rfl ?_
  refine sv_iconst (pc := 671) (v := (1 : Int32)) (sv_d k_La_law_668 3 rfl) (by decide) ?_
  refine sv_iadd (pc := 672) (sv_d k_La_law_668 4 rfl) ?_
  refine ss_iald (pc := 673) (n := (ss_N s.2.2.2.1 0)) (sv_d k_La_law_668 5 rfl) kd0 (ss_lt (by decide)) rfl ?_
  refine sv_aload_n (pc := 674) 0 (sv_d k_La_law_668 6 rfl) rfl rfl ?_
  refine sv_iload_n (pc := 675) 3 (sv_d k_La_law_668 7 rfl) rfl rfl ?_
  refine sv_iconst (pc := 676) (v := (2 : Int32)) (sv_d k_La_law_668 8 rfl) (by decide) ?_
  refine sv_iadd (pc := 677) (sv_d k_La_law_668 9 rfl) ?_
  refine ss_iald (pc := 678) (n := (ss_N s.2.2.2.1 0)) (sv_d k_La_law_668 10 rfl) kd0 (ss_lt (by decide)) rfl ?_
  refine sv_callV (pc := 679) (ψ := ss_i) (As := [.int (s.1 0 (x3 + (1 : Int32)).toNatClampNeg), .int (s.1 0 (x3 + (2 : Int32)).toNatClampNeg)]) (rest := []) (c := 64) (sv_d k_La_law_668 11 rfl) g_X_set w850 in_X_set se_X_set cf11 kd64 (ss_lt (by decide)) rfl (Nat.le_of_ble_eq_true rfl) (V_X_set E (d + 79) (s.1 0 (x3 + (1 : Int32)).toNatClampNeg) (s.1 0 (x3 + (2 : Int32)).toNatClampNeg) s) (Nat.le_of_ble_eq_true rfl) rfl (fun r33 => ?_)
  show sv_V E _ _ _ 682 _ [.int r33.1] (ss_e r33.2) _
  refine sv_aload_n (pc := 682) 2 (sv_d k_La_law_668 12 rfl) rfl rfl ?_
  refine sv_aload_n (pc := 683) 0 (sv_d k_La_law_668 13 rfl) rfl rfl ?_
  refine sv_iload_n (pc := 684) 3 (sv_d k_La_law_668 14 rfl) rfl rfl ?_
  refine sv_iconst (pc := 685) (v := (1 : Int32)) (sv_d k_La_law_668 15 rfl) (by decide) ?_
  refine sv_iadd (pc := 686) (sv_d k_La_law_668 16 rfl) ?_
  refine ss_iald (pc := 687) (n := (ss_N r33.2.2.2.2.1 0)) (sv_d k_La_law_668 17 rfl) kd0 (ss_lt (by decide)) rfl ?_
  refine sv_aload_n (pc := 688) 0 (sv_d k_La_law_668 18 rfl) rfl rfl ?_
  refine sv_iload_n (pc := 689) 3 (sv_d k_La_law_668 19 rfl) rfl rfl ?_
  refine sv_iconst (pc := 690) (v := (2 : Int32)) (sv_d k_La_law_668 20 rfl) (by decide) ?_
  refine sv_iadd (pc := 691) (sv_d k_La_law_668 21 rfl) ?_
  refine ss_iald (pc := 692) (n := (ss_N r33.2.2.2.2.1 0)) (sv_d k_La_law_668 22 rfl) kd0 (ss_lt (by decide)) rfl ?_
  refine sv_callV (pc := 693) (ψ := ss_i) (As := [.int (r33.2.1 0 (x3 + (1 : Int32)).toNatClampNeg), .int (r33.2.1 0 (x3 + (2 : Int32)).toNatClampNeg)]) (rest := [.int r33.1]) (c := 187) (sv_d k_La_law_668 23 rfl) g_Mo_set w1714 in_Mo_set se_Mo_set cf12 kd187 (ss_lt (by decide)) rfl (Nat.le_of_ble_eq_true rfl) (V_Mo_set E (d + 74) (r33.2.1 0 (x3 + (1 : Int32)).toNatClampNeg) (r33.2.1 0 (x3 + (2 : Int32)).toNatClampNeg) r33.2) (Nat.le_of_ble_eq_true rfl) rfl (fun r34 => ?_)
  show sv_V E _ _ _ 696 _ [.int r34.1, .int r33.1] (ss_e r34.2) _
  refine sv_icmp_eq (pc := 696) (tgt := 1919) (sv_d k_La_law_668 24 rfl) (by decide) ?_ ?_
  · exact sv_loc [0, 1, 2, 3] rfl (V_La_law_b1919 E d kc18 hc18 x3 r34.2)
  · refine sv_iconst (pc := 699) (v := (0 : Int32)) (sv_d k_La_law_668 25 rfl) (by decide) ?_
    exact sv_ret (pc := 700) (sv_d k_La_law_668 26 rfl) ⟨_, rfl, rfl⟩ rfl
noncomputable def F_La_law_b701 (kc18 : Int32 → sv_S → Option (Int32 × sv_S)) (x3 : Int32) (s : sv_S) : Option (Int32 × sv_S) :=
  if sv_ib (x3 + (1 : Int32)) (ss_N s.2.2.2.1 0) = true then
    (F_X_undo (s.1 0 (x3 + (1 : Int32)).toNatClampNeg) s).bind fun r36 =>
    if sv_ib (x3 + (1 : Int32)) (ss_N r36.2.2.2.2.1 0) = true then
      (F_Mo_undo (r36.2.1 0 (x3 + (1 : Int32)).toNatClampNeg) r36.2).bind fun r37 =>
      if r36.1 = r37.1 then
        F_La_law_b1919 kc18 x3 r37.2
      else
      some ((0 : Int32), r37.2)
    else none
  else none
theorem V_La_law_b701 (E : sv_E) (d : Nat) (kc18 : Int32 → sv_S → Option (Int32 × sv_S)) (hc18 : ∀ (x3 : Int32) (s : sv_S), sv_V E m_La_law (d + 83) ss_i 18 [(0, sv_r E 0), (1, sv_r E 64), (2, sv_r E 187), (3, .int x3)] [] (ss_e s) (kc18 x3 s)) (x3 : Int32) (s : sv_S) : sv_V E m_La_law (d + 83) ss_i 701 [(0, sv_r E 0), (1, sv_r E 64), (2, sv_r E 187), (3, .int x3)] [] (ss_e s) (F_La_law_b701 kc18 x3 s) := by
  unfold F_La_law_b701
  refine sv_aload_n (pc := 701) 1 (sv_d k_La_law_701 0 rfl) rfl rfl ?_
  refine sv_aload_n (pc := 702) 0 (sv_d k_La_law_701 1 rfl) rfl rfl ?_
  refine sv_iload_n (pc := 703) 3 (sv_d k_La_law_701 2 rfl) rfl rfl ?_
  refine sv_iconst (pc := 704) (v := (1 : Int32)) (sv_d k_La_law_701 3 rfl) (by decide) ?_
  refine sv_iadd (pc := 705) (sv_d k_La_law_701 4 rfl) ?_
  refine ss_iald (pc := 706) (n := (ss_N s.2.2.2.1 0)) (sv_d k_La_law_701 5 rfl) kd0 (ss_lt (by decide)) rfl ?_
  refine sv_callV (pc := 707) (ψ := ss_i) (As := [.int (s.1 0 (x3 + (1 : Int32)).toNatClampNeg)]) (rest := []) (c := 64) (sv_d k_La_law_701 6 rfl) g_X_undo w859 in_X_undo se_X_undo cf11 kd64 (ss_lt (by decide)) rfl (Nat.le_of_ble_eq_true rfl) (V_X_undo E (d + 81) (s.1 0 (x3 + (1 : Int32)).toNatClampNeg) s) (Nat.le_of_ble_eq_true rfl) rfl (fun r36 => ?_)
  show sv_V E _ _ _ 710 _ [.int r36.1] (ss_e r36.2) _
  refine sv_aload_n (pc := 710) 2 (sv_d k_La_law_701 7 rfl) rfl rfl ?_
  refine sv_aload_n (pc := 711) 0 (sv_d k_La_law_701 8 rfl) rfl rfl ?_
  refine sv_iload_n (pc := 712) 3 (sv_d k_La_law_701 9 rfl) rfl rfl ?_
  refine sv_iconst (pc := 713) (v := (1 : Int32)) (sv_d k_La_law_701 10 rfl) (by decide) ?_
  refine sv_iadd (pc := 714) (sv_d k_La_law_701 11 rfl) ?_
  refine ss_iald (pc := 715) (n := (ss_N r36.2.2.2.2.1 0)) (sv_d k_La_law_701 12 rfl) kd0 (ss_lt (by decide)) rfl ?_
  refine sv_callV (pc := 716) (ψ := ss_i) (As := [.int (r36.2.1 0 (x3 + (1 : Int32)).toNatClampNeg)]) (rest := [.int r36.1]) (c := 187) (sv_d k_La_law_701 13 rfl) g_Mo_undo w1718 in_Mo_undo se_Mo_undo cf12 kd187 (ss_lt (by decide)) rfl (Nat.le_of_ble_eq_true rfl) (V_Mo_undo E (d + 80) (r36.2.1 0 (x3 + (1 : Int32)).toNatClampNeg) r36.2) (Nat.le_of_ble_eq_true rfl) rfl (fun r37 => ?_)
  show sv_V E _ _ _ 719 _ [.int r37.1, .int r36.1] (ss_e r37.2) _
  refine sv_icmp_eq (pc := 719) (tgt := 1919) (sv_d k_La_law_701 14 rfl) (by decide) ?_ ?_
  · exact sv_loc [0, 1, 2, 3] rfl (V_La_law_b1919 E d kc18 hc18 x3 r37.2)
  · refine sv_iconst (pc := 722) (v := (0 : Int32)) (sv_d k_La_law_701 15 rfl) (by decide) ?_
    exact sv_ret (pc := 723) (sv_d k_La_law_701 16 rfl) ⟨_, rfl, rfl⟩ rfl
noncomputable def F_La_law_b724 (kc18 : Int32 → sv_S → Option (Int32 × sv_S)) (x3 : Int32) (s : sv_S) : Option (Int32 × sv_S) :=
  if sv_ib (x3 + (1 : Int32)) (ss_N s.2.2.2.1 0) = true then
    if sv_ib (x3 + (2 : Int32)) (ss_N s.2.2.2.1 0) = true then
      (F_X_of (s.1 0 (x3 + (1 : Int32)).toNatClampNeg) (s.1 0 (x3 + (2 : Int32)).toNatClampNeg) s).bind fun r39 =>
      if sv_ib (x3 + (1 : Int32)) (ss_N s.2.2.2.1 0) = true then
        if sv_ib (x3 + (2 : Int32)) (ss_N s.2.2.2.1 0) = true then
          (F_Mo_of (s.1 0 (x3 + (1 : Int32)).toNatClampNeg) (s.1 0 (x3 + (2 : Int32)).toNatClampNeg) s).bind fun r40 =>
          if r39 = r40 then
            F_La_law_b1919 kc18 x3 s
          else
          some ((0 : Int32), s)
        else none
      else none
    else none
  else none
theorem V_La_law_b724 (E : sv_E) (d : Nat) (kc18 : Int32 → sv_S → Option (Int32 × sv_S)) (hc18 : ∀ (x3 : Int32) (s : sv_S), sv_V E m_La_law (d + 83) ss_i 18 [(0, sv_r E 0), (1, sv_r E 64), (2, sv_r E 187), (3, .int x3)] [] (ss_e s) (kc18 x3 s)) (x3 : Int32) (s : sv_S) : sv_V E m_La_law (d + 83) ss_i 724 [(0, sv_r E 0), (1, sv_r E 64), (2, sv_r E 187), (3, .int x3)] [] (ss_e s) (F_La_law_b724 kc18 x3 s) := by
  unfold F_La_law_b724
  refine sv_aload_n (pc := 724) 1 (sv_d k_La_law_724 0 rfl) rfl rfl ?_
  refine sv_aload_n (pc := 725) 0 (sv_d k_La_law_724 1 rfl) rfl rfl ?_
  refine sv_iload_n (pc := 726) 3 (sv_d k_La_law_724 2 rfl) rfl rfl ?_
  refine sv_iconst (pc := 727) (v := (1 : Int32)) (sv_d k_La_law_724 3 rfl) (by decide) ?_
  refine sv_iadd (pc := 728) (sv_d k_La_law_724 4 rfl) ?_
  refine ss_iald (pc := 729) (n := (ss_N s.2.2.2.1 0)) (sv_d k_La_law_724 5 rfl) kd0 (ss_lt (by decide)) rfl ?_
  refine sv_aload_n (pc := 730) 0 (sv_d k_La_law_724 6 rfl) rfl rfl ?_
  refine sv_iload_n (pc := 731) 3 (sv_d k_La_law_724 7 rfl) rfl rfl ?_
  refine sv_iconst (pc := 732) (v := (2 : Int32)) (sv_d k_La_law_724 8 rfl) (by decide) ?_
  refine sv_iadd (pc := 733) (sv_d k_La_law_724 9 rfl) ?_
  refine ss_iald (pc := 734) (n := (ss_N s.2.2.2.1 0)) (sv_d k_La_law_724 10 rfl) kd0 (ss_lt (by decide)) rfl ?_
  refine sv_callV (pc := 735) (ψ := (ss_pi s)) (As := [.int (s.1 0 (x3 + (1 : Int32)).toNatClampNeg), .int (s.1 0 (x3 + (2 : Int32)).toNatClampNeg)]) (rest := []) (c := 64) (sv_d k_La_law_724 11 rfl) g_X_of w871 in_X_of se_X_of cf11 kd64 (ss_lt (by decide)) rfl (Nat.le_of_ble_eq_true rfl) (V_X_of E (d + 80) (s.1 0 (x3 + (1 : Int32)).toNatClampNeg) (s.1 0 (x3 + (2 : Int32)).toNatClampNeg) s) (Nat.le_of_ble_eq_true rfl) rfl (fun r39 => ?_)
  show sv_V E _ _ _ 738 _ [.int r39] (ss_e s) _
  refine sv_aload_n (pc := 738) 2 (sv_d k_La_law_724 12 rfl) rfl rfl ?_
  refine sv_aload_n (pc := 739) 0 (sv_d k_La_law_724 13 rfl) rfl rfl ?_
  refine sv_iload_n (pc := 740) 3 (sv_d k_La_law_724 14 rfl) rfl rfl ?_
  refine sv_iconst (pc := 741) (v := (1 : Int32)) (sv_d k_La_law_724 15 rfl) (by decide) ?_
  refine sv_iadd (pc := 742) (sv_d k_La_law_724 16 rfl) ?_
  refine ss_iald (pc := 743) (n := (ss_N s.2.2.2.1 0)) (sv_d k_La_law_724 17 rfl) kd0 (ss_lt (by decide)) rfl ?_
  refine sv_aload_n (pc := 744) 0 (sv_d k_La_law_724 18 rfl) rfl rfl ?_
  refine sv_iload_n (pc := 745) 3 (sv_d k_La_law_724 19 rfl) rfl rfl ?_
  refine sv_iconst (pc := 746) (v := (2 : Int32)) (sv_d k_La_law_724 20 rfl) (by decide) ?_
  refine sv_iadd (pc := 747) (sv_d k_La_law_724 21 rfl) ?_
  refine ss_iald (pc := 748) (n := (ss_N s.2.2.2.1 0)) (sv_d k_La_law_724 22 rfl) kd0 (ss_lt (by decide)) rfl ?_
  refine sv_callV (pc := 749) (ψ := (ss_pi s)) (As := [.int (s.1 0 (x3 + (1 : Int32)).toNatClampNeg), .int (s.1 0 (x3 + (2 : Int32)).toNatClampNeg)]) (rest := [.int r39]) (c := 187) (sv_d k_La_law_724 23 rfl) g_Mo_of w1722 in_Mo_of se_Mo_of cf12 kd187 (ss_lt (by decide)) rfl (Nat.le_of_ble_eq_true rfl) (V_Mo_of E (d + 80) (s.1 0 (x3 + (1 : Int32)).toNatClampNeg) (s.1 0 (x3 + (2 : Int32)).toNatClampNeg) s) (Nat.le_of_ble_eq_true rfl) rfl (fun r40 => ?_)
  show sv_V E _ _ _ 752 _ [.int r40, .int r39] (ss_e s) _
  refine sv_icmp_eq (pc := 752) (tgt := 1919) (sv_d k_La_law_724 24 rfl) (by decide) ?_ ?_
  · exact sv_loc [0, 1, 2, 3] rfl (V_La_law_b1919 E d kc18 hc18 x3 s)
  · refine sv_iconst (pc := 755) (v := (0 : Int32)) (sv_d k_La_law_724 25 rfl) (by decide) ?_
    exact sv_ret (pc := 756) (sv_d k_La_law_724 26 rfl) ⟨_, rfl, rfl⟩ rfl
noncomputable def F_La_law_b757 (kc18 : Int32 → sv_S → Option (Int32 × sv_S)) (x3 : Int32) (s : sv_S) : Option (Int32 × sv_S) :=
  if sv_ib (x3 + (1 : Int32)) (ss_N s.2.2.2.1 0) = true then
    if sv_ib (x3 + (2 : Int32)) (ss_N s.2.2.2.1 0) = true then
      if sv_ib (x3 + (3 : Int32)) (ss_N s.2.2.2.1 0) = true then
        if sv_ib (x3 + (4 : Int32)) (ss_N s.2.2.2.1 0) = true then
          (F_X_charge (s.1 0 (x3 + (1 : Int32)).toNatClampNeg) (s.1 0 (x3 + (2 : Int32)).toNatClampNeg) (s.1 0 (x3 + (3 : Int32)).toNatClampNeg) (s.1 0 (x3 + (4 : Int32)).toNatClampNeg) s).bind fun r42 =>
          if sv_ib (x3 + (1 : Int32)) (ss_N r42.2.2.2.2.1 0) = true then
            if sv_ib (x3 + (2 : Int32)) (ss_N r42.2.2.2.2.1 0) = true then
              if sv_ib (x3 + (3 : Int32)) (ss_N r42.2.2.2.2.1 0) = true then
                if sv_ib (x3 + (4 : Int32)) (ss_N r42.2.2.2.2.1 0) = true then
                  (F_Mo_charge (r42.2.1 0 (x3 + (1 : Int32)).toNatClampNeg) (r42.2.1 0 (x3 + (2 : Int32)).toNatClampNeg) (r42.2.1 0 (x3 + (3 : Int32)).toNatClampNeg) (r42.2.1 0 (x3 + (4 : Int32)).toNatClampNeg) r42.2).bind fun r43 =>
                  if r42.1 = r43.1 then
                    F_La_law_b1919 kc18 x3 r43.2
                  else
                  some ((0 : Int32), r43.2)
                else none
              else none
            else none
          else none
        else none
      else none
    else none
  else none
theorem V_La_law_b757 (E : sv_E) (d : Nat) (kc18 : Int32 → sv_S → Option (Int32 × sv_S)) (hc18 : ∀ (x3 : Int32) (s : sv_S), sv_V E m_La_law (d + 83) ss_i 18 [(0, sv_r E 0), (1, sv_r E 64), (2, sv_r E 187), (3, .int x3)] [] (ss_e s) (kc18 x3 s)) (x3 : Int32) (s : sv_S) : sv_V E m_La_law (d + 83) ss_i 757 [(0, sv_r E 0), (1, sv_r E 64), (2, sv_r E 187), (3, .int x3)] [] (ss_e s) (F_La_law_b757 kc18 x3 s) := by
  unfold F_La_law_b757
  refine sv_aload_n (pc := 757) 1 (sv_d k_La_law_757 0 rfl) rfl rfl ?_
  refine sv_aload_n (pc := 758) 0 (sv_d k_La_law_757 1 rfl) rfl rfl ?_
  refine sv_iload_n (pc := 759) 3 (sv_d k_La_law_757 2 rfl) rfl rfl ?_
  refine sv_iconst (pc := 760) (v := (1 : Int32)) (sv_d k_La_law_757 3 rfl) (by decide) ?_
  refine sv_iadd (pc := 761) (sv_d k_La_law_757 4 rfl) ?_
  refine ss_iald (pc := 762) (n := (ss_N s.2.2.2.1 0)) (sv_d k_La_law_757 5 rfl) kd0 (ss_lt (by decide)) rfl ?_
  refine sv_aload_n (pc := 763) 0 (sv_d k_La_law_757 6 rfl) rfl rfl ?_
  refine sv_iload_n (pc := 764) 3 (sv_d k_La_law_757 7 rfl) rfl rfl ?_
  refine sv_iconst (pc := 765) (v := (2 : Int32)) (sv_d k_La_law_757 8 rfl) (by decide) ?_
  refine sv_iadd (pc := 766) (sv_d k_La_law_757 9 rfl) ?_
  refine ss_iald (pc := 767) (n := (ss_N s.2.2.2.1 0)) (sv_d k_La_law_757 10 rfl) kd0 (ss_lt (by decide)) rfl ?_
  refine sv_aload_n (pc := 768) 0 (sv_d k_La_law_757 11 rfl) rfl rfl ?_
  refine sv_iload_n (pc := 769) 3 (sv_d k_La_law_757 12 rfl) rfl rfl ?_
  refine sv_iconst (pc := 770) (v := (3 : Int32)) (sv_d k_La_law_757 13 rfl) (by decide) ?_
  refine sv_iadd (pc := 771) (sv_d k_La_law_757 14 rfl) ?_
  refine ss_iald (pc := 772) (n := (ss_N s.2.2.2.1 0)) (sv_d k_La_law_757 15 rfl) kd0 (ss_lt (by decide)) rfl ?_
  refine sv_aload_n (pc := 773) 0 (sv_d k_La_law_757 16 rfl) rfl rfl ?_
  refine sv_iload_n (pc := 774) 3 (sv_d k_La_law_757 17 rfl) rfl rfl ?_
  refine sv_iconst (pc := 775) (v := (4 : Int32)) (sv_d k_La_law_757 18 rfl) (by decide) ?_
  refine sv_iadd (pc := 776) (sv_d k_La_law_757 19 rfl) ?_
  refine ss_iald (pc := 777) (n := (ss_N s.2.2.2.1 0)) (sv_d k_La_law_757 20 rfl) kd0 (ss_lt (by decide)) rfl ?_
  refine sv_callV (pc := 778) (ψ := ss_i) (As := [.int (s.1 0 (x3 + (1 : Int32)).toNatClampNeg), .int (s.1 0 (x3 + (2 : Int32)).toNatClampNeg), .int (s.1 0 (x3 + (3 : Int32)).toNatClampNeg), .int (s.1 0 (x3 + (4 : Int32)).toNatClampNeg)]) (rest := []) (c := 64) (sv_d k_La_law_757 21 rfl) g_X_charge w880 in_X_charge se_X_charge cf11 kd64 (ss_lt (by decide)) rfl (Nat.le_of_ble_eq_true rfl) (V_X_charge E (d + 79) (s.1 0 (x3 + (1 : Int32)).toNatClampNeg) (s.1 0 (x3 + (2 : Int32)).toNatClampNeg) (s.1 0 (x3 + (3 : Int32)).toNatClampNeg) (s.1 0 (x3 + (4 : Int32)).toNatClampNeg) s) (Nat.le_of_ble_eq_true rfl) rfl (fun r42 => ?_)
  show sv_V E _ _ _ 781 _ [.int r42.1] (ss_e r42.2) _
  refine sv_aload_n (pc := 781) 2 (sv_d k_La_law_757 22 rfl) rfl rfl ?_
  refine sv_aload_n (pc := 782) 0 (sv_d k_La_law_757 23 rfl) rfl rfl ?_
  refine sv_iload_n (pc := 783) 3 (sv_d k_La_law_757 24 rfl) rfl rfl ?_
  refine sv_iconst (pc := 784) (v := (1 : Int32)) (sv_d k_La_law_757 25 rfl) (by decide) ?_
  refine sv_iadd (pc := 785) (sv_d k_La_law_757 26 rfl) ?_
  refine ss_iald (pc := 786) (n := (ss_N r42.2.2.2.2.1 0)) (sv_d k_La_law_757 27 rfl) kd0 (ss_lt (by decide)) rfl ?_
  refine sv_aload_n (pc := 787) 0 (sv_d k_La_law_757 28 rfl) rfl rfl ?_
  refine sv_iload_n (pc := 788) 3 (sv_d k_La_law_757 29 rfl) rfl rfl ?_
  refine sv_iconst (pc := 789) (v := (2 : Int32)) (sv_d k_La_law_757 30 rfl) (by decide) ?_
  refine sv_iadd (pc := 790) (sv_d k_La_law_757 31 rfl) ?_
  refine ss_iald (pc := 791) (n := (ss_N r42.2.2.2.2.1 0)) (sv_d k_La_law_757 32 rfl) kd0 (ss_lt (by decide)) rfl ?_
  refine sv_aload_n (pc := 792) 0 (sv_d k_La_law_757 33 rfl) rfl rfl ?_
  refine sv_iload_n (pc := 793) 3 (sv_d k_La_law_757 34 rfl) rfl rfl ?_
  refine sv_iconst (pc := 794) (v := (3 : Int32)) (sv_d k_La_law_757 35 rfl) (by decide) ?_
  refine sv_iadd (pc := 795) (sv_d k_La_law_757 36 rfl) ?_
  refine ss_iald (pc := 796) (n := (ss_N r42.2.2.2.2.1 0)) (sv_d k_La_law_757 37 rfl) kd0 (ss_lt (by decide)) rfl ?_
  refine sv_aload_n (pc := 797) 0 (sv_d k_La_law_757 38 rfl) rfl rfl ?_
  refine sv_iload_n (pc := 798) 3 (sv_d k_La_law_757 39 rfl) rfl rfl ?_
  refine sv_iconst (pc := 799) (v := (4 : Int32)) (sv_d k_La_law_757 40 rfl) (by decide) ?_
  refine sv_iadd (pc := 800) (sv_d k_La_law_757 41 rfl) ?_
  refine ss_iald (pc := 801) (n := (ss_N r42.2.2.2.2.1 0)) (sv_d k_La_law_757 42 rfl) kd0 (ss_lt (by decide)) rfl ?_
  refine sv_callV (pc := 802) (ψ := ss_i) (As := [.int (r42.2.1 0 (x3 + (1 : Int32)).toNatClampNeg), .int (r42.2.1 0 (x3 + (2 : Int32)).toNatClampNeg), .int (r42.2.1 0 (x3 + (3 : Int32)).toNatClampNeg), .int (r42.2.1 0 (x3 + (4 : Int32)).toNatClampNeg)]) (rest := [.int r42.1]) (c := 187) (sv_d k_La_law_757 43 rfl) g_Mo_charge w1726 in_Mo_charge se_Mo_charge cf12 kd187 (ss_lt (by decide)) rfl (Nat.le_of_ble_eq_true rfl) (V_Mo_charge E (d + 73) (r42.2.1 0 (x3 + (1 : Int32)).toNatClampNeg) (r42.2.1 0 (x3 + (2 : Int32)).toNatClampNeg) (r42.2.1 0 (x3 + (3 : Int32)).toNatClampNeg) (r42.2.1 0 (x3 + (4 : Int32)).toNatClampNeg) r42.2) (Nat.le_of_ble_eq_true rfl) rfl (fun r43 => ?_)
  show sv_V E _ _ _ 805 _ [.int r43.1, .int r42.1] (ss_e r43.2) _
  refine sv_icmp_eq (pc := 805) (tgt := 1919) (sv_d k_La_law_757 44 rfl) (by decide) ?_ ?_
  · exact sv_loc [0, 1, 2, 3] rfl (V_La_law_b1919 E d kc18 hc18 x3 r43.2)
  · refine sv_iconst (pc := 808) (v := (0 : Int32)) (sv_d k_La_law_757 45 rfl) (by decide) ?_
    exact sv_ret (pc := 809) (sv_d k_La_law_757 46 rfl) ⟨_, rfl, rfl⟩ rfl
noncomputable def F_La_law_b810 (kc18 : Int32 → sv_S → Option (Int32 × sv_S)) (x3 : Int32) (s : sv_S) : Option (Int32 × sv_S) :=
  if sv_ib (x3 + (1 : Int32)) (ss_N s.2.2.2.1 0) = true then
    if sv_ib (x3 + (2 : Int32)) (ss_N s.2.2.2.1 0) = true then
      if sv_ib (x3 + (3 : Int32)) (ss_N s.2.2.2.1 0) = true then
        (F_X_most (s.1 0 (x3 + (1 : Int32)).toNatClampNeg) (s.1 0 (x3 + (2 : Int32)).toNatClampNeg) (s.1 0 (x3 + (3 : Int32)).toNatClampNeg) s).bind fun r45 =>
        if sv_ib (x3 + (1 : Int32)) (ss_N r45.2.2.2.2.1 0) = true then
          if sv_ib (x3 + (2 : Int32)) (ss_N r45.2.2.2.2.1 0) = true then
            if sv_ib (x3 + (3 : Int32)) (ss_N r45.2.2.2.2.1 0) = true then
              (F_Mo_most (r45.2.1 0 (x3 + (1 : Int32)).toNatClampNeg) (r45.2.1 0 (x3 + (2 : Int32)).toNatClampNeg) (r45.2.1 0 (x3 + (3 : Int32)).toNatClampNeg) r45.2).bind fun r46 =>
              if r45.1 = r46.1 then
                F_La_law_b1919 kc18 x3 r46.2
              else
              some ((0 : Int32), r46.2)
            else none
          else none
        else none
      else none
    else none
  else none
theorem V_La_law_b810 (E : sv_E) (d : Nat) (kc18 : Int32 → sv_S → Option (Int32 × sv_S)) (hc18 : ∀ (x3 : Int32) (s : sv_S), sv_V E m_La_law (d + 83) ss_i 18 [(0, sv_r E 0), (1, sv_r E 64), (2, sv_r E 187), (3, .int x3)] [] (ss_e s) (kc18 x3 s)) (x3 : Int32) (s : sv_S) : sv_V E m_La_law (d + 83) ss_i 810 [(0, sv_r E 0), (1, sv_r E 64), (2, sv_r E 187), (3, .int x3)] [] (ss_e s) (F_La_law_b810 kc18 x3 s) := by
  unfold F_La_law_b810
  refine sv_aload_n (pc := 810) 1 (sv_d k_La_law_810 0 rfl) rfl rfl ?_
  refine sv_aload_n (pc := 811) 0 (sv_d k_La_law_810 1 rfl) rfl rfl ?_
  refine sv_iload_n (pc := 812) 3 (sv_d k_La_law_810 2 rfl) rfl rfl ?_
  refine sv_iconst (pc := 813) (v := (1 : Int32)) (sv_d k_La_law_810 3 rfl) (by decide) ?_
  refine sv_iadd (pc := 814) (sv_d k_La_law_810 4 rfl) ?_
  refine ss_iald (pc := 815) (n := (ss_N s.2.2.2.1 0)) (sv_d k_La_law_810 5 rfl) kd0 (ss_lt (by decide)) rfl ?_
  refine sv_aload_n (pc := 816) 0 (sv_d k_La_law_810 6 rfl) rfl rfl ?_
  refine sv_iload_n (pc := 817) 3 (sv_d k_La_law_810 7 rfl) rfl rfl ?_
  refine sv_iconst (pc := 818) (v := (2 : Int32)) (sv_d k_La_law_810 8 rfl) (by decide) ?_
  refine sv_iadd (pc := 819) (sv_d k_La_law_810 9 rfl) ?_
  refine ss_iald (pc := 820) (n := (ss_N s.2.2.2.1 0)) (sv_d k_La_law_810 10 rfl) kd0 (ss_lt (by decide)) rfl ?_
  refine sv_aload_n (pc := 821) 0 (sv_d k_La_law_810 11 rfl) rfl rfl ?_
  refine sv_iload_n (pc := 822) 3 (sv_d k_La_law_810 12 rfl) rfl rfl ?_
  refine sv_iconst (pc := 823) (v := (3 : Int32)) (sv_d k_La_law_810 13 rfl) (by decide) ?_
  refine sv_iadd (pc := 824) (sv_d k_La_law_810 14 rfl) ?_
  refine ss_iald (pc := 825) (n := (ss_N s.2.2.2.1 0)) (sv_d k_La_law_810 15 rfl) kd0 (ss_lt (by decide)) rfl ?_
  refine sv_callV (pc := 826) (ψ := ss_i) (As := [.int (s.1 0 (x3 + (1 : Int32)).toNatClampNeg), .int (s.1 0 (x3 + (2 : Int32)).toNatClampNeg), .int (s.1 0 (x3 + (3 : Int32)).toNatClampNeg)]) (rest := []) (c := 64) (sv_d k_La_law_810 16 rfl) g_X_most w899 in_X_most se_X_most cf11 kd64 (ss_lt (by decide)) rfl (Nat.le_of_ble_eq_true rfl) (V_X_most E (d + 77) (s.1 0 (x3 + (1 : Int32)).toNatClampNeg) (s.1 0 (x3 + (2 : Int32)).toNatClampNeg) (s.1 0 (x3 + (3 : Int32)).toNatClampNeg) s) (Nat.le_of_ble_eq_true rfl) rfl (fun r45 => ?_)
  show sv_V E _ _ _ 829 _ [.int r45.1] (ss_e r45.2) _
  refine sv_aload_n (pc := 829) 2 (sv_d k_La_law_810 17 rfl) rfl rfl ?_
  refine sv_aload_n (pc := 830) 0 (sv_d k_La_law_810 18 rfl) rfl rfl ?_
  refine sv_iload_n (pc := 831) 3 (sv_d k_La_law_810 19 rfl) rfl rfl ?_
  refine sv_iconst (pc := 832) (v := (1 : Int32)) (sv_d k_La_law_810 20 rfl) (by decide) ?_
  refine sv_iadd (pc := 833) (sv_d k_La_law_810 21 rfl) ?_
  refine ss_iald (pc := 834) (n := (ss_N r45.2.2.2.2.1 0)) (sv_d k_La_law_810 22 rfl) kd0 (ss_lt (by decide)) rfl ?_
  refine sv_aload_n (pc := 835) 0 (sv_d k_La_law_810 23 rfl) rfl rfl ?_
  refine sv_iload_n (pc := 836) 3 (sv_d k_La_law_810 24 rfl) rfl rfl ?_
  refine sv_iconst (pc := 837) (v := (2 : Int32)) (sv_d k_La_law_810 25 rfl) (by decide) ?_
  refine sv_iadd (pc := 838) (sv_d k_La_law_810 26 rfl) ?_
  refine ss_iald (pc := 839) (n := (ss_N r45.2.2.2.2.1 0)) (sv_d k_La_law_810 27 rfl) kd0 (ss_lt (by decide)) rfl ?_
  refine sv_aload_n (pc := 840) 0 (sv_d k_La_law_810 28 rfl) rfl rfl ?_
  refine sv_iload_n (pc := 841) 3 (sv_d k_La_law_810 29 rfl) rfl rfl ?_
  refine sv_iconst (pc := 842) (v := (3 : Int32)) (sv_d k_La_law_810 30 rfl) (by decide) ?_
  refine sv_iadd (pc := 843) (sv_d k_La_law_810 31 rfl) ?_
  refine ss_iald (pc := 844) (n := (ss_N r45.2.2.2.2.1 0)) (sv_d k_La_law_810 32 rfl) kd0 (ss_lt (by decide)) rfl ?_
  refine sv_callV (pc := 845) (ψ := ss_i) (As := [.int (r45.2.1 0 (x3 + (1 : Int32)).toNatClampNeg), .int (r45.2.1 0 (x3 + (2 : Int32)).toNatClampNeg), .int (r45.2.1 0 (x3 + (3 : Int32)).toNatClampNeg)]) (rest := [.int r45.1]) (c := 187) (sv_d k_La_law_810 33 rfl) g_Mo_most w1742 in_Mo_most se_Mo_most cf12 kd187 (ss_lt (by decide)) rfl (Nat.le_of_ble_eq_true rfl) (V_Mo_most E (d + 73) (r45.2.1 0 (x3 + (1 : Int32)).toNatClampNeg) (r45.2.1 0 (x3 + (2 : Int32)).toNatClampNeg) (r45.2.1 0 (x3 + (3 : Int32)).toNatClampNeg) r45.2) (Nat.le_of_ble_eq_true rfl) rfl (fun r46 => ?_)
  show sv_V E _ _ _ 848 _ [.int r46.1, .int r45.1] (ss_e r46.2) _
  refine sv_icmp_eq (pc := 848) (tgt := 1919) (sv_d k_La_law_810 34 rfl) (by decide) ?_ ?_
  · exact sv_loc [0, 1, 2, 3] rfl (V_La_law_b1919 E d kc18 hc18 x3 r46.2)
  · refine sv_iconst (pc := 851) (v := (0 : Int32)) (sv_d k_La_law_810 35 rfl) (by decide) ?_
    exact sv_ret (pc := 852) (sv_d k_La_law_810 36 rfl) ⟨_, rfl, rfl⟩ rfl
noncomputable def F_La_law_b853 (kc18 : Int32 → sv_S → Option (Int32 × sv_S)) (x3 : Int32) (s : sv_S) : Option (Int32 × sv_S) :=
  if sv_ib (x3 + (1 : Int32)) (ss_N s.2.2.2.1 0) = true then
    if sv_ib (x3 + (2 : Int32)) (ss_N s.2.2.2.1 0) = true then
      if sv_ib (x3 + (3 : Int32)) (ss_N s.2.2.2.1 0) = true then
        (F_X_part (s.1 0 (x3 + (1 : Int32)).toNatClampNeg) (s.1 0 (x3 + (2 : Int32)).toNatClampNeg) (s.1 0 (x3 + (3 : Int32)).toNatClampNeg) s).bind fun r48 =>
        if sv_ib (x3 + (1 : Int32)) (ss_N r48.2.2.2.2.1 0) = true then
          if sv_ib (x3 + (2 : Int32)) (ss_N r48.2.2.2.2.1 0) = true then
            if sv_ib (x3 + (3 : Int32)) (ss_N r48.2.2.2.2.1 0) = true then
              (F_Mo_part (r48.2.1 0 (x3 + (1 : Int32)).toNatClampNeg) (r48.2.1 0 (x3 + (2 : Int32)).toNatClampNeg) (r48.2.1 0 (x3 + (3 : Int32)).toNatClampNeg) r48.2).bind fun r49 =>
              if r48.1 = r49.1 then
                F_La_law_b1919 kc18 x3 r49.2
              else
              some ((0 : Int32), r49.2)
            else none
          else none
        else none
      else none
    else none
  else none
theorem V_La_law_b853 (E : sv_E) (d : Nat) (kc18 : Int32 → sv_S → Option (Int32 × sv_S)) (hc18 : ∀ (x3 : Int32) (s : sv_S), sv_V E m_La_law (d + 83) ss_i 18 [(0, sv_r E 0), (1, sv_r E 64), (2, sv_r E 187), (3, .int x3)] [] (ss_e s) (kc18 x3 s)) (x3 : Int32) (s : sv_S) : sv_V E m_La_law (d + 83) ss_i 853 [(0, sv_r E 0), (1, sv_r E 64), (2, sv_r E 187), (3, .int x3)] [] (ss_e s) (F_La_law_b853 kc18 x3 s) := by
  unfold F_La_law_b853
  refine sv_aload_n (pc := 853) 1 (sv_d k_La_law_853 0 rfl) rfl rfl ?_
  refine sv_aload_n (pc := 854) 0 (sv_d k_La_law_853 1 rfl) rfl rfl ?_
  refine sv_iload_n (pc := 855) 3 (sv_d k_La_law_853 2 rfl) rfl rfl ?_
  refine sv_iconst (pc := 856) (v := (1 : Int32)) (sv_d k_La_law_853 3 rfl) (by decide) ?_
  refine sv_iadd (pc := 857) (sv_d k_La_law_853 4 rfl) ?_
  refine ss_iald (pc := 858) (n := (ss_N s.2.2.2.1 0)) (sv_d k_La_law_853 5 rfl) kd0 (ss_lt (by decide)) rfl ?_
  refine sv_aload_n (pc := 859) 0 (sv_d k_La_law_853 6 rfl) rfl rfl ?_
  refine sv_iload_n (pc := 860) 3 (sv_d k_La_law_853 7 rfl) rfl rfl ?_
  refine sv_iconst (pc := 861) (v := (2 : Int32)) (sv_d k_La_law_853 8 rfl) (by decide) ?_
  refine sv_iadd (pc := 862) (sv_d k_La_law_853 9 rfl) ?_
  refine ss_iald (pc := 863) (n := (ss_N s.2.2.2.1 0)) (sv_d k_La_law_853 10 rfl) kd0 (ss_lt (by decide)) rfl ?_
  refine sv_aload_n (pc := 864) 0 (sv_d k_La_law_853 11 rfl) rfl rfl ?_
  refine sv_iload_n (pc := 865) 3 (sv_d k_La_law_853 12 rfl) rfl rfl ?_
  refine sv_iconst (pc := 866) (v := (3 : Int32)) (sv_d k_La_law_853 13 rfl) (by decide) ?_
  refine sv_iadd (pc := 867) (sv_d k_La_law_853 14 rfl) ?_
  refine ss_iald (pc := 868) (n := (ss_N s.2.2.2.1 0)) (sv_d k_La_law_853 15 rfl) kd0 (ss_lt (by decide)) rfl ?_
  refine sv_callV (pc := 869) (ψ := ss_i) (As := [.int (s.1 0 (x3 + (1 : Int32)).toNatClampNeg), .int (s.1 0 (x3 + (2 : Int32)).toNatClampNeg), .int (s.1 0 (x3 + (3 : Int32)).toNatClampNeg)]) (rest := []) (c := 64) (sv_d k_La_law_853 16 rfl) g_X_part w913 in_X_part se_X_part cf11 kd64 (ss_lt (by decide)) rfl (Nat.le_of_ble_eq_true rfl) (V_X_part E (d + 76) (s.1 0 (x3 + (1 : Int32)).toNatClampNeg) (s.1 0 (x3 + (2 : Int32)).toNatClampNeg) (s.1 0 (x3 + (3 : Int32)).toNatClampNeg) s) (Nat.le_of_ble_eq_true rfl) rfl (fun r48 => ?_)
  show sv_V E _ _ _ 872 _ [.int r48.1] (ss_e r48.2) _
  refine sv_aload_n (pc := 872) 2 (sv_d k_La_law_853 17 rfl) rfl rfl ?_
  refine sv_aload_n (pc := 873) 0 (sv_d k_La_law_853 18 rfl) rfl rfl ?_
  refine sv_iload_n (pc := 874) 3 (sv_d k_La_law_853 19 rfl) rfl rfl ?_
  refine sv_iconst (pc := 875) (v := (1 : Int32)) (sv_d k_La_law_853 20 rfl) (by decide) ?_
  refine sv_iadd (pc := 876) (sv_d k_La_law_853 21 rfl) ?_
  refine ss_iald (pc := 877) (n := (ss_N r48.2.2.2.2.1 0)) (sv_d k_La_law_853 22 rfl) kd0 (ss_lt (by decide)) rfl ?_
  refine sv_aload_n (pc := 878) 0 (sv_d k_La_law_853 23 rfl) rfl rfl ?_
  refine sv_iload_n (pc := 879) 3 (sv_d k_La_law_853 24 rfl) rfl rfl ?_
  refine sv_iconst (pc := 880) (v := (2 : Int32)) (sv_d k_La_law_853 25 rfl) (by decide) ?_
  refine sv_iadd (pc := 881) (sv_d k_La_law_853 26 rfl) ?_
  refine ss_iald (pc := 882) (n := (ss_N r48.2.2.2.2.1 0)) (sv_d k_La_law_853 27 rfl) kd0 (ss_lt (by decide)) rfl ?_
  refine sv_aload_n (pc := 883) 0 (sv_d k_La_law_853 28 rfl) rfl rfl ?_
  refine sv_iload_n (pc := 884) 3 (sv_d k_La_law_853 29 rfl) rfl rfl ?_
  refine sv_iconst (pc := 885) (v := (3 : Int32)) (sv_d k_La_law_853 30 rfl) (by decide) ?_
  refine sv_iadd (pc := 886) (sv_d k_La_law_853 31 rfl) ?_
  refine ss_iald (pc := 887) (n := (ss_N r48.2.2.2.2.1 0)) (sv_d k_La_law_853 32 rfl) kd0 (ss_lt (by decide)) rfl ?_
  refine sv_callV (pc := 888) (ψ := ss_i) (As := [.int (r48.2.1 0 (x3 + (1 : Int32)).toNatClampNeg), .int (r48.2.1 0 (x3 + (2 : Int32)).toNatClampNeg), .int (r48.2.1 0 (x3 + (3 : Int32)).toNatClampNeg)]) (rest := [.int r48.1]) (c := 187) (sv_d k_La_law_853 33 rfl) g_Mo_part w1750 in_Mo_part se_Mo_part cf12 kd187 (ss_lt (by decide)) rfl (Nat.le_of_ble_eq_true rfl) (V_Mo_part E (d + 74) (r48.2.1 0 (x3 + (1 : Int32)).toNatClampNeg) (r48.2.1 0 (x3 + (2 : Int32)).toNatClampNeg) (r48.2.1 0 (x3 + (3 : Int32)).toNatClampNeg) r48.2) (Nat.le_of_ble_eq_true rfl) rfl (fun r49 => ?_)
  show sv_V E _ _ _ 891 _ [.int r49.1, .int r48.1] (ss_e r49.2) _
  refine sv_icmp_eq (pc := 891) (tgt := 1919) (sv_d k_La_law_853 34 rfl) (by decide) ?_ ?_
  · exact sv_loc [0, 1, 2, 3] rfl (V_La_law_b1919 E d kc18 hc18 x3 r49.2)
  · refine sv_iconst (pc := 894) (v := (0 : Int32)) (sv_d k_La_law_853 35 rfl) (by decide) ?_
    exact sv_ret (pc := 895) (sv_d k_La_law_853 36 rfl) ⟨_, rfl, rfl⟩ rfl
noncomputable def F_La_law_b896 (kc18 : Int32 → sv_S → Option (Int32 × sv_S)) (x3 : Int32) (s : sv_S) : Option (Int32 × sv_S) :=
  if sv_ib (x3 + (1 : Int32)) (ss_N s.2.2.2.1 0) = true then
    if sv_ib (x3 + (2 : Int32)) (ss_N s.2.2.2.1 0) = true then
      if sv_ib (x3 + (3 : Int32)) (ss_N s.2.2.2.1 0) = true then
        if sv_ib (x3 + (4 : Int32)) (ss_N s.2.2.2.1 0) = true then
          if sv_ib (x3 + (5 : Int32)) (ss_N s.2.2.2.1 0) = true then
            (F_X_truck (s.1 0 (x3 + (1 : Int32)).toNatClampNeg) (s.1 0 (x3 + (2 : Int32)).toNatClampNeg) (s.1 0 (x3 + (3 : Int32)).toNatClampNeg) (s.1 0 (x3 + (4 : Int32)).toNatClampNeg) (s.1 0 (x3 + (5 : Int32)).toNatClampNeg) s).bind fun r51 =>
            if sv_ib (x3 + (1 : Int32)) (ss_N r51.2.2.2.2.1 0) = true then
              if sv_ib (x3 + (2 : Int32)) (ss_N r51.2.2.2.2.1 0) = true then
                if sv_ib (x3 + (3 : Int32)) (ss_N r51.2.2.2.2.1 0) = true then
                  if sv_ib (x3 + (4 : Int32)) (ss_N r51.2.2.2.2.1 0) = true then
                    if sv_ib (x3 + (5 : Int32)) (ss_N r51.2.2.2.2.1 0) = true then
                      (F_Mo_truck (r51.2.1 0 (x3 + (1 : Int32)).toNatClampNeg) (r51.2.1 0 (x3 + (2 : Int32)).toNatClampNeg) (r51.2.1 0 (x3 + (3 : Int32)).toNatClampNeg) (r51.2.1 0 (x3 + (4 : Int32)).toNatClampNeg) (r51.2.1 0 (x3 + (5 : Int32)).toNatClampNeg) r51.2).bind fun r52 =>
                      if r51.1 = r52.1 then
                        F_La_law_b1919 kc18 x3 r52.2
                      else
                      some ((0 : Int32), r52.2)
                    else none
                  else none
                else none
              else none
            else none
          else none
        else none
      else none
    else none
  else none
theorem V_La_law_b896 (E : sv_E) (d : Nat) (kc18 : Int32 → sv_S → Option (Int32 × sv_S)) (hc18 : ∀ (x3 : Int32) (s : sv_S), sv_V E m_La_law (d + 83) ss_i 18 [(0, sv_r E 0), (1, sv_r E 64), (2, sv_r E 187), (3, .int x3)] [] (ss_e s) (kc18 x3 s)) (x3 : Int32) (s : sv_S) : sv_V E m_La_law (d + 83) ss_i 896 [(0, sv_r E 0), (1, sv_r E 64), (2, sv_r E 187), (3, .int x3)] [] (ss_e s) (F_La_law_b896 kc18 x3 s) := by
  unfold F_La_law_b896
  refine sv_aload_n (pc := 896) 1 (sv_d k_La_law_896 0 rfl) rfl rfl ?_
  refine sv_aload_n (pc := 897) 0 (sv_d k_La_law_896 1 rfl) rfl rfl ?_
  refine sv_iload_n (pc := 898) 3 (sv_d k_La_law_896 2 rfl) rfl rfl ?_
  refine sv_iconst (pc := 899) (v := (1 : Int32)) (sv_d k_La_law_896 3 rfl) (by decide) ?_
  refine sv_iadd (pc := 900) (sv_d k_La_law_896 4 rfl) ?_
  refine ss_iald (pc := 901) (n := (ss_N s.2.2.2.1 0)) (sv_d k_La_law_896 5 rfl) kd0 (ss_lt (by decide)) rfl ?_
  refine sv_aload_n (pc := 902) 0 (sv_d k_La_law_896 6 rfl) rfl rfl ?_
  refine sv_iload_n (pc := 903) 3 (sv_d k_La_law_896 7 rfl) rfl rfl ?_
  refine sv_iconst (pc := 904) (v := (2 : Int32)) (sv_d k_La_law_896 8 rfl) (by decide) ?_
  refine sv_iadd (pc := 905) (sv_d k_La_law_896 9 rfl) ?_
  refine ss_iald (pc := 906) (n := (ss_N s.2.2.2.1 0)) (sv_d k_La_law_896 10 rfl) kd0 (ss_lt (by decide)) rfl ?_
  refine sv_aload_n (pc := 907) 0 (sv_d k_La_law_896 11 rfl) rfl rfl ?_
  refine sv_iload_n (pc := 908) 3 (sv_d k_La_law_896 12 rfl) rfl rfl ?_
  refine sv_iconst (pc := 909) (v := (3 : Int32)) (sv_d k_La_law_896 13 rfl) (by decide) ?_
  refine sv_iadd (pc := 910) (sv_d k_La_law_896 14 rfl) ?_
  refine ss_iald (pc := 911) (n := (ss_N s.2.2.2.1 0)) (sv_d k_La_law_896 15 rfl) kd0 (ss_lt (by decide)) rfl ?_
  refine sv_aload_n (pc := 912) 0 (sv_d k_La_law_896 16 rfl) rfl rfl ?_
  refine sv_iload_n (pc := 913) 3 (sv_d k_La_law_896 17 rfl) rfl rfl ?_
  refine sv_iconst (pc := 914) (v := (4 : Int32)) (sv_d k_La_law_896 18 rfl) (by decide) ?_
  refine sv_iadd (pc := 915) (sv_d k_La_law_896 19 rfl) ?_
  refine ss_iald (pc := 916) (n := (ss_N s.2.2.2.1 0)) (sv_d k_La_law_896 20 rfl) kd0 (ss_lt (by decide)) rfl ?_
  refine sv_aload_n (pc := 917) 0 (sv_d k_La_law_896 21 rfl) rfl rfl ?_
  refine sv_iload_n (pc := 918) 3 (sv_d k_La_law_896 22 rfl) rfl rfl ?_
  refine sv_iconst (pc := 919) (v := (5 : Int32)) (sv_d k_La_law_896 23 rfl) (by decide) ?_
  refine sv_iadd (pc := 920) (sv_d k_La_law_896 24 rfl) ?_
  refine ss_iald (pc := 921) (n := (ss_N s.2.2.2.1 0)) (sv_d k_La_law_896 25 rfl) kd0 (ss_lt (by decide)) rfl ?_
  refine sv_callV (pc := 922) (ψ := ss_i) (As := [.int (s.1 0 (x3 + (1 : Int32)).toNatClampNeg), .int (s.1 0 (x3 + (2 : Int32)).toNatClampNeg), .int (s.1 0 (x3 + (3 : Int32)).toNatClampNeg), .int (s.1 0 (x3 + (4 : Int32)).toNatClampNeg), .int (s.1 0 (x3 + (5 : Int32)).toNatClampNeg)]) (rest := []) (c := 64) (sv_d k_La_law_896 26 rfl) g_X_truck w931 in_X_truck se_X_truck cf11 kd64 (ss_lt (by decide)) rfl (Nat.le_of_ble_eq_true rfl) (V_X_truck E (d + 80) (s.1 0 (x3 + (1 : Int32)).toNatClampNeg) (s.1 0 (x3 + (2 : Int32)).toNatClampNeg) (s.1 0 (x3 + (3 : Int32)).toNatClampNeg) (s.1 0 (x3 + (4 : Int32)).toNatClampNeg) (s.1 0 (x3 + (5 : Int32)).toNatClampNeg) s) (Nat.le_of_ble_eq_true rfl) rfl (fun r51 => ?_)
  show sv_V E _ _ _ 925 _ [.int r51.1] (ss_e r51.2) _
  refine sv_aload_n (pc := 925) 2 (sv_d k_La_law_896 27 rfl) rfl rfl ?_
  refine sv_aload_n (pc := 926) 0 (sv_d k_La_law_896 28 rfl) rfl rfl ?_
  refine sv_iload_n (pc := 927) 3 (sv_d k_La_law_896 29 rfl) rfl rfl ?_
  refine sv_iconst (pc := 928) (v := (1 : Int32)) (sv_d k_La_law_896 30 rfl) (by decide) ?_
  refine sv_iadd (pc := 929) (sv_d k_La_law_896 31 rfl) ?_
  refine ss_iald (pc := 930) (n := (ss_N r51.2.2.2.2.1 0)) (sv_d k_La_law_896 32 rfl) kd0 (ss_lt (by decide)) rfl ?_
  refine sv_aload_n (pc := 931) 0 (sv_d k_La_law_896 33 rfl) rfl rfl ?_
  refine sv_iload_n (pc := 932) 3 (sv_d k_La_law_896 34 rfl) rfl rfl ?_
  refine sv_iconst (pc := 933) (v := (2 : Int32)) (sv_d k_La_law_896 35 rfl) (by decide) ?_
  refine sv_iadd (pc := 934) (sv_d k_La_law_896 36 rfl) ?_
  refine ss_iald (pc := 935) (n := (ss_N r51.2.2.2.2.1 0)) (sv_d k_La_law_896 37 rfl) kd0 (ss_lt (by decide)) rfl ?_
  refine sv_aload_n (pc := 936) 0 (sv_d k_La_law_896 38 rfl) rfl rfl ?_
  refine sv_iload_n (pc := 937) 3 (sv_d k_La_law_896 39 rfl) rfl rfl ?_
  refine sv_iconst (pc := 938) (v := (3 : Int32)) (sv_d k_La_law_896 40 rfl) (by decide) ?_
  refine sv_iadd (pc := 939) (sv_d k_La_law_896 41 rfl) ?_
  refine ss_iald (pc := 940) (n := (ss_N r51.2.2.2.2.1 0)) (sv_d k_La_law_896 42 rfl) kd0 (ss_lt (by decide)) rfl ?_
  refine sv_aload_n (pc := 941) 0 (sv_d k_La_law_896 43 rfl) rfl rfl ?_
  refine sv_iload_n (pc := 942) 3 (sv_d k_La_law_896 44 rfl) rfl rfl ?_
  refine sv_iconst (pc := 943) (v := (4 : Int32)) (sv_d k_La_law_896 45 rfl) (by decide) ?_
  refine sv_iadd (pc := 944) (sv_d k_La_law_896 46 rfl) ?_
  refine ss_iald (pc := 945) (n := (ss_N r51.2.2.2.2.1 0)) (sv_d k_La_law_896 47 rfl) kd0 (ss_lt (by decide)) rfl ?_
  refine sv_aload_n (pc := 946) 0 (sv_d k_La_law_896 48 rfl) rfl rfl ?_
  refine sv_iload_n (pc := 947) 3 (sv_d k_La_law_896 49 rfl) rfl rfl ?_
  refine sv_iconst (pc := 948) (v := (5 : Int32)) (sv_d k_La_law_896 50 rfl) (by decide) ?_
  refine sv_iadd (pc := 949) (sv_d k_La_law_896 51 rfl) ?_
  refine ss_iald (pc := 950) (n := (ss_N r51.2.2.2.2.1 0)) (sv_d k_La_law_896 52 rfl) kd0 (ss_lt (by decide)) rfl ?_
  refine sv_callV (pc := 951) (ψ := ss_i) (As := [.int (r51.2.1 0 (x3 + (1 : Int32)).toNatClampNeg), .int (r51.2.1 0 (x3 + (2 : Int32)).toNatClampNeg), .int (r51.2.1 0 (x3 + (3 : Int32)).toNatClampNeg), .int (r51.2.1 0 (x3 + (4 : Int32)).toNatClampNeg), .int (r51.2.1 0 (x3 + (5 : Int32)).toNatClampNeg)]) (rest := [.int r51.1]) (c := 187) (sv_d k_La_law_896 53 rfl) g_Mo_truck w1754 in_Mo_truck se_Mo_truck cf12 kd187 (ss_lt (by decide)) rfl (Nat.le_of_ble_eq_true rfl) (V_Mo_truck E (d + 80) (r51.2.1 0 (x3 + (1 : Int32)).toNatClampNeg) (r51.2.1 0 (x3 + (2 : Int32)).toNatClampNeg) (r51.2.1 0 (x3 + (3 : Int32)).toNatClampNeg) (r51.2.1 0 (x3 + (4 : Int32)).toNatClampNeg) (r51.2.1 0 (x3 + (5 : Int32)).toNatClampNeg) r51.2) (Nat.le_of_ble_eq_true rfl) rfl (fun r52 => ?_)
  show sv_V E _ _ _ 954 _ [.int r52.1, .int r51.1] (ss_e r52.2) _
  refine sv_icmp_eq (pc := 954) (tgt := 1919) (sv_d k_La_law_896 54 rfl) (by decide) ?_ ?_
  · exact sv_loc [0, 1, 2, 3] rfl (V_La_law_b1919 E d kc18 hc18 x3 r52.2)
  · refine sv_iconst (pc := 957) (v := (0 : Int32)) (sv_d k_La_law_896 55 rfl) (by decide) ?_
    exact sv_ret (pc := 958) (sv_d k_La_law_896 56 rfl) ⟨_, rfl, rfl⟩ rfl
noncomputable def F_La_law_b959 (kc18 : Int32 → sv_S → Option (Int32 × sv_S)) (x3 : Int32) (s : sv_S) : Option (Int32 × sv_S) :=
  if sv_ib (x3 + (1 : Int32)) (ss_N s.2.2.2.1 0) = true then
    if sv_ib (x3 + (2 : Int32)) (ss_N s.2.2.2.1 0) = true then
      if sv_ib (x3 + (3 : Int32)) (ss_N s.2.2.2.1 0) = true then
        (F_X_book (s.1 0 (x3 + (1 : Int32)).toNatClampNeg) (s.1 0 (x3 + (2 : Int32)).toNatClampNeg) (s.1 0 (x3 + (3 : Int32)).toNatClampNeg) s).bind fun r54 =>
        if sv_ib (x3 + (1 : Int32)) (ss_N r54.2.2.2.2.1 0) = true then
          if sv_ib (x3 + (2 : Int32)) (ss_N r54.2.2.2.2.1 0) = true then
            if sv_ib (x3 + (3 : Int32)) (ss_N r54.2.2.2.2.1 0) = true then
              (F_Mo_book (r54.2.1 0 (x3 + (1 : Int32)).toNatClampNeg) (r54.2.1 0 (x3 + (2 : Int32)).toNatClampNeg) (r54.2.1 0 (x3 + (3 : Int32)).toNatClampNeg) r54.2).bind fun r55 =>
              if r54.1 = r55.1 then
                F_La_law_b1919 kc18 x3 r55.2
              else
              some ((0 : Int32), r55.2)
            else none
          else none
        else none
      else none
    else none
  else none
theorem V_La_law_b959 (E : sv_E) (d : Nat) (kc18 : Int32 → sv_S → Option (Int32 × sv_S)) (hc18 : ∀ (x3 : Int32) (s : sv_S), sv_V E m_La_law (d + 83) ss_i 18 [(0, sv_r E 0), (1, sv_r E 64), (2, sv_r E 187), (3, .int x3)] [] (ss_e s) (kc18 x3 s)) (x3 : Int32) (s : sv_S) : sv_V E m_La_law (d + 83) ss_i 959 [(0, sv_r E 0), (1, sv_r E 64), (2, sv_r E 187), (3, .int x3)] [] (ss_e s) (F_La_law_b959 kc18 x3 s) := by
  unfold F_La_law_b959
  refine sv_aload_n (pc := 959) 1 (sv_d k_La_law_959 0 rfl) rfl rfl ?_
  refine sv_aload_n (pc := 960) 0 (sv_d k_La_law_959 1 rfl) rfl rfl ?_
  refine sv_iload_n (pc := 961) 3 (sv_d k_La_law_959 2 rfl) rfl rfl ?_
  refine sv_iconst (pc := 962) (v := (1 : Int32)) (sv_d k_La_law_959 3 rfl) (by decide) ?_
  refine sv_iadd (pc := 963) (sv_d k_La_law_959 4 rfl) ?_
  refine ss_iald (pc := 964) (n := (ss_N s.2.2.2.1 0)) (sv_d k_La_law_959 5 rfl) kd0 (ss_lt (by decide)) rfl ?_
  refine sv_aload_n (pc := 965) 0 (sv_d k_La_law_959 6 rfl) rfl rfl ?_
  refine sv_iload_n (pc := 966) 3 (sv_d k_La_law_959 7 rfl) rfl rfl ?_
  refine sv_iconst (pc := 967) (v := (2 : Int32)) (sv_d k_La_law_959 8 rfl) (by decide) ?_
  refine sv_iadd (pc := 968) (sv_d k_La_law_959 9 rfl) ?_
  refine ss_iald (pc := 969) (n := (ss_N s.2.2.2.1 0)) (sv_d k_La_law_959 10 rfl) kd0 (ss_lt (by decide)) rfl ?_
  refine sv_aload_n (pc := 970) 0 (sv_d k_La_law_959 11 rfl) rfl rfl ?_
  refine sv_iload_n (pc := 971) 3 (sv_d k_La_law_959 12 rfl) rfl rfl ?_
  refine sv_iconst (pc := 972) (v := (3 : Int32)) (sv_d k_La_law_959 13 rfl) (by decide) ?_
  refine sv_iadd (pc := 973) (sv_d k_La_law_959 14 rfl) ?_
  refine ss_iald (pc := 974) (n := (ss_N s.2.2.2.1 0)) (sv_d k_La_law_959 15 rfl) kd0 (ss_lt (by decide)) rfl ?_
  refine sv_callV (pc := 975) (ψ := ss_i) (As := [.int (s.1 0 (x3 + (1 : Int32)).toNatClampNeg), .int (s.1 0 (x3 + (2 : Int32)).toNatClampNeg), .int (s.1 0 (x3 + (3 : Int32)).toNatClampNeg)]) (rest := []) (c := 64) (sv_d k_La_law_959 16 rfl) g_X_book w948 in_X_book se_X_book cf11 kd64 (ss_lt (by decide)) rfl (Nat.le_of_ble_eq_true rfl) (V_X_book E (d + 79) (s.1 0 (x3 + (1 : Int32)).toNatClampNeg) (s.1 0 (x3 + (2 : Int32)).toNatClampNeg) (s.1 0 (x3 + (3 : Int32)).toNatClampNeg) s) (Nat.le_of_ble_eq_true rfl) rfl (fun r54 => ?_)
  show sv_V E _ _ _ 978 _ [.int r54.1] (ss_e r54.2) _
  refine sv_aload_n (pc := 978) 2 (sv_d k_La_law_959 17 rfl) rfl rfl ?_
  refine sv_aload_n (pc := 979) 0 (sv_d k_La_law_959 18 rfl) rfl rfl ?_
  refine sv_iload_n (pc := 980) 3 (sv_d k_La_law_959 19 rfl) rfl rfl ?_
  refine sv_iconst (pc := 981) (v := (1 : Int32)) (sv_d k_La_law_959 20 rfl) (by decide) ?_
  refine sv_iadd (pc := 982) (sv_d k_La_law_959 21 rfl) ?_
  refine ss_iald (pc := 983) (n := (ss_N r54.2.2.2.2.1 0)) (sv_d k_La_law_959 22 rfl) kd0 (ss_lt (by decide)) rfl ?_
  refine sv_aload_n (pc := 984) 0 (sv_d k_La_law_959 23 rfl) rfl rfl ?_
  refine sv_iload_n (pc := 985) 3 (sv_d k_La_law_959 24 rfl) rfl rfl ?_
  refine sv_iconst (pc := 986) (v := (2 : Int32)) (sv_d k_La_law_959 25 rfl) (by decide) ?_
  refine sv_iadd (pc := 987) (sv_d k_La_law_959 26 rfl) ?_
  refine ss_iald (pc := 988) (n := (ss_N r54.2.2.2.2.1 0)) (sv_d k_La_law_959 27 rfl) kd0 (ss_lt (by decide)) rfl ?_
  refine sv_aload_n (pc := 989) 0 (sv_d k_La_law_959 28 rfl) rfl rfl ?_
  refine sv_iload_n (pc := 990) 3 (sv_d k_La_law_959 29 rfl) rfl rfl ?_
  refine sv_iconst (pc := 991) (v := (3 : Int32)) (sv_d k_La_law_959 30 rfl) (by decide) ?_
  refine sv_iadd (pc := 992) (sv_d k_La_law_959 31 rfl) ?_
  refine ss_iald (pc := 993) (n := (ss_N r54.2.2.2.2.1 0)) (sv_d k_La_law_959 32 rfl) kd0 (ss_lt (by decide)) rfl ?_
  refine sv_callV (pc := 994) (ψ := ss_i) (As := [.int (r54.2.1 0 (x3 + (1 : Int32)).toNatClampNeg), .int (r54.2.1 0 (x3 + (2 : Int32)).toNatClampNeg), .int (r54.2.1 0 (x3 + (3 : Int32)).toNatClampNeg)]) (rest := [.int r54.1]) (c := 187) (sv_d k_La_law_959 33 rfl) g_Mo_book w1759 in_Mo_book se_Mo_book cf12 kd187 (ss_lt (by decide)) rfl (Nat.le_of_ble_eq_true rfl) (V_Mo_book E (d + 79) (r54.2.1 0 (x3 + (1 : Int32)).toNatClampNeg) (r54.2.1 0 (x3 + (2 : Int32)).toNatClampNeg) (r54.2.1 0 (x3 + (3 : Int32)).toNatClampNeg) r54.2) (Nat.le_of_ble_eq_true rfl) rfl (fun r55 => ?_)
  show sv_V E _ _ _ 997 _ [.int r55.1, .int r54.1] (ss_e r55.2) _
  refine sv_icmp_eq (pc := 997) (tgt := 1919) (sv_d k_La_law_959 34 rfl) (by decide) ?_ ?_
  · exact sv_loc [0, 1, 2, 3] rfl (V_La_law_b1919 E d kc18 hc18 x3 r55.2)
  · refine sv_iconst (pc := 1000) (v := (0 : Int32)) (sv_d k_La_law_959 35 rfl) (by decide) ?_
    exact sv_ret (pc := 1001) (sv_d k_La_law_959 36 rfl) ⟨_, rfl, rfl⟩ rfl
noncomputable def F_La_law_b1002 (kc18 : Int32 → sv_S → Option (Int32 × sv_S)) (x3 : Int32) (s : sv_S) : Option (Int32 × sv_S) :=
  (F_X_ended s).bind fun r57 =>
  (F_Mo_ended s).bind fun r58 =>
  if r57 = r58 then
    F_La_law_b1919 kc18 x3 s
  else
  some ((0 : Int32), s)
theorem V_La_law_b1002 (E : sv_E) (d : Nat) (kc18 : Int32 → sv_S → Option (Int32 × sv_S)) (hc18 : ∀ (x3 : Int32) (s : sv_S), sv_V E m_La_law (d + 83) ss_i 18 [(0, sv_r E 0), (1, sv_r E 64), (2, sv_r E 187), (3, .int x3)] [] (ss_e s) (kc18 x3 s)) (x3 : Int32) (s : sv_S) : sv_V E m_La_law (d + 83) ss_i 1002 [(0, sv_r E 0), (1, sv_r E 64), (2, sv_r E 187), (3, .int x3)] [] (ss_e s) (F_La_law_b1002 kc18 x3 s) := by
  unfold F_La_law_b1002
  refine sv_aload_n (pc := 1002) 1 (sv_d k_La_law_1002 0 rfl) rfl rfl ?_
  refine sv_callV (pc := 1003) (ψ := (ss_pi s)) (As := []) (rest := []) (c := 64) (sv_d k_La_law_1002 1 rfl) g_X_ended w960 in_X_ended se_X_ended cf11 kd64 (ss_lt (by decide)) rfl (Nat.le_of_ble_eq_true rfl) (V_X_ended E (d + 82) s) (Nat.le_of_ble_eq_true rfl) rfl (fun r57 => ?_)
  show sv_V E _ _ _ 1006 _ [.int r57] (ss_e s) _
  refine sv_aload_n (pc := 1006) 2 (sv_d k_La_law_1002 2 rfl) rfl rfl ?_
  refine sv_callV (pc := 1007) (ψ := (ss_pi s)) (As := []) (rest := [.int r57]) (c := 187) (sv_d k_La_law_1002 3 rfl) g_Mo_ended w1768 in_Mo_ended se_Mo_ended cf12 kd187 (ss_lt (by decide)) rfl (Nat.le_of_ble_eq_true rfl) (V_Mo_ended E (d + 82) s) (Nat.le_of_ble_eq_true rfl) rfl (fun r58 => ?_)
  show sv_V E _ _ _ 1010 _ [.int r58, .int r57] (ss_e s) _
  refine sv_icmp_eq (pc := 1010) (tgt := 1919) (sv_d k_La_law_1002 4 rfl) (by decide) ?_ ?_
  · exact sv_loc [0, 1, 2, 3] rfl (V_La_law_b1919 E d kc18 hc18 x3 s)
  · refine sv_iconst (pc := 1013) (v := (0 : Int32)) (sv_d k_La_law_1002 5 rfl) (by decide) ?_
    exact sv_ret (pc := 1014) (sv_d k_La_law_1002 6 rfl) ⟨_, rfl, rfl⟩ rfl
noncomputable def F_La_law_b1015 (kc18 : Int32 → sv_S → Option (Int32 × sv_S)) (x3 : Int32) (s : sv_S) : Option (Int32 × sv_S) :=
  if sv_ib (x3 + (1 : Int32)) (ss_N s.2.2.2.1 0) = true then
    (F_X_due (s.1 0 (x3 + (1 : Int32)).toNatClampNeg) s).bind fun r60 =>
    if sv_ib (x3 + (1 : Int32)) (ss_N r60.2.2.2.2.1 0) = true then
      (F_Mo_due (r60.2.1 0 (x3 + (1 : Int32)).toNatClampNeg) r60.2).bind fun r61 =>
      if r60.1 = r61.1 then
        F_La_law_b1919 kc18 x3 r61.2
      else
      some ((0 : Int32), r61.2)
    else none
  else none
theorem V_La_law_b1015 (E : sv_E) (d : Nat) (kc18 : Int32 → sv_S → Option (Int32 × sv_S)) (hc18 : ∀ (x3 : Int32) (s : sv_S), sv_V E m_La_law (d + 83) ss_i 18 [(0, sv_r E 0), (1, sv_r E 64), (2, sv_r E 187), (3, .int x3)] [] (ss_e s) (kc18 x3 s)) (x3 : Int32) (s : sv_S) : sv_V E m_La_law (d + 83) ss_i 1015 [(0, sv_r E 0), (1, sv_r E 64), (2, sv_r E 187), (3, .int x3)] [] (ss_e s) (F_La_law_b1015 kc18 x3 s) := by
  unfold F_La_law_b1015
  refine sv_aload_n (pc := 1015) 1 (sv_d k_La_law_1015 0 rfl) rfl rfl ?_
  refine sv_aload_n (pc := 1016) 0 (sv_d k_La_law_1015 1 rfl) rfl rfl ?_
  refine sv_iload_n (pc := 1017) 3 (sv_d k_La_law_1015 2 rfl) rfl rfl ?_
  refine sv_iconst (pc := 1018) (v := (1 : Int32)) (sv_d k_La_law_1015 3 rfl) (by decide) ?_
  refine sv_iadd (pc := 1019) (sv_d k_La_law_1015 4 rfl) ?_
  refine ss_iald (pc := 1020) (n := (ss_N s.2.2.2.1 0)) (sv_d k_La_law_1015 5 rfl) kd0 (ss_lt (by decide)) rfl ?_
  refine sv_callV (pc := 1021) (ψ := ss_i) (As := [.int (s.1 0 (x3 + (1 : Int32)).toNatClampNeg)]) (rest := []) (c := 64) (sv_d k_La_law_1015 6 rfl) g_X_due w964 in_X_due se_X_due cf11 kd64 (ss_lt (by decide)) rfl (Nat.le_of_ble_eq_true rfl) (V_X_due E (d + 78) (s.1 0 (x3 + (1 : Int32)).toNatClampNeg) s) (Nat.le_of_ble_eq_true rfl) rfl (fun r60 => ?_)
  show sv_V E _ _ _ 1024 _ [.int r60.1] (ss_e r60.2) _
  refine sv_aload_n (pc := 1024) 2 (sv_d k_La_law_1015 7 rfl) rfl rfl ?_
  refine sv_aload_n (pc := 1025) 0 (sv_d k_La_law_1015 8 rfl) rfl rfl ?_
  refine sv_iload_n (pc := 1026) 3 (sv_d k_La_law_1015 9 rfl) rfl rfl ?_
  refine sv_iconst (pc := 1027) (v := (1 : Int32)) (sv_d k_La_law_1015 10 rfl) (by decide) ?_
  refine sv_iadd (pc := 1028) (sv_d k_La_law_1015 11 rfl) ?_
  refine ss_iald (pc := 1029) (n := (ss_N r60.2.2.2.2.1 0)) (sv_d k_La_law_1015 12 rfl) kd0 (ss_lt (by decide)) rfl ?_
  refine sv_callV (pc := 1030) (ψ := ss_i) (As := [.int (r60.2.1 0 (x3 + (1 : Int32)).toNatClampNeg)]) (rest := [.int r60.1]) (c := 187) (sv_d k_La_law_1015 13 rfl) g_Mo_due w1772 in_Mo_due se_Mo_due cf12 kd187 (ss_lt (by decide)) rfl (Nat.le_of_ble_eq_true rfl) (V_Mo_due E (d + 72) (r60.2.1 0 (x3 + (1 : Int32)).toNatClampNeg) r60.2) (Nat.le_of_ble_eq_true rfl) rfl (fun r61 => ?_)
  show sv_V E _ _ _ 1033 _ [.int r61.1, .int r60.1] (ss_e r61.2) _
  refine sv_icmp_eq (pc := 1033) (tgt := 1919) (sv_d k_La_law_1015 14 rfl) (by decide) ?_ ?_
  · exact sv_loc [0, 1, 2, 3] rfl (V_La_law_b1919 E d kc18 hc18 x3 r61.2)
  · refine sv_iconst (pc := 1036) (v := (0 : Int32)) (sv_d k_La_law_1015 15 rfl) (by decide) ?_
    exact sv_ret (pc := 1037) (sv_d k_La_law_1015 16 rfl) ⟨_, rfl, rfl⟩ rfl
noncomputable def F_La_law_b1038 (kc18 : Int32 → sv_S → Option (Int32 × sv_S)) (x3 : Int32) (s : sv_S) : Option (Int32 × sv_S) :=
  if sv_ib (x3 + (1 : Int32)) (ss_N s.2.2.2.1 0) = true then
    if sv_ib (x3 + (2 : Int32)) (ss_N s.2.2.2.1 0) = true then
      if sv_ib (x3 + (3 : Int32)) (ss_N s.2.2.2.1 0) = true then
        (F_X_unlike (s.1 0 (x3 + (1 : Int32)).toNatClampNeg) (s.1 0 (x3 + (2 : Int32)).toNatClampNeg) (s.1 0 (x3 + (3 : Int32)).toNatClampNeg) s).bind fun r63 =>
        if sv_ib (x3 + (1 : Int32)) (ss_N r63.2.2.2.2.1 0) = true then
          if sv_ib (x3 + (2 : Int32)) (ss_N r63.2.2.2.2.1 0) = true then
            if sv_ib (x3 + (3 : Int32)) (ss_N r63.2.2.2.2.1 0) = true then
              (F_Mo_unlike (r63.2.1 0 (x3 + (1 : Int32)).toNatClampNeg) (r63.2.1 0 (x3 + (2 : Int32)).toNatClampNeg) (r63.2.1 0 (x3 + (3 : Int32)).toNatClampNeg) r63.2).bind fun r64 =>
              if r63.1 = r64.1 then
                F_La_law_b1919 kc18 x3 r64.2
              else
              some ((0 : Int32), r64.2)
            else none
          else none
        else none
      else none
    else none
  else none
theorem V_La_law_b1038 (E : sv_E) (d : Nat) (kc18 : Int32 → sv_S → Option (Int32 × sv_S)) (hc18 : ∀ (x3 : Int32) (s : sv_S), sv_V E m_La_law (d + 83) ss_i 18 [(0, sv_r E 0), (1, sv_r E 64), (2, sv_r E 187), (3, .int x3)] [] (ss_e s) (kc18 x3 s)) (x3 : Int32) (s : sv_S) : sv_V E m_La_law (d + 83) ss_i 1038 [(0, sv_r E 0), (1, sv_r E 64), (2, sv_r E 187), (3, .int x3)] [] (ss_e s) (F_La_law_b1038 kc18 x3 s) := by
  unfold F_La_law_b1038
  refine sv_aload_n (pc := 1038) 1 (sv_d k_La_law_1038 0 rfl) rfl rfl ?_
  refine sv_aload_n (pc := 1039) 0 (sv_d k_La_law_1038 1 rfl) rfl rfl ?_
  refine sv_iload_n (pc := 1040) 3 (sv_d k_La_law_1038 2 rfl) rfl rfl ?_
  refine sv_iconst (pc := 1041) (v := (1 : Int32)) (sv_d k_La_law_1038 3 rfl) (by decide) ?_
  refine sv_iadd (pc := 1042) (sv_d k_La_law_1038 4 rfl) ?_
  refine ss_iald (pc := 1043) (n := (ss_N s.2.2.2.1 0)) (sv_d k_La_law_1038 5 rfl) kd0 (ss_lt (by decide)) rfl ?_
  refine sv_aload_n (pc := 1044) 0 (sv_d k_La_law_1038 6 rfl) rfl rfl ?_
  refine sv_iload_n (pc := 1045) 3 (sv_d k_La_law_1038 7 rfl) rfl rfl ?_
  refine sv_iconst (pc := 1046) (v := (2 : Int32)) (sv_d k_La_law_1038 8 rfl) (by decide) ?_
  refine sv_iadd (pc := 1047) (sv_d k_La_law_1038 9 rfl) ?_
  refine ss_iald (pc := 1048) (n := (ss_N s.2.2.2.1 0)) (sv_d k_La_law_1038 10 rfl) kd0 (ss_lt (by decide)) rfl ?_
  refine sv_aload_n (pc := 1049) 0 (sv_d k_La_law_1038 11 rfl) rfl rfl ?_
  refine sv_iload_n (pc := 1050) 3 (sv_d k_La_law_1038 12 rfl) rfl rfl ?_
  refine sv_iconst (pc := 1051) (v := (3 : Int32)) (sv_d k_La_law_1038 13 rfl) (by decide) ?_
  refine sv_iadd (pc := 1052) (sv_d k_La_law_1038 14 rfl) ?_
  refine ss_iald (pc := 1053) (n := (ss_N s.2.2.2.1 0)) (sv_d k_La_law_1038 15 rfl) kd0 (ss_lt (by decide)) rfl ?_
  refine sv_callV (pc := 1054) (ψ := ss_i) (As := [.int (s.1 0 (x3 + (1 : Int32)).toNatClampNeg), .int (s.1 0 (x3 + (2 : Int32)).toNatClampNeg), .int (s.1 0 (x3 + (3 : Int32)).toNatClampNeg)]) (rest := []) (c := 64) (sv_d k_La_law_1038 16 rfl) g_X_unlike w982 in_X_unlike se_X_unlike cf11 kd64 (ss_lt (by decide)) rfl (Nat.le_of_ble_eq_true rfl) (V_X_unlike E (d + 77) (s.1 0 (x3 + (1 : Int32)).toNatClampNeg) (s.1 0 (x3 + (2 : Int32)).toNatClampNeg) (s.1 0 (x3 + (3 : Int32)).toNatClampNeg) s) (Nat.le_of_ble_eq_true rfl) rfl (fun r63 => ?_)
  show sv_V E _ _ _ 1057 _ [.int r63.1] (ss_e r63.2) _
  refine sv_aload_n (pc := 1057) 2 (sv_d k_La_law_1038 17 rfl) rfl rfl ?_
  refine sv_aload_n (pc := 1058) 0 (sv_d k_La_law_1038 18 rfl) rfl rfl ?_
  refine sv_iload_n (pc := 1059) 3 (sv_d k_La_law_1038 19 rfl) rfl rfl ?_
  refine sv_iconst (pc := 1060) (v := (1 : Int32)) (sv_d k_La_law_1038 20 rfl) (by decide) ?_
  refine sv_iadd (pc := 1061) (sv_d k_La_law_1038 21 rfl) ?_
  refine ss_iald (pc := 1062) (n := (ss_N r63.2.2.2.2.1 0)) (sv_d k_La_law_1038 22 rfl) kd0 (ss_lt (by decide)) rfl ?_
  refine sv_aload_n (pc := 1063) 0 (sv_d k_La_law_1038 23 rfl) rfl rfl ?_
  refine sv_iload_n (pc := 1064) 3 (sv_d k_La_law_1038 24 rfl) rfl rfl ?_
  refine sv_iconst (pc := 1065) (v := (2 : Int32)) (sv_d k_La_law_1038 25 rfl) (by decide) ?_
  refine sv_iadd (pc := 1066) (sv_d k_La_law_1038 26 rfl) ?_
  refine ss_iald (pc := 1067) (n := (ss_N r63.2.2.2.2.1 0)) (sv_d k_La_law_1038 27 rfl) kd0 (ss_lt (by decide)) rfl ?_
  refine sv_aload_n (pc := 1068) 0 (sv_d k_La_law_1038 28 rfl) rfl rfl ?_
  refine sv_iload_n (pc := 1069) 3 (sv_d k_La_law_1038 29 rfl) rfl rfl ?_
  refine sv_iconst (pc := 1070) (v := (3 : Int32)) (sv_d k_La_law_1038 30 rfl) (by decide) ?_
  refine sv_iadd (pc := 1071) (sv_d k_La_law_1038 31 rfl) ?_
  refine ss_iald (pc := 1072) (n := (ss_N r63.2.2.2.2.1 0)) (sv_d k_La_law_1038 32 rfl) kd0 (ss_lt (by decide)) rfl ?_
  refine sv_callV (pc := 1073) (ψ := ss_i) (As := [.int (r63.2.1 0 (x3 + (1 : Int32)).toNatClampNeg), .int (r63.2.1 0 (x3 + (2 : Int32)).toNatClampNeg), .int (r63.2.1 0 (x3 + (3 : Int32)).toNatClampNeg)]) (rest := [.int r63.1]) (c := 187) (sv_d k_La_law_1038 33 rfl) g_Mo_unlike w1784 in_Mo_unlike se_Mo_unlike cf12 kd187 (ss_lt (by decide)) rfl (Nat.le_of_ble_eq_true rfl) (V_Mo_unlike E (d + 71) (r63.2.1 0 (x3 + (1 : Int32)).toNatClampNeg) (r63.2.1 0 (x3 + (2 : Int32)).toNatClampNeg) (r63.2.1 0 (x3 + (3 : Int32)).toNatClampNeg) r63.2) (Nat.le_of_ble_eq_true rfl) rfl (fun r64 => ?_)
  show sv_V E _ _ _ 1076 _ [.int r64.1, .int r63.1] (ss_e r64.2) _
  refine sv_icmp_eq (pc := 1076) (tgt := 1919) (sv_d k_La_law_1038 34 rfl) (by decide) ?_ ?_
  · exact sv_loc [0, 1, 2, 3] rfl (V_La_law_b1919 E d kc18 hc18 x3 r64.2)
  · refine sv_iconst (pc := 1079) (v := (0 : Int32)) (sv_d k_La_law_1038 35 rfl) (by decide) ?_
    exact sv_ret (pc := 1080) (sv_d k_La_law_1038 36 rfl) ⟨_, rfl, rfl⟩ rfl
noncomputable def F_La_law_b1081 (kc18 : Int32 → sv_S → Option (Int32 × sv_S)) (x3 : Int32) (s : sv_S) : Option (Int32 × sv_S) :=
  if sv_ib (x3 + (1 : Int32)) (ss_N s.2.2.2.1 0) = true then
    (F_X_unlikes (s.1 0 (x3 + (1 : Int32)).toNatClampNeg) s).bind fun r66 =>
    if sv_ib (x3 + (1 : Int32)) (ss_N r66.2.2.2.2.1 0) = true then
      (F_Mo_unlikes (r66.2.1 0 (x3 + (1 : Int32)).toNatClampNeg) r66.2).bind fun r67 =>
      if r66.1 = r67.1 then
        F_La_law_b1919 kc18 x3 r67.2
      else
      some ((0 : Int32), r67.2)
    else none
  else none
theorem V_La_law_b1081 (E : sv_E) (d : Nat) (kc18 : Int32 → sv_S → Option (Int32 × sv_S)) (hc18 : ∀ (x3 : Int32) (s : sv_S), sv_V E m_La_law (d + 83) ss_i 18 [(0, sv_r E 0), (1, sv_r E 64), (2, sv_r E 187), (3, .int x3)] [] (ss_e s) (kc18 x3 s)) (x3 : Int32) (s : sv_S) : sv_V E m_La_law (d + 83) ss_i 1081 [(0, sv_r E 0), (1, sv_r E 64), (2, sv_r E 187), (3, .int x3)] [] (ss_e s) (F_La_law_b1081 kc18 x3 s) := by
  unfold F_La_law_b1081
  refine sv_aload_n (pc := 1081) 1 (sv_d k_La_law_1081 0 rfl) rfl rfl ?_
  refine sv_aload_n (pc := 1082) 0 (sv_d k_La_law_1081 1 rfl) rfl rfl ?_
  refine sv_iload_n (pc := 1083) 3 (sv_d k_La_law_1081 2 rfl) rfl rfl ?_
  refine sv_iconst (pc := 1084) (v := (1 : Int32)) (sv_d k_La_law_1081 3 rfl) (by decide) ?_
  refine sv_iadd (pc := 1085) (sv_d k_La_law_1081 4 rfl) ?_
  refine ss_iald (pc := 1086) (n := (ss_N s.2.2.2.1 0)) (sv_d k_La_law_1081 5 rfl) kd0 (ss_lt (by decide)) rfl ?_
  refine sv_callV (pc := 1087) (ψ := ss_i) (As := [.int (s.1 0 (x3 + (1 : Int32)).toNatClampNeg)]) (rest := []) (c := 64) (sv_d k_La_law_1081 6 rfl) g_X_unlikes w1020 in_X_unlikes se_X_unlikes cf11 kd64 (ss_lt (by decide)) rfl (Nat.le_of_ble_eq_true rfl) (V_X_unlikes E (d + 76) (s.1 0 (x3 + (1 : Int32)).toNatClampNeg) s) (Nat.le_of_ble_eq_true rfl) rfl (fun r66 => ?_)
  show sv_V E _ _ _ 1090 _ [.int r66.1] (ss_e r66.2) _
  refine sv_aload_n (pc := 1090) 2 (sv_d k_La_law_1081 7 rfl) rfl rfl ?_
  refine sv_aload_n (pc := 1091) 0 (sv_d k_La_law_1081 8 rfl) rfl rfl ?_
  refine sv_iload_n (pc := 1092) 3 (sv_d k_La_law_1081 9 rfl) rfl rfl ?_
  refine sv_iconst (pc := 1093) (v := (1 : Int32)) (sv_d k_La_law_1081 10 rfl) (by decide) ?_
  refine sv_iadd (pc := 1094) (sv_d k_La_law_1081 11 rfl) ?_
  refine ss_iald (pc := 1095) (n := (ss_N r66.2.2.2.2.1 0)) (sv_d k_La_law_1081 12 rfl) kd0 (ss_lt (by decide)) rfl ?_
  refine sv_callV (pc := 1096) (ψ := ss_i) (As := [.int (r66.2.1 0 (x3 + (1 : Int32)).toNatClampNeg)]) (rest := [.int r66.1]) (c := 187) (sv_d k_La_law_1081 13 rfl) g_Mo_unlikes w1804 in_Mo_unlikes se_Mo_unlikes cf12 kd187 (ss_lt (by decide)) rfl (Nat.le_of_ble_eq_true rfl) (V_Mo_unlikes E (d + 71) (r66.2.1 0 (x3 + (1 : Int32)).toNatClampNeg) r66.2) (Nat.le_of_ble_eq_true rfl) rfl (fun r67 => ?_)
  show sv_V E _ _ _ 1099 _ [.int r67.1, .int r66.1] (ss_e r67.2) _
  refine sv_icmp_eq (pc := 1099) (tgt := 1919) (sv_d k_La_law_1081 14 rfl) (by decide) ?_ ?_
  · exact sv_loc [0, 1, 2, 3] rfl (V_La_law_b1919 E d kc18 hc18 x3 r67.2)
  · refine sv_iconst (pc := 1102) (v := (0 : Int32)) (sv_d k_La_law_1081 15 rfl) (by decide) ?_
    exact sv_ret (pc := 1103) (sv_d k_La_law_1081 16 rfl) ⟨_, rfl, rfl⟩ rfl
noncomputable def F_La_law_b1104 (kc18 : Int32 → sv_S → Option (Int32 × sv_S)) (x3 : Int32) (s : sv_S) : Option (Int32 × sv_S) :=
  if sv_ib (x3 + (1 : Int32)) (ss_N s.2.2.2.1 0) = true then
    (F_X_suit (s.1 0 (x3 + (1 : Int32)).toNatClampNeg) s).bind fun r69 =>
    if sv_ib (x3 + (1 : Int32)) (ss_N r69.2.2.2.2.1 0) = true then
      (F_Mo_suit (r69.2.1 0 (x3 + (1 : Int32)).toNatClampNeg) r69.2).bind fun r70 =>
      if (lg_cmp r69.1 r70.1) = 0 then
        F_La_law_b1919 kc18 x3 r70.2
      else
      some ((0 : Int32), r70.2)
    else none
  else none
theorem V_La_law_b1104 (E : sv_E) (d : Nat) (kc18 : Int32 → sv_S → Option (Int32 × sv_S)) (hc18 : ∀ (x3 : Int32) (s : sv_S), sv_V E m_La_law (d + 83) ss_i 18 [(0, sv_r E 0), (1, sv_r E 64), (2, sv_r E 187), (3, .int x3)] [] (ss_e s) (kc18 x3 s)) (x3 : Int32) (s : sv_S) : sv_V E m_La_law (d + 83) ss_i 1104 [(0, sv_r E 0), (1, sv_r E 64), (2, sv_r E 187), (3, .int x3)] [] (ss_e s) (F_La_law_b1104 kc18 x3 s) := by
  unfold F_La_law_b1104
  refine sv_aload_n (pc := 1104) 1 (sv_d k_La_law_1104 0 rfl) rfl rfl ?_
  refine sv_aload_n (pc := 1105) 0 (sv_d k_La_law_1104 1 rfl) rfl rfl ?_
  refine sv_iload_n (pc := 1106) 3 (sv_d k_La_law_1104 2 rfl) rfl rfl ?_
  refine sv_iconst (pc := 1107) (v := (1 : Int32)) (sv_d k_La_law_1104 3 rfl) (by decide) ?_
  refine sv_iadd (pc := 1108) (sv_d k_La_law_1104 4 rfl) ?_
  refine ss_iald (pc := 1109) (n := (ss_N s.2.2.2.1 0)) (sv_d k_La_law_1104 5 rfl) kd0 (ss_lt (by decide)) rfl ?_
  refine sv_callV (pc := 1110) (ψ := ss_l) (As := [.int (s.1 0 (x3 + (1 : Int32)).toNatClampNeg)]) (rest := []) (c := 64) (sv_d k_La_law_1104 6 rfl) g_X_suit w1033 in_X_suit se_X_suit cf11 kd64 (ss_lt (by decide)) rfl (Nat.le_of_ble_eq_true rfl) (V_X_suit E (d + 76) (s.1 0 (x3 + (1 : Int32)).toNatClampNeg) s) (Nat.le_of_ble_eq_true rfl) rfl (fun r69 => ?_)
  show sv_V E _ _ _ 1113 _ [.long r69.1] (ss_e r69.2) _
  refine sv_aload_n (pc := 1113) 2 (sv_d k_La_law_1104 7 rfl) rfl rfl ?_
  refine sv_aload_n (pc := 1114) 0 (sv_d k_La_law_1104 8 rfl) rfl rfl ?_
  refine sv_iload_n (pc := 1115) 3 (sv_d k_La_law_1104 9 rfl) rfl rfl ?_
  refine sv_iconst (pc := 1116) (v := (1 : Int32)) (sv_d k_La_law_1104 10 rfl) (by decide) ?_
  refine sv_iadd (pc := 1117) (sv_d k_La_law_1104 11 rfl) ?_
  refine ss_iald (pc := 1118) (n := (ss_N r69.2.2.2.2.1 0)) (sv_d k_La_law_1104 12 rfl) kd0 (ss_lt (by decide)) rfl ?_
  refine sv_callV (pc := 1119) (ψ := ss_l) (As := [.int (r69.2.1 0 (x3 + (1 : Int32)).toNatClampNeg)]) (rest := [.long r69.1]) (c := 187) (sv_d k_La_law_1104 13 rfl) g_Mo_suit w1808 in_Mo_suit se_Mo_suit cf12 kd187 (ss_lt (by decide)) rfl (Nat.le_of_ble_eq_true rfl) (V_Mo_suit E (d + 72) (r69.2.1 0 (x3 + (1 : Int32)).toNatClampNeg) r69.2) (Nat.le_of_ble_eq_true rfl) rfl (fun r70 => ?_)
  show sv_V E _ _ _ 1122 _ [.long r70.1, .long r69.1] (ss_e r70.2) _
  refine sv_lcmp (pc := 1122) (sv_d k_La_law_1104 14 rfl) ?_
  refine sv_if_eq (pc := 1123) (tgt := 1919) (sv_d k_La_law_1104 15 rfl) (by decide) ?_ ?_
  · exact sv_loc [0, 1, 2, 3] rfl (V_La_law_b1919 E d kc18 hc18 x3 r70.2)
  · refine sv_iconst (pc := 1126) (v := (0 : Int32)) (sv_d k_La_law_1104 16 rfl) (by decide) ?_
    exact sv_ret (pc := 1127) (sv_d k_La_law_1104 17 rfl) ⟨_, rfl, rfl⟩ rfl
noncomputable def F_La_law_b1128 (kc18 : Int32 → sv_S → Option (Int32 × sv_S)) (x3 : Int32) (s : sv_S) : Option (Int32 × sv_S) :=
  if sv_ib (x3 + (1 : Int32)) (ss_N s.2.2.2.1 0) = true then
    if sv_ib (x3 + (2 : Int32)) (ss_N s.2.2.2.1 0) = true then
      if sv_ib (x3 + (3 : Int32)) (ss_N s.2.2.2.1 0) = true then
        if sv_ib (x3 + (4 : Int32)) (ss_N s.2.2.2.1 0) = true then
          if sv_ib (x3 + (5 : Int32)) (ss_N s.2.2.2.1 0) = true then
            if sv_ib (x3 + (6 : Int32)) (ss_N s.2.2.2.1 0) = true then
              (F_X_cheap (s.1 0 (x3 + (1 : Int32)).toNatClampNeg) (s.1 0 (x3 + (2 : Int32)).toNatClampNeg) (s.1 0 (x3 + (3 : Int32)).toNatClampNeg) (s.1 0 (x3 + (4 : Int32)).toNatClampNeg) (s.1 0 (x3 + (5 : Int32)).toNatClampNeg) (s.1 0 (x3 + (6 : Int32)).toNatClampNeg) s).bind fun r72 =>
              if sv_ib (x3 + (1 : Int32)) (ss_N r72.2.2.2.2.1 0) = true then
                if sv_ib (x3 + (2 : Int32)) (ss_N r72.2.2.2.2.1 0) = true then
                  if sv_ib (x3 + (3 : Int32)) (ss_N r72.2.2.2.2.1 0) = true then
                    if sv_ib (x3 + (4 : Int32)) (ss_N r72.2.2.2.2.1 0) = true then
                      if sv_ib (x3 + (5 : Int32)) (ss_N r72.2.2.2.2.1 0) = true then
                        if sv_ib (x3 + (6 : Int32)) (ss_N r72.2.2.2.2.1 0) = true then
                          (F_Mo_cheap (r72.2.1 0 (x3 + (1 : Int32)).toNatClampNeg) (r72.2.1 0 (x3 + (2 : Int32)).toNatClampNeg) (r72.2.1 0 (x3 + (3 : Int32)).toNatClampNeg) (r72.2.1 0 (x3 + (4 : Int32)).toNatClampNeg) (r72.2.1 0 (x3 + (5 : Int32)).toNatClampNeg) (r72.2.1 0 (x3 + (6 : Int32)).toNatClampNeg) r72.2).bind fun r73 =>
                          if r72.1 = r73.1 then
                            F_La_law_b1919 kc18 x3 r73.2
                          else
                          some ((0 : Int32), r73.2)
                        else none
                      else none
                    else none
                  else none
                else none
              else none
            else none
          else none
        else none
      else none
    else none
  else none
theorem V_La_law_b1128 (E : sv_E) (d : Nat) (kc18 : Int32 → sv_S → Option (Int32 × sv_S)) (hc18 : ∀ (x3 : Int32) (s : sv_S), sv_V E m_La_law (d + 83) ss_i 18 [(0, sv_r E 0), (1, sv_r E 64), (2, sv_r E 187), (3, .int x3)] [] (ss_e s) (kc18 x3 s)) (x3 : Int32) (s : sv_S) : sv_V E m_La_law (d + 83) ss_i 1128 [(0, sv_r E 0), (1, sv_r E 64), (2, sv_r E 187), (3, .int x3)] [] (ss_e s) (F_La_law_b1128 kc18 x3 s) := by
  unfold F_La_law_b1128
  refine sv_aload_n (pc := 1128) 1 (sv_d k_La_law_1128 0 rfl) rfl rfl ?_
  refine sv_aload_n (pc := 1129) 0 (sv_d k_La_law_1128 1 rfl) rfl rfl ?_
  refine sv_iload_n (pc := 1130) 3 (sv_d k_La_law_1128 2 rfl) rfl rfl ?_
  refine sv_iconst (pc := 1131) (v := (1 : Int32)) (sv_d k_La_law_1128 3 rfl) (by decide) ?_
  refine sv_iadd (pc := 1132) (sv_d k_La_law_1128 4 rfl) ?_
  refine ss_iald (pc := 1133) (n := (ss_N s.2.2.2.1 0)) (sv_d k_La_law_1128 5 rfl) kd0 (ss_lt (by decide)) rfl ?_
  refine sv_aload_n (pc := 1134) 0 (sv_d k_La_law_1128 6 rfl) rfl rfl ?_
  refine sv_iload_n (pc := 1135) 3 (sv_d k_La_law_1128 7 rfl) rfl rfl ?_
  refine sv_iconst (pc := 1136) (v := (2 : Int32)) (sv_d k_La_law_1128 8 rfl) (by decide) ?_
  refine sv_iadd (pc := 1137) (sv_d k_La_law_1128 9 rfl) ?_
  refine ss_iald (pc := 1138) (n := (ss_N s.2.2.2.1 0)) (sv_d k_La_law_1128 10 rfl) kd0 (ss_lt (by decide)) rfl ?_
  refine sv_aload_n (pc := 1139) 0 (sv_d k_La_law_1128 11 rfl) rfl rfl ?_
  refine sv_iload_n (pc := 1140) 3 (sv_d k_La_law_1128 12 rfl) rfl rfl ?_
  refine sv_iconst (pc := 1141) (v := (3 : Int32)) (sv_d k_La_law_1128 13 rfl) (by decide) ?_
  refine sv_iadd (pc := 1142) (sv_d k_La_law_1128 14 rfl) ?_
  refine ss_iald (pc := 1143) (n := (ss_N s.2.2.2.1 0)) (sv_d k_La_law_1128 15 rfl) kd0 (ss_lt (by decide)) rfl ?_
  refine sv_aload_n (pc := 1144) 0 (sv_d k_La_law_1128 16 rfl) rfl rfl ?_
  refine sv_iload_n (pc := 1145) 3 (sv_d k_La_law_1128 17 rfl) rfl rfl ?_
  refine sv_iconst (pc := 1146) (v := (4 : Int32)) (sv_d k_La_law_1128 18 rfl) (by decide) ?_
  refine sv_iadd (pc := 1147) (sv_d k_La_law_1128 19 rfl) ?_
  refine ss_iald (pc := 1148) (n := (ss_N s.2.2.2.1 0)) (sv_d k_La_law_1128 20 rfl) kd0 (ss_lt (by decide)) rfl ?_
  refine sv_aload_n (pc := 1149) 0 (sv_d k_La_law_1128 21 rfl) rfl rfl ?_
  refine sv_iload_n (pc := 1150) 3 (sv_d k_La_law_1128 22 rfl) rfl rfl ?_
  refine sv_iconst (pc := 1151) (v := (5 : Int32)) (sv_d k_La_law_1128 23 rfl) (by decide) ?_
  refine sv_iadd (pc := 1152) (sv_d k_La_law_1128 24 rfl) ?_
  refine ss_iald (pc := 1153) (n := (ss_N s.2.2.2.1 0)) (sv_d k_La_law_1128 25 rfl) kd0 (ss_lt (by decide)) rfl ?_
  refine sv_aload_n (pc := 1154) 0 (sv_d k_La_law_1128 26 rfl) rfl rfl ?_
  refine sv_iload_n (pc := 1155) 3 (sv_d k_La_law_1128 27 rfl) rfl rfl ?_
  refine sv_bipush (pc := 1156) (v := (6 : Int32)) (sv_d k_La_law_1128 28 rfl) (by decide) ?_
  refine sv_iadd (pc := 1158) (sv_d k_La_law_1128 29 rfl) ?_
  refine ss_iald (pc := 1159) (n := (ss_N s.2.2.2.1 0)) (sv_d k_La_law_1128 30 rfl) kd0 (ss_lt (by decide)) rfl ?_
  refine sv_callV (pc := 1160) (ψ := ss_i) (As := [.int (s.1 0 (x3 + (1 : Int32)).toNatClampNeg), .int (s.1 0 (x3 + (2 : Int32)).toNatClampNeg), .int (s.1 0 (x3 + (3 : Int32)).toNatClampNeg), .int (s.1 0 (x3 + (4 : Int32)).toNatClampNeg), .int (s.1 0 (x3 + (5 : Int32)).toNatClampNeg), .int (s.1 0 (x3 + (6 : Int32)).toNatClampNeg)]) (rest := []) (c := 64) (sv_d k_La_law_1128 31 rfl) g_X_cheap w1048 in_X_cheap se_X_cheap cf11 kd64 (ss_lt (by decide)) rfl (Nat.le_of_ble_eq_true rfl) (V_X_cheap E (d + 78) (s.1 0 (x3 + (1 : Int32)).toNatClampNeg) (s.1 0 (x3 + (2 : Int32)).toNatClampNeg) (s.1 0 (x3 + (3 : Int32)).toNatClampNeg) (s.1 0 (x3 + (4 : Int32)).toNatClampNeg) (s.1 0 (x3 + (5 : Int32)).toNatClampNeg) (s.1 0 (x3 + (6 : Int32)).toNatClampNeg) s) (Nat.le_of_ble_eq_true rfl) rfl (fun r72 => ?_)
  show sv_V E _ _ _ 1163 _ [.int r72.1] (ss_e r72.2) _
  refine sv_aload_n (pc := 1163) 2 (sv_d k_La_law_1128 32 rfl) rfl rfl ?_
  refine sv_aload_n (pc := 1164) 0 (sv_d k_La_law_1128 33 rfl) rfl rfl ?_
  refine sv_iload_n (pc := 1165) 3 (sv_d k_La_law_1128 34 rfl) rfl rfl ?_
  refine sv_iconst (pc := 1166) (v := (1 : Int32)) (sv_d k_La_law_1128 35 rfl) (by decide) ?_
  refine sv_iadd (pc := 1167) (sv_d k_La_law_1128 36 rfl) ?_
  refine ss_iald (pc := 1168) (n := (ss_N r72.2.2.2.2.1 0)) (sv_d k_La_law_1128 37 rfl) kd0 (ss_lt (by decide)) rfl ?_
  refine sv_aload_n (pc := 1169) 0 (sv_d k_La_law_1128 38 rfl) rfl rfl ?_
  refine sv_iload_n (pc := 1170) 3 (sv_d k_La_law_1128 39 rfl) rfl rfl ?_
  refine sv_iconst (pc := 1171) (v := (2 : Int32)) (sv_d k_La_law_1128 40 rfl) (by decide) ?_
  refine sv_iadd (pc := 1172) (sv_d k_La_law_1128 41 rfl) ?_
  refine ss_iald (pc := 1173) (n := (ss_N r72.2.2.2.2.1 0)) (sv_d k_La_law_1128 42 rfl) kd0 (ss_lt (by decide)) rfl ?_
  refine sv_aload_n (pc := 1174) 0 (sv_d k_La_law_1128 43 rfl) rfl rfl ?_
  refine sv_iload_n (pc := 1175) 3 (sv_d k_La_law_1128 44 rfl) rfl rfl ?_
  refine sv_iconst (pc := 1176) (v := (3 : Int32)) (sv_d k_La_law_1128 45 rfl) (by decide) ?_
  refine sv_iadd (pc := 1177) (sv_d k_La_law_1128 46 rfl) ?_
  refine ss_iald (pc := 1178) (n := (ss_N r72.2.2.2.2.1 0)) (sv_d k_La_law_1128 47 rfl) kd0 (ss_lt (by decide)) rfl ?_
  refine sv_aload_n (pc := 1179) 0 (sv_d k_La_law_1128 48 rfl) rfl rfl ?_
  refine sv_iload_n (pc := 1180) 3 (sv_d k_La_law_1128 49 rfl) rfl rfl ?_
  refine sv_iconst (pc := 1181) (v := (4 : Int32)) (sv_d k_La_law_1128 50 rfl) (by decide) ?_
  refine sv_iadd (pc := 1182) (sv_d k_La_law_1128 51 rfl) ?_
  refine ss_iald (pc := 1183) (n := (ss_N r72.2.2.2.2.1 0)) (sv_d k_La_law_1128 52 rfl) kd0 (ss_lt (by decide)) rfl ?_
  refine sv_aload_n (pc := 1184) 0 (sv_d k_La_law_1128 53 rfl) rfl rfl ?_
  refine sv_iload_n (pc := 1185) 3 (sv_d k_La_law_1128 54 rfl) rfl rfl ?_
  refine sv_iconst (pc := 1186) (v := (5 : Int32)) (sv_d k_La_law_1128 55 rfl) (by decide) ?_
  refine sv_iadd (pc := 1187) (sv_d k_La_law_1128 56 rfl) ?_
  refine ss_iald (pc := 1188) (n := (ss_N r72.2.2.2.2.1 0)) (sv_d k_La_law_1128 57 rfl) kd0 (ss_lt (by decide)) rfl ?_
  refine sv_aload_n (pc := 1189) 0 (sv_d k_La_law_1128 58 rfl) rfl rfl ?_
  refine sv_iload_n (pc := 1190) 3 (sv_d k_La_law_1128 59 rfl) rfl rfl ?_
  refine sv_bipush (pc := 1191) (v := (6 : Int32)) (sv_d k_La_law_1128 60 rfl) (by decide) ?_
  refine sv_iadd (pc := 1193) (sv_d k_La_law_1128 61 rfl) ?_
  refine ss_iald (pc := 1194) (n := (ss_N r72.2.2.2.2.1 0)) (sv_d k_La_law_1128 62 rfl) kd0 (ss_lt (by decide)) rfl ?_
  refine sv_callV (pc := 1195) (ψ := ss_i) (As := [.int (r72.2.1 0 (x3 + (1 : Int32)).toNatClampNeg), .int (r72.2.1 0 (x3 + (2 : Int32)).toNatClampNeg), .int (r72.2.1 0 (x3 + (3 : Int32)).toNatClampNeg), .int (r72.2.1 0 (x3 + (4 : Int32)).toNatClampNeg), .int (r72.2.1 0 (x3 + (5 : Int32)).toNatClampNeg), .int (r72.2.1 0 (x3 + (6 : Int32)).toNatClampNeg)]) (rest := [.int r72.1]) (c := 187) (sv_d k_La_law_1128 63 rfl) g_Mo_cheap w1814 in_Mo_cheap se_Mo_cheap cf12 kd187 (ss_lt (by decide)) rfl (Nat.le_of_ble_eq_true rfl) (V_Mo_cheap E (d + 73) (r72.2.1 0 (x3 + (1 : Int32)).toNatClampNeg) (r72.2.1 0 (x3 + (2 : Int32)).toNatClampNeg) (r72.2.1 0 (x3 + (3 : Int32)).toNatClampNeg) (r72.2.1 0 (x3 + (4 : Int32)).toNatClampNeg) (r72.2.1 0 (x3 + (5 : Int32)).toNatClampNeg) (r72.2.1 0 (x3 + (6 : Int32)).toNatClampNeg) r72.2) (Nat.le_of_ble_eq_true rfl) rfl (fun r73 => ?_)
  show sv_V E _ _ _ 1198 _ [.int r73.1, .int r72.1] (ss_e r73.2) _
  refine sv_icmp_eq (pc := 1198) (tgt := 1919) (sv_d k_La_law_1128 64 rfl) (by decide) ?_ ?_
  · exact sv_loc [0, 1, 2, 3] rfl (V_La_law_b1919 E d kc18 hc18 x3 r73.2)
  · refine sv_iconst (pc := 1201) (v := (0 : Int32)) (sv_d k_La_law_1128 65 rfl) (by decide) ?_
    exact sv_ret (pc := 1202) (sv_d k_La_law_1128 66 rfl) ⟨_, rfl, rfl⟩ rfl
noncomputable def F_La_law_b1203 (kc18 : Int32 → sv_S → Option (Int32 × sv_S)) (x3 : Int32) (s : sv_S) : Option (Int32 × sv_S) :=
  if sv_ib (x3 + (1 : Int32)) (ss_N s.2.2.2.1 0) = true then
    if sv_ib (x3 + (2 : Int32)) (ss_N s.2.2.2.1 0) = true then
      if sv_ib (x3 + (3 : Int32)) (ss_N s.2.2.2.1 0) = true then
        if sv_ib (x3 + (4 : Int32)) (ss_N s.2.2.2.1 0) = true then
          if sv_ib (x3 + (5 : Int32)) (ss_N s.2.2.2.1 0) = true then
            (F_X_cry (s.1 0 (x3 + (1 : Int32)).toNatClampNeg) (s.1 0 (x3 + (2 : Int32)).toNatClampNeg) (s.1 0 (x3 + (3 : Int32)).toNatClampNeg) (s.1 0 (x3 + (4 : Int32)).toNatClampNeg) (s.1 0 (x3 + (5 : Int32)).toNatClampNeg) s).bind fun r75 =>
            if sv_ib (x3 + (1 : Int32)) (ss_N r75.2.2.2.2.1 0) = true then
              if sv_ib (x3 + (2 : Int32)) (ss_N r75.2.2.2.2.1 0) = true then
                if sv_ib (x3 + (3 : Int32)) (ss_N r75.2.2.2.2.1 0) = true then
                  if sv_ib (x3 + (4 : Int32)) (ss_N r75.2.2.2.2.1 0) = true then
                    if sv_ib (x3 + (5 : Int32)) (ss_N r75.2.2.2.2.1 0) = true then
                      (F_Mo_cry (r75.2.1 0 (x3 + (1 : Int32)).toNatClampNeg) (r75.2.1 0 (x3 + (2 : Int32)).toNatClampNeg) (r75.2.1 0 (x3 + (3 : Int32)).toNatClampNeg) (r75.2.1 0 (x3 + (4 : Int32)).toNatClampNeg) (r75.2.1 0 (x3 + (5 : Int32)).toNatClampNeg) r75.2).bind fun r76 =>
                      if r75.1 = r76.1 then
                        F_La_law_b1919 kc18 x3 r76.2
                      else
                      some ((0 : Int32), r76.2)
                    else none
                  else none
                else none
              else none
            else none
          else none
        else none
      else none
    else none
  else none
theorem V_La_law_b1203 (E : sv_E) (d : Nat) (kc18 : Int32 → sv_S → Option (Int32 × sv_S)) (hc18 : ∀ (x3 : Int32) (s : sv_S), sv_V E m_La_law (d + 83) ss_i 18 [(0, sv_r E 0), (1, sv_r E 64), (2, sv_r E 187), (3, .int x3)] [] (ss_e s) (kc18 x3 s)) (x3 : Int32) (s : sv_S) : sv_V E m_La_law (d + 83) ss_i 1203 [(0, sv_r E 0), (1, sv_r E 64), (2, sv_r E 187), (3, .int x3)] [] (ss_e s) (F_La_law_b1203 kc18 x3 s) := by
  unfold F_La_law_b1203
  refine sv_aload_n (pc := 1203) 1 (sv_d k_La_law_1203 0 rfl) rfl rfl ?_
  refine sv_aload_n (pc := 1204) 0 (sv_d k_La_law_1203 1 rfl) rfl rfl ?_
  refine sv_iload_n (pc := 1205) 3 (sv_d k_La_law_1203 2 rfl) rfl rfl ?_
  refine sv_iconst (pc := 1206) (v := (1 : Int32)) (sv_d k_La_law_1203 3 rfl) (by decide) ?_
  refine sv_iadd (pc := 1207) (sv_d k_La_law_1203 4 rfl) ?_
  refine ss_iald (pc := 1208) (n := (ss_N s.2.2.2.1 0)) (sv_d k_La_law_1203 5 rfl) kd0 (ss_lt (by decide)) rfl ?_
  refine sv_aload_n (pc := 1209) 0 (sv_d k_La_law_1203 6 rfl) rfl rfl ?_
  refine sv_iload_n (pc := 1210) 3 (sv_d k_La_law_1203 7 rfl) rfl rfl ?_
  refine sv_iconst (pc := 1211) (v := (2 : Int32)) (sv_d k_La_law_1203 8 rfl) (by decide) ?_
  refine sv_iadd (pc := 1212) (sv_d k_La_law_1203 9 rfl) ?_
  refine ss_iald (pc := 1213) (n := (ss_N s.2.2.2.1 0)) (sv_d k_La_law_1203 10 rfl) kd0 (ss_lt (by decide)) rfl ?_
  refine sv_aload_n (pc := 1214) 0 (sv_d k_La_law_1203 11 rfl) rfl rfl ?_
  refine sv_iload_n (pc := 1215) 3 (sv_d k_La_law_1203 12 rfl) rfl rfl ?_
  refine sv_iconst (pc := 1216) (v := (3 : Int32)) (sv_d k_La_law_1203 13 rfl) (by decide) ?_
  refine sv_iadd (pc := 1217) (sv_d k_La_law_1203 14 rfl) ?_
  refine ss_iald (pc := 1218) (n := (ss_N s.2.2.2.1 0)) (sv_d k_La_law_1203 15 rfl) kd0 (ss_lt (by decide)) rfl ?_
  refine sv_aload_n (pc := 1219) 0 (sv_d k_La_law_1203 16 rfl) rfl rfl ?_
  refine sv_iload_n (pc := 1220) 3 (sv_d k_La_law_1203 17 rfl) rfl rfl ?_
  refine sv_iconst (pc := 1221) (v := (4 : Int32)) (sv_d k_La_law_1203 18 rfl) (by decide) ?_
  refine sv_iadd (pc := 1222) (sv_d k_La_law_1203 19 rfl) ?_
  refine ss_iald (pc := 1223) (n := (ss_N s.2.2.2.1 0)) (sv_d k_La_law_1203 20 rfl) kd0 (ss_lt (by decide)) rfl ?_
  refine sv_aload_n (pc := 1224) 0 (sv_d k_La_law_1203 21 rfl) rfl rfl ?_
  refine sv_iload_n (pc := 1225) 3 (sv_d k_La_law_1203 22 rfl) rfl rfl ?_
  refine sv_iconst (pc := 1226) (v := (5 : Int32)) (sv_d k_La_law_1203 23 rfl) (by decide) ?_
  refine sv_iadd (pc := 1227) (sv_d k_La_law_1203 24 rfl) ?_
  refine ss_iald (pc := 1228) (n := (ss_N s.2.2.2.1 0)) (sv_d k_La_law_1203 25 rfl) kd0 (ss_lt (by decide)) rfl ?_
  refine sv_callV (pc := 1229) (ψ := ss_i) (As := [.int (s.1 0 (x3 + (1 : Int32)).toNatClampNeg), .int (s.1 0 (x3 + (2 : Int32)).toNatClampNeg), .int (s.1 0 (x3 + (3 : Int32)).toNatClampNeg), .int (s.1 0 (x3 + (4 : Int32)).toNatClampNeg), .int (s.1 0 (x3 + (5 : Int32)).toNatClampNeg)]) (rest := []) (c := 64) (sv_d k_La_law_1203 26 rfl) g_X_cry w1085 in_X_cry se_X_cry cf11 kd64 (ss_lt (by decide)) rfl (Nat.le_of_ble_eq_true rfl) (V_X_cry E (d + 78) (s.1 0 (x3 + (1 : Int32)).toNatClampNeg) (s.1 0 (x3 + (2 : Int32)).toNatClampNeg) (s.1 0 (x3 + (3 : Int32)).toNatClampNeg) (s.1 0 (x3 + (4 : Int32)).toNatClampNeg) (s.1 0 (x3 + (5 : Int32)).toNatClampNeg) s) (Nat.le_of_ble_eq_true rfl) rfl (fun r75 => ?_)
  show sv_V E _ _ _ 1232 _ [.int r75.1] (ss_e r75.2) _
  refine sv_aload_n (pc := 1232) 2 (sv_d k_La_law_1203 27 rfl) rfl rfl ?_
  refine sv_aload_n (pc := 1233) 0 (sv_d k_La_law_1203 28 rfl) rfl rfl ?_
  refine sv_iload_n (pc := 1234) 3 (sv_d k_La_law_1203 29 rfl) rfl rfl ?_
  refine sv_iconst (pc := 1235) (v := (1 : Int32)) (sv_d k_La_law_1203 30 rfl) (by decide) ?_
  refine sv_iadd (pc := 1236) (sv_d k_La_law_1203 31 rfl) ?_
  refine ss_iald (pc := 1237) (n := (ss_N r75.2.2.2.2.1 0)) (sv_d k_La_law_1203 32 rfl) kd0 (ss_lt (by decide)) rfl ?_
  refine sv_aload_n (pc := 1238) 0 (sv_d k_La_law_1203 33 rfl) rfl rfl ?_
  refine sv_iload_n (pc := 1239) 3 (sv_d k_La_law_1203 34 rfl) rfl rfl ?_
  refine sv_iconst (pc := 1240) (v := (2 : Int32)) (sv_d k_La_law_1203 35 rfl) (by decide) ?_
  refine sv_iadd (pc := 1241) (sv_d k_La_law_1203 36 rfl) ?_
  refine ss_iald (pc := 1242) (n := (ss_N r75.2.2.2.2.1 0)) (sv_d k_La_law_1203 37 rfl) kd0 (ss_lt (by decide)) rfl ?_
  refine sv_aload_n (pc := 1243) 0 (sv_d k_La_law_1203 38 rfl) rfl rfl ?_
  refine sv_iload_n (pc := 1244) 3 (sv_d k_La_law_1203 39 rfl) rfl rfl ?_
  refine sv_iconst (pc := 1245) (v := (3 : Int32)) (sv_d k_La_law_1203 40 rfl) (by decide) ?_
  refine sv_iadd (pc := 1246) (sv_d k_La_law_1203 41 rfl) ?_
  refine ss_iald (pc := 1247) (n := (ss_N r75.2.2.2.2.1 0)) (sv_d k_La_law_1203 42 rfl) kd0 (ss_lt (by decide)) rfl ?_
  refine sv_aload_n (pc := 1248) 0 (sv_d k_La_law_1203 43 rfl) rfl rfl ?_
  refine sv_iload_n (pc := 1249) 3 (sv_d k_La_law_1203 44 rfl) rfl rfl ?_
  refine sv_iconst (pc := 1250) (v := (4 : Int32)) (sv_d k_La_law_1203 45 rfl) (by decide) ?_
  refine sv_iadd (pc := 1251) (sv_d k_La_law_1203 46 rfl) ?_
  refine ss_iald (pc := 1252) (n := (ss_N r75.2.2.2.2.1 0)) (sv_d k_La_law_1203 47 rfl) kd0 (ss_lt (by decide)) rfl ?_
  refine sv_aload_n (pc := 1253) 0 (sv_d k_La_law_1203 48 rfl) rfl rfl ?_
  refine sv_iload_n (pc := 1254) 3 (sv_d k_La_law_1203 49 rfl) rfl rfl ?_
  refine sv_iconst (pc := 1255) (v := (5 : Int32)) (sv_d k_La_law_1203 50 rfl) (by decide) ?_
  refine sv_iadd (pc := 1256) (sv_d k_La_law_1203 51 rfl) ?_
  refine ss_iald (pc := 1257) (n := (ss_N r75.2.2.2.2.1 0)) (sv_d k_La_law_1203 52 rfl) kd0 (ss_lt (by decide)) rfl ?_
  refine sv_callV (pc := 1258) (ψ := ss_i) (As := [.int (r75.2.1 0 (x3 + (1 : Int32)).toNatClampNeg), .int (r75.2.1 0 (x3 + (2 : Int32)).toNatClampNeg), .int (r75.2.1 0 (x3 + (3 : Int32)).toNatClampNeg), .int (r75.2.1 0 (x3 + (4 : Int32)).toNatClampNeg), .int (r75.2.1 0 (x3 + (5 : Int32)).toNatClampNeg)]) (rest := [.int r75.1]) (c := 187) (sv_d k_La_law_1203 53 rfl) g_Mo_cry w1827 in_Mo_cry se_Mo_cry cf12 kd187 (ss_lt (by decide)) rfl (Nat.le_of_ble_eq_true rfl) (V_Mo_cry E (d + 73) (r75.2.1 0 (x3 + (1 : Int32)).toNatClampNeg) (r75.2.1 0 (x3 + (2 : Int32)).toNatClampNeg) (r75.2.1 0 (x3 + (3 : Int32)).toNatClampNeg) (r75.2.1 0 (x3 + (4 : Int32)).toNatClampNeg) (r75.2.1 0 (x3 + (5 : Int32)).toNatClampNeg) r75.2) (Nat.le_of_ble_eq_true rfl) rfl (fun r76 => ?_)
  show sv_V E _ _ _ 1261 _ [.int r76.1, .int r75.1] (ss_e r76.2) _
  refine sv_icmp_eq (pc := 1261) (tgt := 1919) (sv_d k_La_law_1203 54 rfl) (by decide) ?_ ?_
  · exact sv_loc [0, 1, 2, 3] rfl (V_La_law_b1919 E d kc18 hc18 x3 r76.2)
  · refine sv_iconst (pc := 1264) (v := (0 : Int32)) (sv_d k_La_law_1203 55 rfl) (by decide) ?_
    exact sv_ret (pc := 1265) (sv_d k_La_law_1203 56 rfl) ⟨_, rfl, rfl⟩ rfl
noncomputable def F_La_law_b1266 (kc18 : Int32 → sv_S → Option (Int32 × sv_S)) (x3 : Int32) (s : sv_S) : Option (Int32 × sv_S) :=
  if sv_ib (x3 + (1 : Int32)) (ss_N s.2.2.2.1 0) = true then
    if sv_ib (x3 + (2 : Int32)) (ss_N s.2.2.2.1 0) = true then
      if sv_ib (x3 + (3 : Int32)) (ss_N s.2.2.2.1 0) = true then
        if sv_ib (x3 + (4 : Int32)) (ss_N s.2.2.2.1 0) = true then
          if sv_ib (x3 + (5 : Int32)) (ss_N s.2.2.2.1 0) = true then
            (F_X_want (s.1 0 (x3 + (1 : Int32)).toNatClampNeg) (s.1 0 (x3 + (2 : Int32)).toNatClampNeg) (s.1 0 (x3 + (3 : Int32)).toNatClampNeg) (s.1 0 (x3 + (4 : Int32)).toNatClampNeg) (s.1 0 (x3 + (5 : Int32)).toNatClampNeg) s).bind fun r78 =>
            if sv_ib (x3 + (1 : Int32)) (ss_N r78.2.2.2.2.1 0) = true then
              if sv_ib (x3 + (2 : Int32)) (ss_N r78.2.2.2.2.1 0) = true then
                if sv_ib (x3 + (3 : Int32)) (ss_N r78.2.2.2.2.1 0) = true then
                  if sv_ib (x3 + (4 : Int32)) (ss_N r78.2.2.2.2.1 0) = true then
                    if sv_ib (x3 + (5 : Int32)) (ss_N r78.2.2.2.2.1 0) = true then
                      (F_Mo_want (r78.2.1 0 (x3 + (1 : Int32)).toNatClampNeg) (r78.2.1 0 (x3 + (2 : Int32)).toNatClampNeg) (r78.2.1 0 (x3 + (3 : Int32)).toNatClampNeg) (r78.2.1 0 (x3 + (4 : Int32)).toNatClampNeg) (r78.2.1 0 (x3 + (5 : Int32)).toNatClampNeg) r78.2).bind fun r79 =>
                      if r78.1 = r79.1 then
                        F_La_law_b1919 kc18 x3 r79.2
                      else
                      some ((0 : Int32), r79.2)
                    else none
                  else none
                else none
              else none
            else none
          else none
        else none
      else none
    else none
  else none
theorem V_La_law_b1266 (E : sv_E) (d : Nat) (kc18 : Int32 → sv_S → Option (Int32 × sv_S)) (hc18 : ∀ (x3 : Int32) (s : sv_S), sv_V E m_La_law (d + 83) ss_i 18 [(0, sv_r E 0), (1, sv_r E 64), (2, sv_r E 187), (3, .int x3)] [] (ss_e s) (kc18 x3 s)) (x3 : Int32) (s : sv_S) : sv_V E m_La_law (d + 83) ss_i 1266 [(0, sv_r E 0), (1, sv_r E 64), (2, sv_r E 187), (3, .int x3)] [] (ss_e s) (F_La_law_b1266 kc18 x3 s) := by
  unfold F_La_law_b1266
  refine sv_aload_n (pc := 1266) 1 (sv_d k_La_law_1266 0 rfl) rfl rfl ?_
  refine sv_aload_n (pc := 1267) 0 (sv_d k_La_law_1266 1 rfl) rfl rfl ?_
  refine sv_iload_n (pc := 1268) 3 (sv_d k_La_law_1266 2 rfl) rfl rfl ?_
  refine sv_iconst (pc := 1269) (v := (1 : Int32)) (sv_d k_La_law_1266 3 rfl) (by decide) ?_
  refine sv_iadd (pc := 1270) (sv_d k_La_law_1266 4 rfl) ?_
  refine ss_iald (pc := 1271) (n := (ss_N s.2.2.2.1 0)) (sv_d k_La_law_1266 5 rfl) kd0 (ss_lt (by decide)) rfl ?_
  refine sv_aload_n (pc := 1272) 0 (sv_d k_La_law_1266 6 rfl) rfl rfl ?_
  refine sv_iload_n (pc := 1273) 3 (sv_d k_La_law_1266 7 rfl) rfl rfl ?_
  refine sv_iconst (pc := 1274) (v := (2 : Int32)) (sv_d k_La_law_1266 8 rfl) (by decide) ?_
  refine sv_iadd (pc := 1275) (sv_d k_La_law_1266 9 rfl) ?_
  refine ss_iald (pc := 1276) (n := (ss_N s.2.2.2.1 0)) (sv_d k_La_law_1266 10 rfl) kd0 (ss_lt (by decide)) rfl ?_
  refine sv_aload_n (pc := 1277) 0 (sv_d k_La_law_1266 11 rfl) rfl rfl ?_
  refine sv_iload_n (pc := 1278) 3 (sv_d k_La_law_1266 12 rfl) rfl rfl ?_
  refine sv_iconst (pc := 1279) (v := (3 : Int32)) (sv_d k_La_law_1266 13 rfl) (by decide) ?_
  refine sv_iadd (pc := 1280) (sv_d k_La_law_1266 14 rfl) ?_
  refine ss_iald (pc := 1281) (n := (ss_N s.2.2.2.1 0)) (sv_d k_La_law_1266 15 rfl) kd0 (ss_lt (by decide)) rfl ?_
  refine sv_aload_n (pc := 1282) 0 (sv_d k_La_law_1266 16 rfl) rfl rfl ?_
  refine sv_iload_n (pc := 1283) 3 (sv_d k_La_law_1266 17 rfl) rfl rfl ?_
  refine sv_iconst (pc := 1284) (v := (4 : Int32)) (sv_d k_La_law_1266 18 rfl) (by decide) ?_
  refine sv_iadd (pc := 1285) (sv_d k_La_law_1266 19 rfl) ?_
  refine ss_iald (pc := 1286) (n := (ss_N s.2.2.2.1 0)) (sv_d k_La_law_1266 20 rfl) kd0 (ss_lt (by decide)) rfl ?_
  refine sv_aload_n (pc := 1287) 0 (sv_d k_La_law_1266 21 rfl) rfl rfl ?_
  refine sv_iload_n (pc := 1288) 3 (sv_d k_La_law_1266 22 rfl) rfl rfl ?_
  refine sv_iconst (pc := 1289) (v := (5 : Int32)) (sv_d k_La_law_1266 23 rfl) (by decide) ?_
  refine sv_iadd (pc := 1290) (sv_d k_La_law_1266 24 rfl) ?_
  refine ss_iald (pc := 1291) (n := (ss_N s.2.2.2.1 0)) (sv_d k_La_law_1266 25 rfl) kd0 (ss_lt (by decide)) rfl ?_
  refine sv_callV (pc := 1292) (ψ := ss_i) (As := [.int (s.1 0 (x3 + (1 : Int32)).toNatClampNeg), .int (s.1 0 (x3 + (2 : Int32)).toNatClampNeg), .int (s.1 0 (x3 + (3 : Int32)).toNatClampNeg), .int (s.1 0 (x3 + (4 : Int32)).toNatClampNeg), .int (s.1 0 (x3 + (5 : Int32)).toNatClampNeg)]) (rest := []) (c := 64) (sv_d k_La_law_1266 26 rfl) g_X_want w1089 in_X_want se_X_want cf11 kd64 (ss_lt (by decide)) rfl (Nat.le_of_ble_eq_true rfl) (V_X_want E (d + 80) (s.1 0 (x3 + (1 : Int32)).toNatClampNeg) (s.1 0 (x3 + (2 : Int32)).toNatClampNeg) (s.1 0 (x3 + (3 : Int32)).toNatClampNeg) (s.1 0 (x3 + (4 : Int32)).toNatClampNeg) (s.1 0 (x3 + (5 : Int32)).toNatClampNeg) s) (Nat.le_of_ble_eq_true rfl) rfl (fun r78 => ?_)
  show sv_V E _ _ _ 1295 _ [.int r78.1] (ss_e r78.2) _
  refine sv_aload_n (pc := 1295) 2 (sv_d k_La_law_1266 27 rfl) rfl rfl ?_
  refine sv_aload_n (pc := 1296) 0 (sv_d k_La_law_1266 28 rfl) rfl rfl ?_
  refine sv_iload_n (pc := 1297) 3 (sv_d k_La_law_1266 29 rfl) rfl rfl ?_
  refine sv_iconst (pc := 1298) (v := (1 : Int32)) (sv_d k_La_law_1266 30 rfl) (by decide) ?_
  refine sv_iadd (pc := 1299) (sv_d k_La_law_1266 31 rfl) ?_
  refine ss_iald (pc := 1300) (n := (ss_N r78.2.2.2.2.1 0)) (sv_d k_La_law_1266 32 rfl) kd0 (ss_lt (by decide)) rfl ?_
  refine sv_aload_n (pc := 1301) 0 (sv_d k_La_law_1266 33 rfl) rfl rfl ?_
  refine sv_iload_n (pc := 1302) 3 (sv_d k_La_law_1266 34 rfl) rfl rfl ?_
  refine sv_iconst (pc := 1303) (v := (2 : Int32)) (sv_d k_La_law_1266 35 rfl) (by decide) ?_
  refine sv_iadd (pc := 1304) (sv_d k_La_law_1266 36 rfl) ?_
  refine ss_iald (pc := 1305) (n := (ss_N r78.2.2.2.2.1 0)) (sv_d k_La_law_1266 37 rfl) kd0 (ss_lt (by decide)) rfl ?_
  refine sv_aload_n (pc := 1306) 0 (sv_d k_La_law_1266 38 rfl) rfl rfl ?_
  refine sv_iload_n (pc := 1307) 3 (sv_d k_La_law_1266 39 rfl) rfl rfl ?_
  refine sv_iconst (pc := 1308) (v := (3 : Int32)) (sv_d k_La_law_1266 40 rfl) (by decide) ?_
  refine sv_iadd (pc := 1309) (sv_d k_La_law_1266 41 rfl) ?_
  refine ss_iald (pc := 1310) (n := (ss_N r78.2.2.2.2.1 0)) (sv_d k_La_law_1266 42 rfl) kd0 (ss_lt (by decide)) rfl ?_
  refine sv_aload_n (pc := 1311) 0 (sv_d k_La_law_1266 43 rfl) rfl rfl ?_
  refine sv_iload_n (pc := 1312) 3 (sv_d k_La_law_1266 44 rfl) rfl rfl ?_
  refine sv_iconst (pc := 1313) (v := (4 : Int32)) (sv_d k_La_law_1266 45 rfl) (by decide) ?_
  refine sv_iadd (pc := 1314) (sv_d k_La_law_1266 46 rfl) ?_
  refine ss_iald (pc := 1315) (n := (ss_N r78.2.2.2.2.1 0)) (sv_d k_La_law_1266 47 rfl) kd0 (ss_lt (by decide)) rfl ?_
  refine sv_aload_n (pc := 1316) 0 (sv_d k_La_law_1266 48 rfl) rfl rfl ?_
  refine sv_iload_n (pc := 1317) 3 (sv_d k_La_law_1266 49 rfl) rfl rfl ?_
  refine sv_iconst (pc := 1318) (v := (5 : Int32)) (sv_d k_La_law_1266 50 rfl) (by decide) ?_
  refine sv_iadd (pc := 1319) (sv_d k_La_law_1266 51 rfl) ?_
  refine ss_iald (pc := 1320) (n := (ss_N r78.2.2.2.2.1 0)) (sv_d k_La_law_1266 52 rfl) kd0 (ss_lt (by decide)) rfl ?_
  refine sv_callV (pc := 1321) (ψ := ss_i) (As := [.int (r78.2.1 0 (x3 + (1 : Int32)).toNatClampNeg), .int (r78.2.1 0 (x3 + (2 : Int32)).toNatClampNeg), .int (r78.2.1 0 (x3 + (3 : Int32)).toNatClampNeg), .int (r78.2.1 0 (x3 + (4 : Int32)).toNatClampNeg), .int (r78.2.1 0 (x3 + (5 : Int32)).toNatClampNeg)]) (rest := [.int r78.1]) (c := 187) (sv_d k_La_law_1266 53 rfl) g_Mo_want w1831 in_Mo_want se_Mo_want cf12 kd187 (ss_lt (by decide)) rfl (Nat.le_of_ble_eq_true rfl) (V_Mo_want E (d + 80) (r78.2.1 0 (x3 + (1 : Int32)).toNatClampNeg) (r78.2.1 0 (x3 + (2 : Int32)).toNatClampNeg) (r78.2.1 0 (x3 + (3 : Int32)).toNatClampNeg) (r78.2.1 0 (x3 + (4 : Int32)).toNatClampNeg) (r78.2.1 0 (x3 + (5 : Int32)).toNatClampNeg) r78.2) (Nat.le_of_ble_eq_true rfl) rfl (fun r79 => ?_)
  show sv_V E _ _ _ 1324 _ [.int r79.1, .int r78.1] (ss_e r79.2) _
  refine sv_icmp_eq (pc := 1324) (tgt := 1919) (sv_d k_La_law_1266 54 rfl) (by decide) ?_ ?_
  · exact sv_loc [0, 1, 2, 3] rfl (V_La_law_b1919 E d kc18 hc18 x3 r79.2)
  · refine sv_iconst (pc := 1327) (v := (0 : Int32)) (sv_d k_La_law_1266 55 rfl) (by decide) ?_
    exact sv_ret (pc := 1328) (sv_d k_La_law_1266 56 rfl) ⟨_, rfl, rfl⟩ rfl
noncomputable def F_La_law_b1329 (kc18 : Int32 → sv_S → Option (Int32 × sv_S)) (x3 : Int32) (s : sv_S) : Option (Int32 × sv_S) :=
  if sv_ib (x3 + (1 : Int32)) (ss_N s.2.2.2.1 0) = true then
    if sv_ib (x3 + (2 : Int32)) (ss_N s.2.2.2.1 0) = true then
      (F_X_ships (s.1 0 (x3 + (1 : Int32)).toNatClampNeg) (s.1 0 (x3 + (2 : Int32)).toNatClampNeg) s).bind fun r81 =>
      if sv_ib (x3 + (1 : Int32)) (ss_N r81.2.2.2.2.1 0) = true then
        if sv_ib (x3 + (2 : Int32)) (ss_N r81.2.2.2.2.1 0) = true then
          (F_Mo_ships (r81.2.1 0 (x3 + (1 : Int32)).toNatClampNeg) (r81.2.1 0 (x3 + (2 : Int32)).toNatClampNeg) r81.2).bind fun r82 =>
          if r81.1 = r82.1 then
            F_La_law_b1919 kc18 x3 r82.2
          else
          some ((0 : Int32), r82.2)
        else none
      else none
    else none
  else none
theorem V_La_law_b1329 (E : sv_E) (d : Nat) (kc18 : Int32 → sv_S → Option (Int32 × sv_S)) (hc18 : ∀ (x3 : Int32) (s : sv_S), sv_V E m_La_law (d + 83) ss_i 18 [(0, sv_r E 0), (1, sv_r E 64), (2, sv_r E 187), (3, .int x3)] [] (ss_e s) (kc18 x3 s)) (x3 : Int32) (s : sv_S) : sv_V E m_La_law (d + 83) ss_i 1329 [(0, sv_r E 0), (1, sv_r E 64), (2, sv_r E 187), (3, .int x3)] [] (ss_e s) (F_La_law_b1329 kc18 x3 s) := by
  unfold F_La_law_b1329
  refine sv_aload_n (pc := 1329) 1 (sv_d k_La_law_1329 0 rfl) rfl rfl ?_
  refine sv_aload_n (pc := 1330) 0 (sv_d k_La_law_1329 1 rfl) rfl rfl ?_
  refine sv_iload_n (pc := 1331) 3 (sv_d k_La_law_1329 2 rfl) rfl rfl ?_
  refine sv_iconst (pc := 1332) (v := (1 : Int32)) (sv_d k_La_law_1329 3 rfl) (by decide) ?_
  refine sv_iadd (pc := 1333) (sv_d k_La_law_1329 4 rfl) ?_
  refine ss_iald (pc := 1334) (n := (ss_N s.2.2.2.1 0)) (sv_d k_La_law_1329 5 rfl) kd0 (ss_lt (by decide)) rfl ?_
  refine sv_aload_n (pc := 1335) 0 (sv_d k_La_law_1329 6 rfl) rfl rfl ?_
  refine sv_iload_n (pc := 1336) 3 (sv_d k_La_law_1329 7 rfl) rfl rfl ?_
  refine sv_iconst (pc := 1337) (v := (2 : Int32)) (sv_d k_La_law_1329 8 rfl) (by decide) ?_
  refine sv_iadd (pc := 1338) (sv_d k_La_law_1329 9 rfl) ?_
  refine ss_iald (pc := 1339) (n := (ss_N s.2.2.2.1 0)) (sv_d k_La_law_1329 10 rfl) kd0 (ss_lt (by decide)) rfl ?_
  refine sv_callV (pc := 1340) (ψ := ss_i) (As := [.int (s.1 0 (x3 + (1 : Int32)).toNatClampNeg), .int (s.1 0 (x3 + (2 : Int32)).toNatClampNeg)]) (rest := []) (c := 64) (sv_d k_La_law_1329 11 rfl) g_X_ships w1101 in_X_ships se_X_ships cf11 kd64 (ss_lt (by decide)) rfl (Nat.le_of_ble_eq_true rfl) (V_X_ships E (d + 77) (s.1 0 (x3 + (1 : Int32)).toNatClampNeg) (s.1 0 (x3 + (2 : Int32)).toNatClampNeg) s) (Nat.le_of_ble_eq_true rfl) rfl (fun r81 => ?_)
  show sv_V E _ _ _ 1343 _ [.int r81.1] (ss_e r81.2) _
  refine sv_aload_n (pc := 1343) 2 (sv_d k_La_law_1329 12 rfl) rfl rfl ?_
  refine sv_aload_n (pc := 1344) 0 (sv_d k_La_law_1329 13 rfl) rfl rfl ?_
  refine sv_iload_n (pc := 1345) 3 (sv_d k_La_law_1329 14 rfl) rfl rfl ?_
  refine sv_iconst (pc := 1346) (v := (1 : Int32)) (sv_d k_La_law_1329 15 rfl) (by decide) ?_
  refine sv_iadd (pc := 1347) (sv_d k_La_law_1329 16 rfl) ?_
  refine ss_iald (pc := 1348) (n := (ss_N r81.2.2.2.2.1 0)) (sv_d k_La_law_1329 17 rfl) kd0 (ss_lt (by decide)) rfl ?_
  refine sv_aload_n (pc := 1349) 0 (sv_d k_La_law_1329 18 rfl) rfl rfl ?_
  refine sv_iload_n (pc := 1350) 3 (sv_d k_La_law_1329 19 rfl) rfl rfl ?_
  refine sv_iconst (pc := 1351) (v := (2 : Int32)) (sv_d k_La_law_1329 20 rfl) (by decide) ?_
  refine sv_iadd (pc := 1352) (sv_d k_La_law_1329 21 rfl) ?_
  refine ss_iald (pc := 1353) (n := (ss_N r81.2.2.2.2.1 0)) (sv_d k_La_law_1329 22 rfl) kd0 (ss_lt (by decide)) rfl ?_
  refine sv_callV (pc := 1354) (ψ := ss_i) (As := [.int (r81.2.1 0 (x3 + (1 : Int32)).toNatClampNeg), .int (r81.2.1 0 (x3 + (2 : Int32)).toNatClampNeg)]) (rest := [.int r81.1]) (c := 187) (sv_d k_La_law_1329 23 rfl) g_Mo_ships w1835 in_Mo_ships se_Mo_ships cf12 kd187 (ss_lt (by decide)) rfl (Nat.le_of_ble_eq_true rfl) (V_Mo_ships E (d + 73) (r81.2.1 0 (x3 + (1 : Int32)).toNatClampNeg) (r81.2.1 0 (x3 + (2 : Int32)).toNatClampNeg) r81.2) (Nat.le_of_ble_eq_true rfl) rfl (fun r82 => ?_)
  show sv_V E _ _ _ 1357 _ [.int r82.1, .int r81.1] (ss_e r82.2) _
  refine sv_icmp_eq (pc := 1357) (tgt := 1919) (sv_d k_La_law_1329 24 rfl) (by decide) ?_ ?_
  · exact sv_loc [0, 1, 2, 3] rfl (V_La_law_b1919 E d kc18 hc18 x3 r82.2)
  · refine sv_iconst (pc := 1360) (v := (0 : Int32)) (sv_d k_La_law_1329 25 rfl) (by decide) ?_
    exact sv_ret (pc := 1361) (sv_d k_La_law_1329 26 rfl) ⟨_, rfl, rfl⟩ rfl
noncomputable def F_La_law_b1362 (kc18 : Int32 → sv_S → Option (Int32 × sv_S)) (x3 : Int32) (s : sv_S) : Option (Int32 × sv_S) :=
  if sv_ib (x3 + (1 : Int32)) (ss_N s.2.2.2.1 0) = true then
    if sv_ib (x3 + (2 : Int32)) (ss_N s.2.2.2.1 0) = true then
      (F_X_takings (s.1 0 (x3 + (1 : Int32)).toNatClampNeg) (s.1 0 (x3 + (2 : Int32)).toNatClampNeg) s).bind fun r84 =>
      if sv_ib (x3 + (1 : Int32)) (ss_N r84.2.2.2.2.1 0) = true then
        if sv_ib (x3 + (2 : Int32)) (ss_N r84.2.2.2.2.1 0) = true then
          (F_Mo_takings (r84.2.1 0 (x3 + (1 : Int32)).toNatClampNeg) (r84.2.1 0 (x3 + (2 : Int32)).toNatClampNeg) r84.2).bind fun r85 =>
          if r84.1 = r85.1 then
            F_La_law_b1919 kc18 x3 r85.2
          else
          some ((0 : Int32), r85.2)
        else none
      else none
    else none
  else none
theorem V_La_law_b1362 (E : sv_E) (d : Nat) (kc18 : Int32 → sv_S → Option (Int32 × sv_S)) (hc18 : ∀ (x3 : Int32) (s : sv_S), sv_V E m_La_law (d + 83) ss_i 18 [(0, sv_r E 0), (1, sv_r E 64), (2, sv_r E 187), (3, .int x3)] [] (ss_e s) (kc18 x3 s)) (x3 : Int32) (s : sv_S) : sv_V E m_La_law (d + 83) ss_i 1362 [(0, sv_r E 0), (1, sv_r E 64), (2, sv_r E 187), (3, .int x3)] [] (ss_e s) (F_La_law_b1362 kc18 x3 s) := by
  unfold F_La_law_b1362
  refine sv_aload_n (pc := 1362) 1 (sv_d k_La_law_1362 0 rfl) rfl rfl ?_
  refine sv_aload_n (pc := 1363) 0 (sv_d k_La_law_1362 1 rfl) rfl rfl ?_
  refine sv_iload_n (pc := 1364) 3 (sv_d k_La_law_1362 2 rfl) rfl rfl ?_
  refine sv_iconst (pc := 1365) (v := (1 : Int32)) (sv_d k_La_law_1362 3 rfl) (by decide) ?_
  refine sv_iadd (pc := 1366) (sv_d k_La_law_1362 4 rfl) ?_
  refine ss_iald (pc := 1367) (n := (ss_N s.2.2.2.1 0)) (sv_d k_La_law_1362 5 rfl) kd0 (ss_lt (by decide)) rfl ?_
  refine sv_aload_n (pc := 1368) 0 (sv_d k_La_law_1362 6 rfl) rfl rfl ?_
  refine sv_iload_n (pc := 1369) 3 (sv_d k_La_law_1362 7 rfl) rfl rfl ?_
  refine sv_iconst (pc := 1370) (v := (2 : Int32)) (sv_d k_La_law_1362 8 rfl) (by decide) ?_
  refine sv_iadd (pc := 1371) (sv_d k_La_law_1362 9 rfl) ?_
  refine ss_iald (pc := 1372) (n := (ss_N s.2.2.2.1 0)) (sv_d k_La_law_1362 10 rfl) kd0 (ss_lt (by decide)) rfl ?_
  refine sv_callV (pc := 1373) (ψ := ss_i) (As := [.int (s.1 0 (x3 + (1 : Int32)).toNatClampNeg), .int (s.1 0 (x3 + (2 : Int32)).toNatClampNeg)]) (rest := []) (c := 64) (sv_d k_La_law_1362 11 rfl) g_X_takings w1120 in_X_takings se_X_takings cf11 kd64 (ss_lt (by decide)) rfl (Nat.le_of_ble_eq_true rfl) (V_X_takings E (d + 76) (s.1 0 (x3 + (1 : Int32)).toNatClampNeg) (s.1 0 (x3 + (2 : Int32)).toNatClampNeg) s) (Nat.le_of_ble_eq_true rfl) rfl (fun r84 => ?_)
  show sv_V E _ _ _ 1376 _ [.int r84.1] (ss_e r84.2) _
  refine sv_aload_n (pc := 1376) 2 (sv_d k_La_law_1362 12 rfl) rfl rfl ?_
  refine sv_aload_n (pc := 1377) 0 (sv_d k_La_law_1362 13 rfl) rfl rfl ?_
  refine sv_iload_n (pc := 1378) 3 (sv_d k_La_law_1362 14 rfl) rfl rfl ?_
  refine sv_iconst (pc := 1379) (v := (1 : Int32)) (sv_d k_La_law_1362 15 rfl) (by decide) ?_
  refine sv_iadd (pc := 1380) (sv_d k_La_law_1362 16 rfl) ?_
  refine ss_iald (pc := 1381) (n := (ss_N r84.2.2.2.2.1 0)) (sv_d k_La_law_1362 17 rfl) kd0 (ss_lt (by decide)) rfl ?_
  refine sv_aload_n (pc := 1382) 0 (sv_d k_La_law_1362 18 rfl) rfl rfl ?_
  refine sv_iload_n (pc := 1383) 3 (sv_d k_La_law_1362 19 rfl) rfl rfl ?_
  refine sv_iconst (pc := 1384) (v := (2 : Int32)) (sv_d k_La_law_1362 20 rfl) (by decide) ?_
  refine sv_iadd (pc := 1385) (sv_d k_La_law_1362 21 rfl) ?_
  refine ss_iald (pc := 1386) (n := (ss_N r84.2.2.2.2.1 0)) (sv_d k_La_law_1362 22 rfl) kd0 (ss_lt (by decide)) rfl ?_
  refine sv_callV (pc := 1387) (ψ := ss_i) (As := [.int (r84.2.1 0 (x3 + (1 : Int32)).toNatClampNeg), .int (r84.2.1 0 (x3 + (2 : Int32)).toNatClampNeg)]) (rest := [.int r84.1]) (c := 187) (sv_d k_La_law_1362 23 rfl) g_Mo_takings w1843 in_Mo_takings se_Mo_takings cf12 kd187 (ss_lt (by decide)) rfl (Nat.le_of_ble_eq_true rfl) (V_Mo_takings E (d + 73) (r84.2.1 0 (x3 + (1 : Int32)).toNatClampNeg) (r84.2.1 0 (x3 + (2 : Int32)).toNatClampNeg) r84.2) (Nat.le_of_ble_eq_true rfl) rfl (fun r85 => ?_)
  show sv_V E _ _ _ 1390 _ [.int r85.1, .int r84.1] (ss_e r85.2) _
  refine sv_icmp_eq (pc := 1390) (tgt := 1919) (sv_d k_La_law_1362 24 rfl) (by decide) ?_ ?_
  · exact sv_loc [0, 1, 2, 3] rfl (V_La_law_b1919 E d kc18 hc18 x3 r85.2)
  · refine sv_iconst (pc := 1393) (v := (0 : Int32)) (sv_d k_La_law_1362 25 rfl) (by decide) ?_
    exact sv_ret (pc := 1394) (sv_d k_La_law_1362 26 rfl) ⟨_, rfl, rfl⟩ rfl
noncomputable def F_La_law_b1395 (kc18 : Int32 → sv_S → Option (Int32 × sv_S)) (x3 : Int32) (s : sv_S) : Option (Int32 × sv_S) :=
  if sv_ib (x3 + (1 : Int32)) (ss_N s.2.2.2.1 0) = true then
    if sv_ib (x3 + (2 : Int32)) (ss_N s.2.2.2.1 0) = true then
      if sv_ib (x3 + (3 : Int32)) (ss_N s.2.2.2.1 0) = true then
        (F_X_tries (s.1 0 (x3 + (1 : Int32)).toNatClampNeg) (s.1 0 (x3 + (2 : Int32)).toNatClampNeg) (s.1 0 (x3 + (3 : Int32)).toNatClampNeg) s).bind fun r87 =>
        if sv_ib (x3 + (1 : Int32)) (ss_N r87.2.2.2.2.1 0) = true then
          if sv_ib (x3 + (2 : Int32)) (ss_N r87.2.2.2.2.1 0) = true then
            if sv_ib (x3 + (3 : Int32)) (ss_N r87.2.2.2.2.1 0) = true then
              (F_Mo_tries (r87.2.1 0 (x3 + (1 : Int32)).toNatClampNeg) (r87.2.1 0 (x3 + (2 : Int32)).toNatClampNeg) (r87.2.1 0 (x3 + (3 : Int32)).toNatClampNeg) r87.2).bind fun r88 =>
              if r87.1 = r88.1 then
                F_La_law_b1919 kc18 x3 r88.2
              else
              some ((0 : Int32), r88.2)
            else none
          else none
        else none
      else none
    else none
  else none
theorem V_La_law_b1395 (E : sv_E) (d : Nat) (kc18 : Int32 → sv_S → Option (Int32 × sv_S)) (hc18 : ∀ (x3 : Int32) (s : sv_S), sv_V E m_La_law (d + 83) ss_i 18 [(0, sv_r E 0), (1, sv_r E 64), (2, sv_r E 187), (3, .int x3)] [] (ss_e s) (kc18 x3 s)) (x3 : Int32) (s : sv_S) : sv_V E m_La_law (d + 83) ss_i 1395 [(0, sv_r E 0), (1, sv_r E 64), (2, sv_r E 187), (3, .int x3)] [] (ss_e s) (F_La_law_b1395 kc18 x3 s) := by
  unfold F_La_law_b1395
  refine sv_aload_n (pc := 1395) 1 (sv_d k_La_law_1395 0 rfl) rfl rfl ?_
  refine sv_aload_n (pc := 1396) 0 (sv_d k_La_law_1395 1 rfl) rfl rfl ?_
  refine sv_iload_n (pc := 1397) 3 (sv_d k_La_law_1395 2 rfl) rfl rfl ?_
  refine sv_iconst (pc := 1398) (v := (1 : Int32)) (sv_d k_La_law_1395 3 rfl) (by decide) ?_
  refine sv_iadd (pc := 1399) (sv_d k_La_law_1395 4 rfl) ?_
  refine ss_iald (pc := 1400) (n := (ss_N s.2.2.2.1 0)) (sv_d k_La_law_1395 5 rfl) kd0 (ss_lt (by decide)) rfl ?_
  refine sv_aload_n (pc := 1401) 0 (sv_d k_La_law_1395 6 rfl) rfl rfl ?_
  refine sv_iload_n (pc := 1402) 3 (sv_d k_La_law_1395 7 rfl) rfl rfl ?_
  refine sv_iconst (pc := 1403) (v := (2 : Int32)) (sv_d k_La_law_1395 8 rfl) (by decide) ?_
  refine sv_iadd (pc := 1404) (sv_d k_La_law_1395 9 rfl) ?_
  refine ss_iald (pc := 1405) (n := (ss_N s.2.2.2.1 0)) (sv_d k_La_law_1395 10 rfl) kd0 (ss_lt (by decide)) rfl ?_
  refine sv_aload_n (pc := 1406) 0 (sv_d k_La_law_1395 11 rfl) rfl rfl ?_
  refine sv_iload_n (pc := 1407) 3 (sv_d k_La_law_1395 12 rfl) rfl rfl ?_
  refine sv_iconst (pc := 1408) (v := (3 : Int32)) (sv_d k_La_law_1395 13 rfl) (by decide) ?_
  refine sv_iadd (pc := 1409) (sv_d k_La_law_1395 14 rfl) ?_
  refine ss_iald (pc := 1410) (n := (ss_N s.2.2.2.1 0)) (sv_d k_La_law_1395 15 rfl) kd0 (ss_lt (by decide)) rfl ?_
  refine sv_callV (pc := 1411) (ψ := ss_i) (As := [.int (s.1 0 (x3 + (1 : Int32)).toNatClampNeg), .int (s.1 0 (x3 + (2 : Int32)).toNatClampNeg), .int (s.1 0 (x3 + (3 : Int32)).toNatClampNeg)]) (rest := []) (c := 64) (sv_d k_La_law_1395 16 rfl) g_X_tries w1133 in_X_tries se_X_tries cf11 kd64 (ss_lt (by decide)) rfl (Nat.le_of_ble_eq_true rfl) (V_X_tries E (d + 76) (s.1 0 (x3 + (1 : Int32)).toNatClampNeg) (s.1 0 (x3 + (2 : Int32)).toNatClampNeg) (s.1 0 (x3 + (3 : Int32)).toNatClampNeg) s) (Nat.le_of_ble_eq_true rfl) rfl (fun r87 => ?_)
  show sv_V E _ _ _ 1414 _ [.int r87.1] (ss_e r87.2) _
  refine sv_aload_n (pc := 1414) 2 (sv_d k_La_law_1395 17 rfl) rfl rfl ?_
  refine sv_aload_n (pc := 1415) 0 (sv_d k_La_law_1395 18 rfl) rfl rfl ?_
  refine sv_iload_n (pc := 1416) 3 (sv_d k_La_law_1395 19 rfl) rfl rfl ?_
  refine sv_iconst (pc := 1417) (v := (1 : Int32)) (sv_d k_La_law_1395 20 rfl) (by decide) ?_
  refine sv_iadd (pc := 1418) (sv_d k_La_law_1395 21 rfl) ?_
  refine ss_iald (pc := 1419) (n := (ss_N r87.2.2.2.2.1 0)) (sv_d k_La_law_1395 22 rfl) kd0 (ss_lt (by decide)) rfl ?_
  refine sv_aload_n (pc := 1420) 0 (sv_d k_La_law_1395 23 rfl) rfl rfl ?_
  refine sv_iload_n (pc := 1421) 3 (sv_d k_La_law_1395 24 rfl) rfl rfl ?_
  refine sv_iconst (pc := 1422) (v := (2 : Int32)) (sv_d k_La_law_1395 25 rfl) (by decide) ?_
  refine sv_iadd (pc := 1423) (sv_d k_La_law_1395 26 rfl) ?_
  refine ss_iald (pc := 1424) (n := (ss_N r87.2.2.2.2.1 0)) (sv_d k_La_law_1395 27 rfl) kd0 (ss_lt (by decide)) rfl ?_
  refine sv_aload_n (pc := 1425) 0 (sv_d k_La_law_1395 28 rfl) rfl rfl ?_
  refine sv_iload_n (pc := 1426) 3 (sv_d k_La_law_1395 29 rfl) rfl rfl ?_
  refine sv_iconst (pc := 1427) (v := (3 : Int32)) (sv_d k_La_law_1395 30 rfl) (by decide) ?_
  refine sv_iadd (pc := 1428) (sv_d k_La_law_1395 31 rfl) ?_
  refine ss_iald (pc := 1429) (n := (ss_N r87.2.2.2.2.1 0)) (sv_d k_La_law_1395 32 rfl) kd0 (ss_lt (by decide)) rfl ?_
  refine sv_callV (pc := 1430) (ψ := ss_i) (As := [.int (r87.2.1 0 (x3 + (1 : Int32)).toNatClampNeg), .int (r87.2.1 0 (x3 + (2 : Int32)).toNatClampNeg), .int (r87.2.1 0 (x3 + (3 : Int32)).toNatClampNeg)]) (rest := [.int r87.1]) (c := 187) (sv_d k_La_law_1395 33 rfl) g_Mo_tries w1851 in_Mo_tries se_Mo_tries cf12 kd187 (ss_lt (by decide)) rfl (Nat.le_of_ble_eq_true rfl) (V_Mo_tries E (d + 73) (r87.2.1 0 (x3 + (1 : Int32)).toNatClampNeg) (r87.2.1 0 (x3 + (2 : Int32)).toNatClampNeg) (r87.2.1 0 (x3 + (3 : Int32)).toNatClampNeg) r87.2) (Nat.le_of_ble_eq_true rfl) rfl (fun r88 => ?_)
  show sv_V E _ _ _ 1433 _ [.int r88.1, .int r87.1] (ss_e r88.2) _
  refine sv_icmp_eq (pc := 1433) (tgt := 1919) (sv_d k_La_law_1395 34 rfl) (by decide) ?_ ?_
  · exact sv_loc [0, 1, 2, 3] rfl (V_La_law_b1919 E d kc18 hc18 x3 r88.2)
  · refine sv_iconst (pc := 1436) (v := (0 : Int32)) (sv_d k_La_law_1395 35 rfl) (by decide) ?_
    exact sv_ret (pc := 1437) (sv_d k_La_law_1395 36 rfl) ⟨_, rfl, rfl⟩ rfl
noncomputable def F_La_law_b1438 (kc18 : Int32 → sv_S → Option (Int32 × sv_S)) (x3 : Int32) (s : sv_S) : Option (Int32 × sv_S) :=
  if sv_ib (x3 + (1 : Int32)) (ss_N s.2.2.2.1 0) = true then
    (F_X_list (s.1 0 (x3 + (1 : Int32)).toNatClampNeg) s).bind fun r90 =>
    if sv_ib (x3 + (1 : Int32)) (ss_N r90.2.2.2.2.1 0) = true then
      (F_Mo_list (r90.2.1 0 (x3 + (1 : Int32)).toNatClampNeg) r90.2).bind fun r91 =>
      if r90.1 = r91.1 then
        F_La_law_b1919 kc18 x3 r91.2
      else
      some ((0 : Int32), r91.2)
    else none
  else none
theorem V_La_law_b1438 (E : sv_E) (d : Nat) (kc18 : Int32 → sv_S → Option (Int32 × sv_S)) (hc18 : ∀ (x3 : Int32) (s : sv_S), sv_V E m_La_law (d + 83) ss_i 18 [(0, sv_r E 0), (1, sv_r E 64), (2, sv_r E 187), (3, .int x3)] [] (ss_e s) (kc18 x3 s)) (x3 : Int32) (s : sv_S) : sv_V E m_La_law (d + 83) ss_i 1438 [(0, sv_r E 0), (1, sv_r E 64), (2, sv_r E 187), (3, .int x3)] [] (ss_e s) (F_La_law_b1438 kc18 x3 s) := by
  unfold F_La_law_b1438
  refine sv_aload_n (pc := 1438) 1 (sv_d k_La_law_1438 0 rfl) rfl rfl ?_
  refine sv_aload_n (pc := 1439) 0 (sv_d k_La_law_1438 1 rfl) rfl rfl ?_
  refine sv_iload_n (pc := 1440) 3 (sv_d k_La_law_1438 2 rfl) rfl rfl ?_
  refine sv_iconst (pc := 1441) (v := (1 : Int32)) (sv_d k_La_law_1438 3 rfl) (by decide) ?_
  refine sv_iadd (pc := 1442) (sv_d k_La_law_1438 4 rfl) ?_
  refine ss_iald (pc := 1443) (n := (ss_N s.2.2.2.1 0)) (sv_d k_La_law_1438 5 rfl) kd0 (ss_lt (by decide)) rfl ?_
  refine sv_callV (pc := 1444) (ψ := ss_i) (As := [.int (s.1 0 (x3 + (1 : Int32)).toNatClampNeg)]) (rest := []) (c := 64) (sv_d k_La_law_1438 6 rfl) g_X_list w1137 in_X_list se_X_list cf11 kd64 (ss_lt (by decide)) rfl (Nat.le_of_ble_eq_true rfl) (V_X_list E (d + 81) (s.1 0 (x3 + (1 : Int32)).toNatClampNeg) s) (Nat.le_of_ble_eq_true rfl) rfl (fun r90 => ?_)
  show sv_V E _ _ _ 1447 _ [.int r90.1] (ss_e r90.2) _
  refine sv_aload_n (pc := 1447) 2 (sv_d k_La_law_1438 7 rfl) rfl rfl ?_
  refine sv_aload_n (pc := 1448) 0 (sv_d k_La_law_1438 8 rfl) rfl rfl ?_
  refine sv_iload_n (pc := 1449) 3 (sv_d k_La_law_1438 9 rfl) rfl rfl ?_
  refine sv_iconst (pc := 1450) (v := (1 : Int32)) (sv_d k_La_law_1438 10 rfl) (by decide) ?_
  refine sv_iadd (pc := 1451) (sv_d k_La_law_1438 11 rfl) ?_
  refine ss_iald (pc := 1452) (n := (ss_N r90.2.2.2.2.1 0)) (sv_d k_La_law_1438 12 rfl) kd0 (ss_lt (by decide)) rfl ?_
  refine sv_callV (pc := 1453) (ψ := ss_i) (As := [.int (r90.2.1 0 (x3 + (1 : Int32)).toNatClampNeg)]) (rest := [.int r90.1]) (c := 187) (sv_d k_La_law_1438 13 rfl) g_Mo_list w1855 in_Mo_list se_Mo_list cf12 kd187 (ss_lt (by decide)) rfl (Nat.le_of_ble_eq_true rfl) (V_Mo_list E (d + 80) (r90.2.1 0 (x3 + (1 : Int32)).toNatClampNeg) r90.2) (Nat.le_of_ble_eq_true rfl) rfl (fun r91 => ?_)
  show sv_V E _ _ _ 1456 _ [.int r91.1, .int r90.1] (ss_e r91.2) _
  refine sv_icmp_eq (pc := 1456) (tgt := 1919) (sv_d k_La_law_1438 14 rfl) (by decide) ?_ ?_
  · exact sv_loc [0, 1, 2, 3] rfl (V_La_law_b1919 E d kc18 hc18 x3 r91.2)
  · refine sv_iconst (pc := 1459) (v := (0 : Int32)) (sv_d k_La_law_1438 15 rfl) (by decide) ?_
    exact sv_ret (pc := 1460) (sv_d k_La_law_1438 16 rfl) ⟨_, rfl, rfl⟩ rfl
noncomputable def F_La_law_b1461 (kc18 : Int32 → sv_S → Option (Int32 × sv_S)) (x3 : Int32) (s : sv_S) : Option (Int32 × sv_S) :=
  (F_X_listless s).bind fun r93 =>
  (F_Mo_listless r93.2).bind fun r94 =>
  if r93.1 = r94.1 then
    F_La_law_b1919 kc18 x3 r94.2
  else
  some ((0 : Int32), r94.2)
theorem V_La_law_b1461 (E : sv_E) (d : Nat) (kc18 : Int32 → sv_S → Option (Int32 × sv_S)) (hc18 : ∀ (x3 : Int32) (s : sv_S), sv_V E m_La_law (d + 83) ss_i 18 [(0, sv_r E 0), (1, sv_r E 64), (2, sv_r E 187), (3, .int x3)] [] (ss_e s) (kc18 x3 s)) (x3 : Int32) (s : sv_S) : sv_V E m_La_law (d + 83) ss_i 1461 [(0, sv_r E 0), (1, sv_r E 64), (2, sv_r E 187), (3, .int x3)] [] (ss_e s) (F_La_law_b1461 kc18 x3 s) := by
  unfold F_La_law_b1461
  refine sv_aload_n (pc := 1461) 1 (sv_d k_La_law_1461 0 rfl) rfl rfl ?_
  refine sv_callV (pc := 1462) (ψ := ss_i) (As := []) (rest := []) (c := 64) (sv_d k_La_law_1461 1 rfl) g_X_listless w1153 in_X_listless se_X_listless cf11 kd64 (ss_lt (by decide)) rfl (Nat.le_of_ble_eq_true rfl) (V_X_listless E (d + 82) s) (Nat.le_of_ble_eq_true rfl) rfl (fun r93 => ?_)
  show sv_V E _ _ _ 1465 _ [.int r93.1] (ss_e r93.2) _
  refine sv_aload_n (pc := 1465) 2 (sv_d k_La_law_1461 2 rfl) rfl rfl ?_
  refine sv_callV (pc := 1466) (ψ := ss_i) (As := []) (rest := [.int r93.1]) (c := 187) (sv_d k_La_law_1461 3 rfl) g_Mo_listless w1859 in_Mo_listless se_Mo_listless cf12 kd187 (ss_lt (by decide)) rfl (Nat.le_of_ble_eq_true rfl) (V_Mo_listless E (d + 82) r93.2) (Nat.le_of_ble_eq_true rfl) rfl (fun r94 => ?_)
  show sv_V E _ _ _ 1469 _ [.int r94.1, .int r93.1] (ss_e r94.2) _
  refine sv_icmp_eq (pc := 1469) (tgt := 1919) (sv_d k_La_law_1461 4 rfl) (by decide) ?_ ?_
  · exact sv_loc [0, 1, 2, 3] rfl (V_La_law_b1919 E d kc18 hc18 x3 r94.2)
  · refine sv_iconst (pc := 1472) (v := (0 : Int32)) (sv_d k_La_law_1461 5 rfl) (by decide) ?_
    exact sv_ret (pc := 1473) (sv_d k_La_law_1461 6 rfl) ⟨_, rfl, rfl⟩ rfl
noncomputable def F_La_law_b1474 (kc18 : Int32 → sv_S → Option (Int32 × sv_S)) (x3 : Int32) (s : sv_S) : Option (Int32 × sv_S) :=
  if sv_ib (x3 + (1 : Int32)) (ss_N s.2.2.2.1 0) = true then
    (F_X_change (s.1 0 (x3 + (1 : Int32)).toNatClampNeg) s).bind fun r96 =>
    if sv_ib (x3 + (1 : Int32)) (ss_N r96.2.2.2.2.1 0) = true then
      (F_Mo_change (r96.2.1 0 (x3 + (1 : Int32)).toNatClampNeg) r96.2).bind fun r97 =>
      if r96.1 = r97.1 then
        F_La_law_b1919 kc18 x3 r97.2
      else
      some ((0 : Int32), r97.2)
    else none
  else none
theorem V_La_law_b1474 (E : sv_E) (d : Nat) (kc18 : Int32 → sv_S → Option (Int32 × sv_S)) (hc18 : ∀ (x3 : Int32) (s : sv_S), sv_V E m_La_law (d + 83) ss_i 18 [(0, sv_r E 0), (1, sv_r E 64), (2, sv_r E 187), (3, .int x3)] [] (ss_e s) (kc18 x3 s)) (x3 : Int32) (s : sv_S) : sv_V E m_La_law (d + 83) ss_i 1474 [(0, sv_r E 0), (1, sv_r E 64), (2, sv_r E 187), (3, .int x3)] [] (ss_e s) (F_La_law_b1474 kc18 x3 s) := by
  unfold F_La_law_b1474
  refine sv_aload_n (pc := 1474) 1 (sv_d k_La_law_1474 0 rfl) rfl rfl ?_
  refine sv_aload_n (pc := 1475) 0 (sv_d k_La_law_1474 1 rfl) rfl rfl ?_
  refine sv_iload_n (pc := 1476) 3 (sv_d k_La_law_1474 2 rfl) rfl rfl ?_
  refine sv_iconst (pc := 1477) (v := (1 : Int32)) (sv_d k_La_law_1474 3 rfl) (by decide) ?_
  refine sv_iadd (pc := 1478) (sv_d k_La_law_1474 4 rfl) ?_
  refine ss_iald (pc := 1479) (n := (ss_N s.2.2.2.1 0)) (sv_d k_La_law_1474 5 rfl) kd0 (ss_lt (by decide)) rfl ?_
  refine sv_callV (pc := 1480) (ψ := ss_i) (As := [.int (s.1 0 (x3 + (1 : Int32)).toNatClampNeg)]) (rest := []) (c := 64) (sv_d k_La_law_1474 6 rfl) g_X_change w1157 in_X_change se_X_change cf11 kd64 (ss_lt (by decide)) rfl (Nat.le_of_ble_eq_true rfl) (V_X_change E (d + 75) (s.1 0 (x3 + (1 : Int32)).toNatClampNeg) s) (Nat.le_of_ble_eq_true rfl) rfl (fun r96 => ?_)
  show sv_V E _ _ _ 1483 _ [.int r96.1] (ss_e r96.2) _
  refine sv_aload_n (pc := 1483) 2 (sv_d k_La_law_1474 7 rfl) rfl rfl ?_
  refine sv_aload_n (pc := 1484) 0 (sv_d k_La_law_1474 8 rfl) rfl rfl ?_
  refine sv_iload_n (pc := 1485) 3 (sv_d k_La_law_1474 9 rfl) rfl rfl ?_
  refine sv_iconst (pc := 1486) (v := (1 : Int32)) (sv_d k_La_law_1474 10 rfl) (by decide) ?_
  refine sv_iadd (pc := 1487) (sv_d k_La_law_1474 11 rfl) ?_
  refine ss_iald (pc := 1488) (n := (ss_N r96.2.2.2.2.1 0)) (sv_d k_La_law_1474 12 rfl) kd0 (ss_lt (by decide)) rfl ?_
  refine sv_callV (pc := 1489) (ψ := ss_i) (As := [.int (r96.2.1 0 (x3 + (1 : Int32)).toNatClampNeg)]) (rest := [.int r96.1]) (c := 187) (sv_d k_La_law_1474 13 rfl) g_Mo_change w1863 in_Mo_change se_Mo_change cf12 kd187 (ss_lt (by decide)) rfl (Nat.le_of_ble_eq_true rfl) (V_Mo_change E (d + 73) (r96.2.1 0 (x3 + (1 : Int32)).toNatClampNeg) r96.2) (Nat.le_of_ble_eq_true rfl) rfl (fun r97 => ?_)
  show sv_V E _ _ _ 1492 _ [.int r97.1, .int r96.1] (ss_e r97.2) _
  refine sv_icmp_eq (pc := 1492) (tgt := 1919) (sv_d k_La_law_1474 14 rfl) (by decide) ?_ ?_
  · exact sv_loc [0, 1, 2, 3] rfl (V_La_law_b1919 E d kc18 hc18 x3 r97.2)
  · refine sv_iconst (pc := 1495) (v := (0 : Int32)) (sv_d k_La_law_1474 15 rfl) (by decide) ?_
    exact sv_ret (pc := 1496) (sv_d k_La_law_1474 16 rfl) ⟨_, rfl, rfl⟩ rfl
noncomputable def F_La_law_b1497 (kc18 : Int32 → sv_S → Option (Int32 × sv_S)) (x3 : Int32) (s : sv_S) : Option (Int32 × sv_S) :=
  if sv_ib (x3 + (1 : Int32)) (ss_N s.2.2.2.1 0) = true then
    if sv_ib (x3 + (2 : Int32)) (ss_N s.2.2.2.1 0) = true then
      if sv_ib (x3 + (3 : Int32)) (ss_N s.2.2.2.1 0) = true then
        if sv_ib (x3 + (4 : Int32)) (ss_N s.2.2.2.1 0) = true then
          if sv_ib (x3 + (5 : Int32)) (ss_N s.2.2.2.1 0) = true then
            if sv_ib (x3 + (6 : Int32)) (ss_N s.2.2.2.1 0) = true then
              if sv_ib (x3 + (7 : Int32)) (ss_N s.2.2.2.1 0) = true then
                (F_X_friends (s.1 0 (x3 + (1 : Int32)).toNatClampNeg) (s.1 0 (x3 + (2 : Int32)).toNatClampNeg) (s.1 0 (x3 + (3 : Int32)).toNatClampNeg) (s.1 0 (x3 + (4 : Int32)).toNatClampNeg) (s.1 0 (x3 + (5 : Int32)).toNatClampNeg) (s.1 0 (x3 + (6 : Int32)).toNatClampNeg) (s.1 0 (x3 + (7 : Int32)).toNatClampNeg) s).bind fun r99 =>
                if sv_ib (x3 + (1 : Int32)) (ss_N r99.2.2.2.2.1 0) = true then
                  if sv_ib (x3 + (2 : Int32)) (ss_N r99.2.2.2.2.1 0) = true then
                    if sv_ib (x3 + (3 : Int32)) (ss_N r99.2.2.2.2.1 0) = true then
                      if sv_ib (x3 + (4 : Int32)) (ss_N r99.2.2.2.2.1 0) = true then
                        if sv_ib (x3 + (5 : Int32)) (ss_N r99.2.2.2.2.1 0) = true then
                          if sv_ib (x3 + (6 : Int32)) (ss_N r99.2.2.2.2.1 0) = true then
                            if sv_ib (x3 + (7 : Int32)) (ss_N r99.2.2.2.2.1 0) = true then
                              (F_Mo_friends (r99.2.1 0 (x3 + (1 : Int32)).toNatClampNeg) (r99.2.1 0 (x3 + (2 : Int32)).toNatClampNeg) (r99.2.1 0 (x3 + (3 : Int32)).toNatClampNeg) (r99.2.1 0 (x3 + (4 : Int32)).toNatClampNeg) (r99.2.1 0 (x3 + (5 : Int32)).toNatClampNeg) (r99.2.1 0 (x3 + (6 : Int32)).toNatClampNeg) (r99.2.1 0 (x3 + (7 : Int32)).toNatClampNeg) r99.2).bind fun r100 =>
                              if r99.1 = r100 then
                                F_La_law_b1919 kc18 x3 r99.2
                              else
                              some ((0 : Int32), r99.2)
                            else none
                          else none
                        else none
                      else none
                    else none
                  else none
                else none
              else none
            else none
          else none
        else none
      else none
    else none
  else none
theorem V_La_law_b1497 (E : sv_E) (d : Nat) (kc18 : Int32 → sv_S → Option (Int32 × sv_S)) (hc18 : ∀ (x3 : Int32) (s : sv_S), sv_V E m_La_law (d + 83) ss_i 18 [(0, sv_r E 0), (1, sv_r E 64), (2, sv_r E 187), (3, .int x3)] [] (ss_e s) (kc18 x3 s)) (x3 : Int32) (s : sv_S) : sv_V E m_La_law (d + 83) ss_i 1497 [(0, sv_r E 0), (1, sv_r E 64), (2, sv_r E 187), (3, .int x3)] [] (ss_e s) (F_La_law_b1497 kc18 x3 s) := by
  unfold F_La_law_b1497
  refine sv_aload_n (pc := 1497) 1 (sv_d k_La_law_1497 0 rfl) rfl rfl ?_
  refine sv_aload_n (pc := 1498) 0 (sv_d k_La_law_1497 1 rfl) rfl rfl ?_
  refine sv_iload_n (pc := 1499) 3 (sv_d k_La_law_1497 2 rfl) rfl rfl ?_
  refine sv_iconst (pc := 1500) (v := (1 : Int32)) (sv_d k_La_law_1497 3 rfl) (by decide) ?_
  refine sv_iadd (pc := 1501) (sv_d k_La_law_1497 4 rfl) ?_
  refine ss_iald (pc := 1502) (n := (ss_N s.2.2.2.1 0)) (sv_d k_La_law_1497 5 rfl) kd0 (ss_lt (by decide)) rfl ?_
  refine sv_aload_n (pc := 1503) 0 (sv_d k_La_law_1497 6 rfl) rfl rfl ?_
  refine sv_iload_n (pc := 1504) 3 (sv_d k_La_law_1497 7 rfl) rfl rfl ?_
  refine sv_iconst (pc := 1505) (v := (2 : Int32)) (sv_d k_La_law_1497 8 rfl) (by decide) ?_
  refine sv_iadd (pc := 1506) (sv_d k_La_law_1497 9 rfl) ?_
  refine ss_iald (pc := 1507) (n := (ss_N s.2.2.2.1 0)) (sv_d k_La_law_1497 10 rfl) kd0 (ss_lt (by decide)) rfl ?_
  refine sv_aload_n (pc := 1508) 0 (sv_d k_La_law_1497 11 rfl) rfl rfl ?_
  refine sv_iload_n (pc := 1509) 3 (sv_d k_La_law_1497 12 rfl) rfl rfl ?_
  refine sv_iconst (pc := 1510) (v := (3 : Int32)) (sv_d k_La_law_1497 13 rfl) (by decide) ?_
  refine sv_iadd (pc := 1511) (sv_d k_La_law_1497 14 rfl) ?_
  refine ss_iald (pc := 1512) (n := (ss_N s.2.2.2.1 0)) (sv_d k_La_law_1497 15 rfl) kd0 (ss_lt (by decide)) rfl ?_
  refine sv_aload_n (pc := 1513) 0 (sv_d k_La_law_1497 16 rfl) rfl rfl ?_
  refine sv_iload_n (pc := 1514) 3 (sv_d k_La_law_1497 17 rfl) rfl rfl ?_
  refine sv_iconst (pc := 1515) (v := (4 : Int32)) (sv_d k_La_law_1497 18 rfl) (by decide) ?_
  refine sv_iadd (pc := 1516) (sv_d k_La_law_1497 19 rfl) ?_
  refine ss_iald (pc := 1517) (n := (ss_N s.2.2.2.1 0)) (sv_d k_La_law_1497 20 rfl) kd0 (ss_lt (by decide)) rfl ?_
  refine sv_aload_n (pc := 1518) 0 (sv_d k_La_law_1497 21 rfl) rfl rfl ?_
  refine sv_iload_n (pc := 1519) 3 (sv_d k_La_law_1497 22 rfl) rfl rfl ?_
  refine sv_iconst (pc := 1520) (v := (5 : Int32)) (sv_d k_La_law_1497 23 rfl) (by decide) ?_
  refine sv_iadd (pc := 1521) (sv_d k_La_law_1497 24 rfl) ?_
  refine ss_iald (pc := 1522) (n := (ss_N s.2.2.2.1 0)) (sv_d k_La_law_1497 25 rfl) kd0 (ss_lt (by decide)) rfl ?_
  refine sv_aload_n (pc := 1523) 0 (sv_d k_La_law_1497 26 rfl) rfl rfl ?_
  refine sv_iload_n (pc := 1524) 3 (sv_d k_La_law_1497 27 rfl) rfl rfl ?_
  refine sv_bipush (pc := 1525) (v := (6 : Int32)) (sv_d k_La_law_1497 28 rfl) (by decide) ?_
  refine sv_iadd (pc := 1527) (sv_d k_La_law_1497 29 rfl) ?_
  refine ss_iald (pc := 1528) (n := (ss_N s.2.2.2.1 0)) (sv_d k_La_law_1497 30 rfl) kd0 (ss_lt (by decide)) rfl ?_
  refine sv_aload_n (pc := 1529) 0 (sv_d k_La_law_1497 31 rfl) rfl rfl ?_
  refine sv_iload_n (pc := 1530) 3 (sv_d k_La_law_1497 32 rfl) rfl rfl ?_
  refine sv_bipush (pc := 1531) (v := (7 : Int32)) (sv_d k_La_law_1497 33 rfl) (by decide) ?_
  refine sv_iadd (pc := 1533) (sv_d k_La_law_1497 34 rfl) ?_
  refine ss_iald (pc := 1534) (n := (ss_N s.2.2.2.1 0)) (sv_d k_La_law_1497 35 rfl) kd0 (ss_lt (by decide)) rfl ?_
  refine sv_callV (pc := 1535) (ψ := ss_i) (As := [.int (s.1 0 (x3 + (1 : Int32)).toNatClampNeg), .int (s.1 0 (x3 + (2 : Int32)).toNatClampNeg), .int (s.1 0 (x3 + (3 : Int32)).toNatClampNeg), .int (s.1 0 (x3 + (4 : Int32)).toNatClampNeg), .int (s.1 0 (x3 + (5 : Int32)).toNatClampNeg), .int (s.1 0 (x3 + (6 : Int32)).toNatClampNeg), .int (s.1 0 (x3 + (7 : Int32)).toNatClampNeg)]) (rest := []) (c := 64) (sv_d k_La_law_1497 36 rfl) g_X_friends w1188 in_X_friends se_X_friends cf11 kd64 (ss_lt (by decide)) rfl (Nat.le_of_ble_eq_true rfl) (V_X_friends E (d + 79) (s.1 0 (x3 + (1 : Int32)).toNatClampNeg) (s.1 0 (x3 + (2 : Int32)).toNatClampNeg) (s.1 0 (x3 + (3 : Int32)).toNatClampNeg) (s.1 0 (x3 + (4 : Int32)).toNatClampNeg) (s.1 0 (x3 + (5 : Int32)).toNatClampNeg) (s.1 0 (x3 + (6 : Int32)).toNatClampNeg) (s.1 0 (x3 + (7 : Int32)).toNatClampNeg) s) (Nat.le_of_ble_eq_true rfl) rfl (fun r99 => ?_)
  show sv_V E _ _ _ 1538 _ [.int r99.1] (ss_e r99.2) _
  refine sv_aload_n (pc := 1538) 2 (sv_d k_La_law_1497 37 rfl) rfl rfl ?_
  refine sv_aload_n (pc := 1539) 0 (sv_d k_La_law_1497 38 rfl) rfl rfl ?_
  refine sv_iload_n (pc := 1540) 3 (sv_d k_La_law_1497 39 rfl) rfl rfl ?_
  refine sv_iconst (pc := 1541) (v := (1 : Int32)) (sv_d k_La_law_1497 40 rfl) (by decide) ?_
  refine sv_iadd (pc := 1542) (sv_d k_La_law_1497 41 rfl) ?_
  refine ss_iald (pc := 1543) (n := (ss_N r99.2.2.2.2.1 0)) (sv_d k_La_law_1497 42 rfl) kd0 (ss_lt (by decide)) rfl ?_
  refine sv_aload_n (pc := 1544) 0 (sv_d k_La_law_1497 43 rfl) rfl rfl ?_
  refine sv_iload_n (pc := 1545) 3 (sv_d k_La_law_1497 44 rfl) rfl rfl ?_
  refine sv_iconst (pc := 1546) (v := (2 : Int32)) (sv_d k_La_law_1497 45 rfl) (by decide) ?_
  refine sv_iadd (pc := 1547) (sv_d k_La_law_1497 46 rfl) ?_
  refine ss_iald (pc := 1548) (n := (ss_N r99.2.2.2.2.1 0)) (sv_d k_La_law_1497 47 rfl) kd0 (ss_lt (by decide)) rfl ?_
  refine sv_aload_n (pc := 1549) 0 (sv_d k_La_law_1497 48 rfl) rfl rfl ?_
  refine sv_iload_n (pc := 1550) 3 (sv_d k_La_law_1497 49 rfl) rfl rfl ?_
  refine sv_iconst (pc := 1551) (v := (3 : Int32)) (sv_d k_La_law_1497 50 rfl) (by decide) ?_
  refine sv_iadd (pc := 1552) (sv_d k_La_law_1497 51 rfl) ?_
  refine ss_iald (pc := 1553) (n := (ss_N r99.2.2.2.2.1 0)) (sv_d k_La_law_1497 52 rfl) kd0 (ss_lt (by decide)) rfl ?_
  refine sv_aload_n (pc := 1554) 0 (sv_d k_La_law_1497 53 rfl) rfl rfl ?_
  refine sv_iload_n (pc := 1555) 3 (sv_d k_La_law_1497 54 rfl) rfl rfl ?_
  refine sv_iconst (pc := 1556) (v := (4 : Int32)) (sv_d k_La_law_1497 55 rfl) (by decide) ?_
  refine sv_iadd (pc := 1557) (sv_d k_La_law_1497 56 rfl) ?_
  refine ss_iald (pc := 1558) (n := (ss_N r99.2.2.2.2.1 0)) (sv_d k_La_law_1497 57 rfl) kd0 (ss_lt (by decide)) rfl ?_
  refine sv_aload_n (pc := 1559) 0 (sv_d k_La_law_1497 58 rfl) rfl rfl ?_
  refine sv_iload_n (pc := 1560) 3 (sv_d k_La_law_1497 59 rfl) rfl rfl ?_
  refine sv_iconst (pc := 1561) (v := (5 : Int32)) (sv_d k_La_law_1497 60 rfl) (by decide) ?_
  refine sv_iadd (pc := 1562) (sv_d k_La_law_1497 61 rfl) ?_
  refine ss_iald (pc := 1563) (n := (ss_N r99.2.2.2.2.1 0)) (sv_d k_La_law_1497 62 rfl) kd0 (ss_lt (by decide)) rfl ?_
  refine sv_aload_n (pc := 1564) 0 (sv_d k_La_law_1497 63 rfl) rfl rfl ?_
  refine sv_iload_n (pc := 1565) 3 (sv_d k_La_law_1497 64 rfl) rfl rfl ?_
  refine sv_bipush (pc := 1566) (v := (6 : Int32)) (sv_d k_La_law_1497 65 rfl) (by decide) ?_
  refine sv_iadd (pc := 1568) (sv_d k_La_law_1497 66 rfl) ?_
  refine ss_iald (pc := 1569) (n := (ss_N r99.2.2.2.2.1 0)) (sv_d k_La_law_1497 67 rfl) kd0 (ss_lt (by decide)) rfl ?_
  refine sv_aload_n (pc := 1570) 0 (sv_d k_La_law_1497 68 rfl) rfl rfl ?_
  refine sv_iload_n (pc := 1571) 3 (sv_d k_La_law_1497 69 rfl) rfl rfl ?_
  refine sv_bipush (pc := 1572) (v := (7 : Int32)) (sv_d k_La_law_1497 70 rfl) (by decide) ?_
  refine sv_iadd (pc := 1574) (sv_d k_La_law_1497 71 rfl) ?_
  refine ss_iald (pc := 1575) (n := (ss_N r99.2.2.2.2.1 0)) (sv_d k_La_law_1497 72 rfl) kd0 (ss_lt (by decide)) rfl ?_
  refine sv_callV (pc := 1576) (ψ := (ss_pi r99.2)) (As := [.int (r99.2.1 0 (x3 + (1 : Int32)).toNatClampNeg), .int (r99.2.1 0 (x3 + (2 : Int32)).toNatClampNeg), .int (r99.2.1 0 (x3 + (3 : Int32)).toNatClampNeg), .int (r99.2.1 0 (x3 + (4 : Int32)).toNatClampNeg), .int (r99.2.1 0 (x3 + (5 : Int32)).toNatClampNeg), .int (r99.2.1 0 (x3 + (6 : Int32)).toNatClampNeg), .int (r99.2.1 0 (x3 + (7 : Int32)).toNatClampNeg)]) (rest := [.int r99.1]) (c := 187) (sv_d k_La_law_1497 73 rfl) g_Mo_friends w1871 in_Mo_friends se_Mo_friends cf12 kd187 (ss_lt (by decide)) rfl (Nat.le_of_ble_eq_true rfl) (V_Mo_friends E (d + 80) (r99.2.1 0 (x3 + (1 : Int32)).toNatClampNeg) (r99.2.1 0 (x3 + (2 : Int32)).toNatClampNeg) (r99.2.1 0 (x3 + (3 : Int32)).toNatClampNeg) (r99.2.1 0 (x3 + (4 : Int32)).toNatClampNeg) (r99.2.1 0 (x3 + (5 : Int32)).toNatClampNeg) (r99.2.1 0 (x3 + (6 : Int32)).toNatClampNeg) (r99.2.1 0 (x3 + (7 : Int32)).toNatClampNeg) r99.2) (Nat.le_of_ble_eq_true rfl) rfl (fun r100 => ?_)
  show sv_V E _ _ _ 1579 _ [.int r100, .int r99.1] (ss_e r99.2) _
  refine sv_icmp_eq (pc := 1579) (tgt := 1919) (sv_d k_La_law_1497 74 rfl) (by decide) ?_ ?_
  · exact sv_loc [0, 1, 2, 3] rfl (V_La_law_b1919 E d kc18 hc18 x3 r99.2)
  · refine sv_iconst (pc := 1582) (v := (0 : Int32)) (sv_d k_La_law_1497 75 rfl) (by decide) ?_
    exact sv_ret (pc := 1583) (sv_d k_La_law_1497 76 rfl) ⟨_, rfl, rfl⟩ rfl
noncomputable def F_La_law_b1584 (kc18 : Int32 → sv_S → Option (Int32 × sv_S)) (x3 : Int32) (s : sv_S) : Option (Int32 × sv_S) :=
  if sv_ib (x3 + (1 : Int32)) (ss_N s.2.2.2.1 0) = true then
    if sv_ib (x3 + (2 : Int32)) (ss_N s.2.2.2.1 0) = true then
      if sv_ib (x3 + (3 : Int32)) (ss_N s.2.2.2.1 0) = true then
        (F_X_act (s.1 0 (x3 + (1 : Int32)).toNatClampNeg) (s.1 0 (x3 + (2 : Int32)).toNatClampNeg) (s.1 0 (x3 + (3 : Int32)).toNatClampNeg) s).bind fun r102 =>
        if sv_ib (x3 + (1 : Int32)) (ss_N r102.2.2.2.2.1 0) = true then
          if sv_ib (x3 + (2 : Int32)) (ss_N r102.2.2.2.2.1 0) = true then
            if sv_ib (x3 + (3 : Int32)) (ss_N r102.2.2.2.2.1 0) = true then
              (F_Mo_act (r102.2.1 0 (x3 + (1 : Int32)).toNatClampNeg) (r102.2.1 0 (x3 + (2 : Int32)).toNatClampNeg) (r102.2.1 0 (x3 + (3 : Int32)).toNatClampNeg) r102.2).bind fun r103 =>
              if r102.1 = r103.1 then
                F_La_law_b1919 kc18 x3 r103.2
              else
              some ((0 : Int32), r103.2)
            else none
          else none
        else none
      else none
    else none
  else none
theorem V_La_law_b1584 (E : sv_E) (d : Nat) (kc18 : Int32 → sv_S → Option (Int32 × sv_S)) (hc18 : ∀ (x3 : Int32) (s : sv_S), sv_V E m_La_law (d + 83) ss_i 18 [(0, sv_r E 0), (1, sv_r E 64), (2, sv_r E 187), (3, .int x3)] [] (ss_e s) (kc18 x3 s)) (x3 : Int32) (s : sv_S) : sv_V E m_La_law (d + 83) ss_i 1584 [(0, sv_r E 0), (1, sv_r E 64), (2, sv_r E 187), (3, .int x3)] [] (ss_e s) (F_La_law_b1584 kc18 x3 s) := by
  unfold F_La_law_b1584
  refine sv_aload_n (pc := 1584) 1 (sv_d k_La_law_1584 0 rfl) rfl rfl ?_
  refine sv_aload_n (pc := 1585) 0 (sv_d k_La_law_1584 1 rfl) rfl rfl ?_
  refine sv_iload_n (pc := 1586) 3 (sv_d k_La_law_1584 2 rfl) rfl rfl ?_
  refine sv_iconst (pc := 1587) (v := (1 : Int32)) (sv_d k_La_law_1584 3 rfl) (by decide) ?_
  refine sv_iadd (pc := 1588) (sv_d k_La_law_1584 4 rfl) ?_
  refine ss_iald (pc := 1589) (n := (ss_N s.2.2.2.1 0)) (sv_d k_La_law_1584 5 rfl) kd0 (ss_lt (by decide)) rfl ?_
  refine sv_aload_n (pc := 1590) 0 (sv_d k_La_law_1584 6 rfl) rfl rfl ?_
  refine sv_iload_n (pc := 1591) 3 (sv_d k_La_law_1584 7 rfl) rfl rfl ?_
  refine sv_iconst (pc := 1592) (v := (2 : Int32)) (sv_d k_La_law_1584 8 rfl) (by decide) ?_
  refine sv_iadd (pc := 1593) (sv_d k_La_law_1584 9 rfl) ?_
  refine ss_iald (pc := 1594) (n := (ss_N s.2.2.2.1 0)) (sv_d k_La_law_1584 10 rfl) kd0 (ss_lt (by decide)) rfl ?_
  refine sv_aload_n (pc := 1595) 0 (sv_d k_La_law_1584 11 rfl) rfl rfl ?_
  refine sv_iload_n (pc := 1596) 3 (sv_d k_La_law_1584 12 rfl) rfl rfl ?_
  refine sv_iconst (pc := 1597) (v := (3 : Int32)) (sv_d k_La_law_1584 13 rfl) (by decide) ?_
  refine sv_iadd (pc := 1598) (sv_d k_La_law_1584 14 rfl) ?_
  refine ss_iald (pc := 1599) (n := (ss_N s.2.2.2.1 0)) (sv_d k_La_law_1584 15 rfl) kd0 (ss_lt (by decide)) rfl ?_
  refine sv_callV (pc := 1600) (ψ := ss_i) (As := [.int (s.1 0 (x3 + (1 : Int32)).toNatClampNeg), .int (s.1 0 (x3 + (2 : Int32)).toNatClampNeg), .int (s.1 0 (x3 + (3 : Int32)).toNatClampNeg)]) (rest := []) (c := 64) (sv_d k_La_law_1584 16 rfl) g_X_act w1214 in_X_act se_X_act cf11 kd64 (ss_lt (by decide)) rfl (Nat.le_of_ble_eq_true rfl) (V_X_act E (d + 0) (s.1 0 (x3 + (1 : Int32)).toNatClampNeg) (s.1 0 (x3 + (2 : Int32)).toNatClampNeg) (s.1 0 (x3 + (3 : Int32)).toNatClampNeg) s) (Nat.le_of_ble_eq_true rfl) rfl (fun r102 => ?_)
  show sv_V E _ _ _ 1603 _ [.int r102.1] (ss_e r102.2) _
  refine sv_aload_n (pc := 1603) 2 (sv_d k_La_law_1584 17 rfl) rfl rfl ?_
  refine sv_aload_n (pc := 1604) 0 (sv_d k_La_law_1584 18 rfl) rfl rfl ?_
  refine sv_iload_n (pc := 1605) 3 (sv_d k_La_law_1584 19 rfl) rfl rfl ?_
  refine sv_iconst (pc := 1606) (v := (1 : Int32)) (sv_d k_La_law_1584 20 rfl) (by decide) ?_
  refine sv_iadd (pc := 1607) (sv_d k_La_law_1584 21 rfl) ?_
  refine ss_iald (pc := 1608) (n := (ss_N r102.2.2.2.2.1 0)) (sv_d k_La_law_1584 22 rfl) kd0 (ss_lt (by decide)) rfl ?_
  refine sv_aload_n (pc := 1609) 0 (sv_d k_La_law_1584 23 rfl) rfl rfl ?_
  refine sv_iload_n (pc := 1610) 3 (sv_d k_La_law_1584 24 rfl) rfl rfl ?_
  refine sv_iconst (pc := 1611) (v := (2 : Int32)) (sv_d k_La_law_1584 25 rfl) (by decide) ?_
  refine sv_iadd (pc := 1612) (sv_d k_La_law_1584 26 rfl) ?_
  refine ss_iald (pc := 1613) (n := (ss_N r102.2.2.2.2.1 0)) (sv_d k_La_law_1584 27 rfl) kd0 (ss_lt (by decide)) rfl ?_
  refine sv_aload_n (pc := 1614) 0 (sv_d k_La_law_1584 28 rfl) rfl rfl ?_
  refine sv_iload_n (pc := 1615) 3 (sv_d k_La_law_1584 29 rfl) rfl rfl ?_
  refine sv_iconst (pc := 1616) (v := (3 : Int32)) (sv_d k_La_law_1584 30 rfl) (by decide) ?_
  refine sv_iadd (pc := 1617) (sv_d k_La_law_1584 31 rfl) ?_
  refine ss_iald (pc := 1618) (n := (ss_N r102.2.2.2.2.1 0)) (sv_d k_La_law_1584 32 rfl) kd0 (ss_lt (by decide)) rfl ?_
  refine sv_callV (pc := 1619) (ψ := ss_i) (As := [.int (r102.2.1 0 (x3 + (1 : Int32)).toNatClampNeg), .int (r102.2.1 0 (x3 + (2 : Int32)).toNatClampNeg), .int (r102.2.1 0 (x3 + (3 : Int32)).toNatClampNeg)]) (rest := [.int r102.1]) (c := 187) (sv_d k_La_law_1584 33 rfl) g_Mo_act w1879 in_Mo_act se_Mo_act cf12 kd187 (ss_lt (by decide)) rfl (Nat.le_of_ble_eq_true rfl) (V_Mo_act E (d + 74) (r102.2.1 0 (x3 + (1 : Int32)).toNatClampNeg) (r102.2.1 0 (x3 + (2 : Int32)).toNatClampNeg) (r102.2.1 0 (x3 + (3 : Int32)).toNatClampNeg) r102.2) (Nat.le_of_ble_eq_true rfl) rfl (fun r103 => ?_)
  show sv_V E _ _ _ 1622 _ [.int r103.1, .int r102.1] (ss_e r103.2) _
  refine sv_icmp_eq (pc := 1622) (tgt := 1919) (sv_d k_La_law_1584 34 rfl) (by decide) ?_ ?_
  · exact sv_loc [0, 1, 2, 3] rfl (V_La_law_b1919 E d kc18 hc18 x3 r103.2)
  · refine sv_iconst (pc := 1625) (v := (0 : Int32)) (sv_d k_La_law_1584 35 rfl) (by decide) ?_
    exact sv_ret (pc := 1626) (sv_d k_La_law_1584 36 rfl) ⟨_, rfl, rfl⟩ rfl
noncomputable def F_La_law_b1627 (kc18 : Int32 → sv_S → Option (Int32 × sv_S)) (x3 : Int32) (s : sv_S) : Option (Int32 × sv_S) :=
  if sv_ib (x3 + (1 : Int32)) (ss_N s.2.2.2.1 0) = true then
    (F_X_trace (s.1 0 (x3 + (1 : Int32)).toNatClampNeg) s).bind fun r105 =>
    if sv_ib (x3 + (1 : Int32)) (ss_N s.2.2.2.1 0) = true then
      (F_Mo_trace (s.1 0 (x3 + (1 : Int32)).toNatClampNeg) s).bind fun r106 =>
      if r105 = r106 then
        F_La_law_b1919 kc18 x3 s
      else
      some ((0 : Int32), s)
    else none
  else none
theorem V_La_law_b1627 (E : sv_E) (d : Nat) (kc18 : Int32 → sv_S → Option (Int32 × sv_S)) (hc18 : ∀ (x3 : Int32) (s : sv_S), sv_V E m_La_law (d + 83) ss_i 18 [(0, sv_r E 0), (1, sv_r E 64), (2, sv_r E 187), (3, .int x3)] [] (ss_e s) (kc18 x3 s)) (x3 : Int32) (s : sv_S) : sv_V E m_La_law (d + 83) ss_i 1627 [(0, sv_r E 0), (1, sv_r E 64), (2, sv_r E 187), (3, .int x3)] [] (ss_e s) (F_La_law_b1627 kc18 x3 s) := by
  unfold F_La_law_b1627
  refine sv_aload_n (pc := 1627) 1 (sv_d k_La_law_1627 0 rfl) rfl rfl ?_
  refine sv_aload_n (pc := 1628) 0 (sv_d k_La_law_1627 1 rfl) rfl rfl ?_
  refine sv_iload_n (pc := 1629) 3 (sv_d k_La_law_1627 2 rfl) rfl rfl ?_
  refine sv_iconst (pc := 1630) (v := (1 : Int32)) (sv_d k_La_law_1627 3 rfl) (by decide) ?_
  refine sv_iadd (pc := 1631) (sv_d k_La_law_1627 4 rfl) ?_
  refine ss_iald (pc := 1632) (n := (ss_N s.2.2.2.1 0)) (sv_d k_La_law_1627 5 rfl) kd0 (ss_lt (by decide)) rfl ?_
  refine sv_callV (pc := 1633) (ψ := (ss_pi s)) (As := [.int (s.1 0 (x3 + (1 : Int32)).toNatClampNeg)]) (rest := []) (c := 64) (sv_d k_La_law_1627 6 rfl) g_X_trace w1246 in_X_trace se_X_trace cf11 kd64 (ss_lt (by decide)) rfl (Nat.le_of_ble_eq_true rfl) (V_X_trace E (d + 81) (s.1 0 (x3 + (1 : Int32)).toNatClampNeg) s) (Nat.le_of_ble_eq_true rfl) rfl (fun r105 => ?_)
  show sv_V E _ _ _ 1636 _ [.int r105] (ss_e s) _
  refine sv_aload_n (pc := 1636) 2 (sv_d k_La_law_1627 7 rfl) rfl rfl ?_
  refine sv_aload_n (pc := 1637) 0 (sv_d k_La_law_1627 8 rfl) rfl rfl ?_
  refine sv_iload_n (pc := 1638) 3 (sv_d k_La_law_1627 9 rfl) rfl rfl ?_
  refine sv_iconst (pc := 1639) (v := (1 : Int32)) (sv_d k_La_law_1627 10 rfl) (by decide) ?_
  refine sv_iadd (pc := 1640) (sv_d k_La_law_1627 11 rfl) ?_
  refine ss_iald (pc := 1641) (n := (ss_N s.2.2.2.1 0)) (sv_d k_La_law_1627 12 rfl) kd0 (ss_lt (by decide)) rfl ?_
  refine sv_callV (pc := 1642) (ψ := (ss_pi s)) (As := [.int (s.1 0 (x3 + (1 : Int32)).toNatClampNeg)]) (rest := [.int r105]) (c := 187) (sv_d k_La_law_1627 13 rfl) g_Mo_trace w1915 in_Mo_trace se_Mo_trace cf12 kd187 (ss_lt (by decide)) rfl (Nat.le_of_ble_eq_true rfl) (V_Mo_trace E (d + 81) (s.1 0 (x3 + (1 : Int32)).toNatClampNeg) s) (Nat.le_of_ble_eq_true rfl) rfl (fun r106 => ?_)
  show sv_V E _ _ _ 1645 _ [.int r106, .int r105] (ss_e s) _
  refine sv_icmp_eq (pc := 1645) (tgt := 1919) (sv_d k_La_law_1627 14 rfl) (by decide) ?_ ?_
  · exact sv_loc [0, 1, 2, 3] rfl (V_La_law_b1919 E d kc18 hc18 x3 s)
  · refine sv_iconst (pc := 1648) (v := (0 : Int32)) (sv_d k_La_law_1627 15 rfl) (by decide) ?_
    exact sv_ret (pc := 1649) (sv_d k_La_law_1627 16 rfl) ⟨_, rfl, rfl⟩ rfl
noncomputable def F_La_law_b1650 (kc18 : Int32 → sv_S → Option (Int32 × sv_S)) (x3 : Int32) (s : sv_S) : Option (Int32 × sv_S) :=
  if sv_ib (x3 + (1 : Int32)) (ss_N s.2.2.2.1 0) = true then
    if sv_ib (x3 + (2 : Int32)) (ss_N s.2.2.2.1 0) = true then
      (F_X_taken (s.1 0 (x3 + (1 : Int32)).toNatClampNeg) (s.1 0 (x3 + (2 : Int32)).toNatClampNeg) s).bind fun r108 =>
      if sv_ib (x3 + (1 : Int32)) (ss_N s.2.2.2.1 0) = true then
        if sv_ib (x3 + (2 : Int32)) (ss_N s.2.2.2.1 0) = true then
          (F_Mo_taken (s.1 0 (x3 + (1 : Int32)).toNatClampNeg) (s.1 0 (x3 + (2 : Int32)).toNatClampNeg) s).bind fun r109 =>
          if r108 = r109 then
            F_La_law_b1919 kc18 x3 s
          else
          some ((0 : Int32), s)
        else none
      else none
    else none
  else none
theorem V_La_law_b1650 (E : sv_E) (d : Nat) (kc18 : Int32 → sv_S → Option (Int32 × sv_S)) (hc18 : ∀ (x3 : Int32) (s : sv_S), sv_V E m_La_law (d + 83) ss_i 18 [(0, sv_r E 0), (1, sv_r E 64), (2, sv_r E 187), (3, .int x3)] [] (ss_e s) (kc18 x3 s)) (x3 : Int32) (s : sv_S) : sv_V E m_La_law (d + 83) ss_i 1650 [(0, sv_r E 0), (1, sv_r E 64), (2, sv_r E 187), (3, .int x3)] [] (ss_e s) (F_La_law_b1650 kc18 x3 s) := by
  unfold F_La_law_b1650
  refine sv_aload_n (pc := 1650) 1 (sv_d k_La_law_1650 0 rfl) rfl rfl ?_
  refine sv_aload_n (pc := 1651) 0 (sv_d k_La_law_1650 1 rfl) rfl rfl ?_
  refine sv_iload_n (pc := 1652) 3 (sv_d k_La_law_1650 2 rfl) rfl rfl ?_
  refine sv_iconst (pc := 1653) (v := (1 : Int32)) (sv_d k_La_law_1650 3 rfl) (by decide) ?_
  refine sv_iadd (pc := 1654) (sv_d k_La_law_1650 4 rfl) ?_
  refine ss_iald (pc := 1655) (n := (ss_N s.2.2.2.1 0)) (sv_d k_La_law_1650 5 rfl) kd0 (ss_lt (by decide)) rfl ?_
  refine sv_aload_n (pc := 1656) 0 (sv_d k_La_law_1650 6 rfl) rfl rfl ?_
  refine sv_iload_n (pc := 1657) 3 (sv_d k_La_law_1650 7 rfl) rfl rfl ?_
  refine sv_iconst (pc := 1658) (v := (2 : Int32)) (sv_d k_La_law_1650 8 rfl) (by decide) ?_
  refine sv_iadd (pc := 1659) (sv_d k_La_law_1650 9 rfl) ?_
  refine ss_iald (pc := 1660) (n := (ss_N s.2.2.2.1 0)) (sv_d k_La_law_1650 10 rfl) kd0 (ss_lt (by decide)) rfl ?_
  refine sv_callV (pc := 1661) (ψ := (ss_pi s)) (As := [.int (s.1 0 (x3 + (1 : Int32)).toNatClampNeg), .int (s.1 0 (x3 + (2 : Int32)).toNatClampNeg)]) (rest := []) (c := 64) (sv_d k_La_law_1650 11 rfl) g_X_taken w1254 in_X_taken se_X_taken cf11 kd64 (ss_lt (by decide)) rfl (Nat.le_of_ble_eq_true rfl) (V_X_taken E (d + 81) (s.1 0 (x3 + (1 : Int32)).toNatClampNeg) (s.1 0 (x3 + (2 : Int32)).toNatClampNeg) s) (Nat.le_of_ble_eq_true rfl) rfl (fun r108 => ?_)
  show sv_V E _ _ _ 1664 _ [.int r108] (ss_e s) _
  refine sv_aload_n (pc := 1664) 2 (sv_d k_La_law_1650 12 rfl) rfl rfl ?_
  refine sv_aload_n (pc := 1665) 0 (sv_d k_La_law_1650 13 rfl) rfl rfl ?_
  refine sv_iload_n (pc := 1666) 3 (sv_d k_La_law_1650 14 rfl) rfl rfl ?_
  refine sv_iconst (pc := 1667) (v := (1 : Int32)) (sv_d k_La_law_1650 15 rfl) (by decide) ?_
  refine sv_iadd (pc := 1668) (sv_d k_La_law_1650 16 rfl) ?_
  refine ss_iald (pc := 1669) (n := (ss_N s.2.2.2.1 0)) (sv_d k_La_law_1650 17 rfl) kd0 (ss_lt (by decide)) rfl ?_
  refine sv_aload_n (pc := 1670) 0 (sv_d k_La_law_1650 18 rfl) rfl rfl ?_
  refine sv_iload_n (pc := 1671) 3 (sv_d k_La_law_1650 19 rfl) rfl rfl ?_
  refine sv_iconst (pc := 1672) (v := (2 : Int32)) (sv_d k_La_law_1650 20 rfl) (by decide) ?_
  refine sv_iadd (pc := 1673) (sv_d k_La_law_1650 21 rfl) ?_
  refine ss_iald (pc := 1674) (n := (ss_N s.2.2.2.1 0)) (sv_d k_La_law_1650 22 rfl) kd0 (ss_lt (by decide)) rfl ?_
  refine sv_callV (pc := 1675) (ψ := (ss_pi s)) (As := [.int (s.1 0 (x3 + (1 : Int32)).toNatClampNeg), .int (s.1 0 (x3 + (2 : Int32)).toNatClampNeg)]) (rest := [.int r108]) (c := 187) (sv_d k_La_law_1650 23 rfl) g_Mo_taken w1919 in_Mo_taken se_Mo_taken cf12 kd187 (ss_lt (by decide)) rfl (Nat.le_of_ble_eq_true rfl) (V_Mo_taken E (d + 80) (s.1 0 (x3 + (1 : Int32)).toNatClampNeg) (s.1 0 (x3 + (2 : Int32)).toNatClampNeg) s) (Nat.le_of_ble_eq_true rfl) rfl (fun r109 => ?_)
  show sv_V E _ _ _ 1678 _ [.int r109, .int r108] (ss_e s) _
  refine sv_icmp_eq (pc := 1678) (tgt := 1919) (sv_d k_La_law_1650 24 rfl) (by decide) ?_ ?_
  · exact sv_loc [0, 1, 2, 3] rfl (V_La_law_b1919 E d kc18 hc18 x3 s)
  · refine sv_iconst (pc := 1681) (v := (0 : Int32)) (sv_d k_La_law_1650 25 rfl) (by decide) ?_
    exact sv_ret (pc := 1682) (sv_d k_La_law_1650 26 rfl) ⟨_, rfl, rfl⟩ rfl
noncomputable def F_La_law_b1683 (kc18 : Int32 → sv_S → Option (Int32 × sv_S)) (x3 : Int32) (s : sv_S) : Option (Int32 × sv_S) :=
  if sv_ib (x3 + (1 : Int32)) (ss_N s.2.2.2.1 0) = true then
    (F_X_count (s.1 0 (x3 + (1 : Int32)).toNatClampNeg) s).bind fun r111 =>
    if sv_ib (x3 + (1 : Int32)) (ss_N s.2.2.2.1 0) = true then
      (F_Mo_count (s.1 0 (x3 + (1 : Int32)).toNatClampNeg) s).bind fun r112 =>
      if r111 = r112 then
        F_La_law_b1919 kc18 x3 s
      else
      some ((0 : Int32), s)
    else none
  else none
theorem V_La_law_b1683 (E : sv_E) (d : Nat) (kc18 : Int32 → sv_S → Option (Int32 × sv_S)) (hc18 : ∀ (x3 : Int32) (s : sv_S), sv_V E m_La_law (d + 83) ss_i 18 [(0, sv_r E 0), (1, sv_r E 64), (2, sv_r E 187), (3, .int x3)] [] (ss_e s) (kc18 x3 s)) (x3 : Int32) (s : sv_S) : sv_V E m_La_law (d + 83) ss_i 1683 [(0, sv_r E 0), (1, sv_r E 64), (2, sv_r E 187), (3, .int x3)] [] (ss_e s) (F_La_law_b1683 kc18 x3 s) := by
  unfold F_La_law_b1683
  refine sv_aload_n (pc := 1683) 1 (sv_d k_La_law_1683 0 rfl) rfl rfl ?_
  refine sv_aload_n (pc := 1684) 0 (sv_d k_La_law_1683 1 rfl) rfl rfl ?_
  refine sv_iload_n (pc := 1685) 3 (sv_d k_La_law_1683 2 rfl) rfl rfl ?_
  refine sv_iconst (pc := 1686) (v := (1 : Int32)) (sv_d k_La_law_1683 3 rfl) (by decide) ?_
  refine sv_iadd (pc := 1687) (sv_d k_La_law_1683 4 rfl) ?_
  refine ss_iald (pc := 1688) (n := (ss_N s.2.2.2.1 0)) (sv_d k_La_law_1683 5 rfl) kd0 (ss_lt (by decide)) rfl ?_
  refine sv_callV (pc := 1689) (ψ := (ss_pi s)) (As := [.int (s.1 0 (x3 + (1 : Int32)).toNatClampNeg)]) (rest := []) (c := 64) (sv_d k_La_law_1683 6 rfl) g_X_count w1261 in_X_count se_X_count cf11 kd64 (ss_lt (by decide)) rfl (Nat.le_of_ble_eq_true rfl) (V_X_count E (d + 82) (s.1 0 (x3 + (1 : Int32)).toNatClampNeg) s) (Nat.le_of_ble_eq_true rfl) rfl (fun r111 => ?_)
  show sv_V E _ _ _ 1692 _ [.int r111] (ss_e s) _
  refine sv_aload_n (pc := 1692) 2 (sv_d k_La_law_1683 7 rfl) rfl rfl ?_
  refine sv_aload_n (pc := 1693) 0 (sv_d k_La_law_1683 8 rfl) rfl rfl ?_
  refine sv_iload_n (pc := 1694) 3 (sv_d k_La_law_1683 9 rfl) rfl rfl ?_
  refine sv_iconst (pc := 1695) (v := (1 : Int32)) (sv_d k_La_law_1683 10 rfl) (by decide) ?_
  refine sv_iadd (pc := 1696) (sv_d k_La_law_1683 11 rfl) ?_
  refine ss_iald (pc := 1697) (n := (ss_N s.2.2.2.1 0)) (sv_d k_La_law_1683 12 rfl) kd0 (ss_lt (by decide)) rfl ?_
  refine sv_callV (pc := 1698) (ψ := (ss_pi s)) (As := [.int (s.1 0 (x3 + (1 : Int32)).toNatClampNeg)]) (rest := [.int r111]) (c := 187) (sv_d k_La_law_1683 13 rfl) g_Mo_count w1923 in_Mo_count se_Mo_count cf12 kd187 (ss_lt (by decide)) rfl (Nat.le_of_ble_eq_true rfl) (V_Mo_count E (d + 82) (s.1 0 (x3 + (1 : Int32)).toNatClampNeg) s) (Nat.le_of_ble_eq_true rfl) rfl (fun r112 => ?_)
  show sv_V E _ _ _ 1701 _ [.int r112, .int r111] (ss_e s) _
  refine sv_icmp_eq (pc := 1701) (tgt := 1919) (sv_d k_La_law_1683 14 rfl) (by decide) ?_ ?_
  · exact sv_loc [0, 1, 2, 3] rfl (V_La_law_b1919 E d kc18 hc18 x3 s)
  · refine sv_iconst (pc := 1704) (v := (0 : Int32)) (sv_d k_La_law_1683 15 rfl) (by decide) ?_
    exact sv_ret (pc := 1705) (sv_d k_La_law_1683 16 rfl) ⟨_, rfl, rfl⟩ rfl
noncomputable def F_La_law_b1706 (kc18 : Int32 → sv_S → Option (Int32 × sv_S)) (x3 : Int32) (s : sv_S) : Option (Int32 × sv_S) :=
  if sv_ib (x3 + (1 : Int32)) (ss_N s.2.2.2.1 0) = true then
    if sv_ib (x3 + (2 : Int32)) (ss_N s.2.2.2.1 0) = true then
      if sv_ib (x3 + (3 : Int32)) (ss_N s.2.2.2.1 0) = true then
        (F_X_tape (s.1 0 (x3 + (1 : Int32)).toNatClampNeg) (s.1 0 (x3 + (2 : Int32)).toNatClampNeg) (s.1 0 (x3 + (3 : Int32)).toNatClampNeg) s).bind fun r114 =>
        if sv_ib (x3 + (1 : Int32)) (ss_N r114.2.2.2.2.1 0) = true then
          if sv_ib (x3 + (2 : Int32)) (ss_N r114.2.2.2.2.1 0) = true then
            if sv_ib (x3 + (3 : Int32)) (ss_N r114.2.2.2.2.1 0) = true then
              (F_Mo_tape (r114.2.1 0 (x3 + (1 : Int32)).toNatClampNeg) (r114.2.1 0 (x3 + (2 : Int32)).toNatClampNeg) (r114.2.1 0 (x3 + (3 : Int32)).toNatClampNeg) r114.2).bind fun r115 =>
              if r114.1 = r115.1 then
                F_La_law_b1919 kc18 x3 r115.2
              else
              some ((0 : Int32), r115.2)
            else none
          else none
        else none
      else none
    else none
  else none
theorem V_La_law_b1706 (E : sv_E) (d : Nat) (kc18 : Int32 → sv_S → Option (Int32 × sv_S)) (hc18 : ∀ (x3 : Int32) (s : sv_S), sv_V E m_La_law (d + 83) ss_i 18 [(0, sv_r E 0), (1, sv_r E 64), (2, sv_r E 187), (3, .int x3)] [] (ss_e s) (kc18 x3 s)) (x3 : Int32) (s : sv_S) : sv_V E m_La_law (d + 83) ss_i 1706 [(0, sv_r E 0), (1, sv_r E 64), (2, sv_r E 187), (3, .int x3)] [] (ss_e s) (F_La_law_b1706 kc18 x3 s) := by
  unfold F_La_law_b1706
  refine sv_aload_n (pc := 1706) 1 (sv_d k_La_law_1706 0 rfl) rfl rfl ?_
  refine sv_aload_n (pc := 1707) 0 (sv_d k_La_law_1706 1 rfl) rfl rfl ?_
  refine sv_iload_n (pc := 1708) 3 (sv_d k_La_law_1706 2 rfl) rfl rfl ?_
  refine sv_iconst (pc := 1709) (v := (1 : Int32)) (sv_d k_La_law_1706 3 rfl) (by decide) ?_
  refine sv_iadd (pc := 1710) (sv_d k_La_law_1706 4 rfl) ?_
  refine ss_iald (pc := 1711) (n := (ss_N s.2.2.2.1 0)) (sv_d k_La_law_1706 5 rfl) kd0 (ss_lt (by decide)) rfl ?_
  refine sv_aload_n (pc := 1712) 0 (sv_d k_La_law_1706 6 rfl) rfl rfl ?_
  refine sv_iload_n (pc := 1713) 3 (sv_d k_La_law_1706 7 rfl) rfl rfl ?_
  refine sv_iconst (pc := 1714) (v := (2 : Int32)) (sv_d k_La_law_1706 8 rfl) (by decide) ?_
  refine sv_iadd (pc := 1715) (sv_d k_La_law_1706 9 rfl) ?_
  refine ss_iald (pc := 1716) (n := (ss_N s.2.2.2.1 0)) (sv_d k_La_law_1706 10 rfl) kd0 (ss_lt (by decide)) rfl ?_
  refine sv_aload_n (pc := 1717) 0 (sv_d k_La_law_1706 11 rfl) rfl rfl ?_
  refine sv_iload_n (pc := 1718) 3 (sv_d k_La_law_1706 12 rfl) rfl rfl ?_
  refine sv_iconst (pc := 1719) (v := (3 : Int32)) (sv_d k_La_law_1706 13 rfl) (by decide) ?_
  refine sv_iadd (pc := 1720) (sv_d k_La_law_1706 14 rfl) ?_
  refine ss_iald (pc := 1721) (n := (ss_N s.2.2.2.1 0)) (sv_d k_La_law_1706 15 rfl) kd0 (ss_lt (by decide)) rfl ?_
  refine sv_callV (pc := 1722) (ψ := ss_i) (As := [.int (s.1 0 (x3 + (1 : Int32)).toNatClampNeg), .int (s.1 0 (x3 + (2 : Int32)).toNatClampNeg), .int (s.1 0 (x3 + (3 : Int32)).toNatClampNeg)]) (rest := []) (c := 64) (sv_d k_La_law_1706 16 rfl) g_X_tape w1265 in_X_tape se_X_tape cf11 kd64 (ss_lt (by decide)) rfl (Nat.le_of_ble_eq_true rfl) (V_X_tape E (d + 80) (s.1 0 (x3 + (1 : Int32)).toNatClampNeg) (s.1 0 (x3 + (2 : Int32)).toNatClampNeg) (s.1 0 (x3 + (3 : Int32)).toNatClampNeg) s) (Nat.le_of_ble_eq_true rfl) rfl (fun r114 => ?_)
  show sv_V E _ _ _ 1725 _ [.int r114.1] (ss_e r114.2) _
  refine sv_aload_n (pc := 1725) 2 (sv_d k_La_law_1706 17 rfl) rfl rfl ?_
  refine sv_aload_n (pc := 1726) 0 (sv_d k_La_law_1706 18 rfl) rfl rfl ?_
  refine sv_iload_n (pc := 1727) 3 (sv_d k_La_law_1706 19 rfl) rfl rfl ?_
  refine sv_iconst (pc := 1728) (v := (1 : Int32)) (sv_d k_La_law_1706 20 rfl) (by decide) ?_
  refine sv_iadd (pc := 1729) (sv_d k_La_law_1706 21 rfl) ?_
  refine ss_iald (pc := 1730) (n := (ss_N r114.2.2.2.2.1 0)) (sv_d k_La_law_1706 22 rfl) kd0 (ss_lt (by decide)) rfl ?_
  refine sv_aload_n (pc := 1731) 0 (sv_d k_La_law_1706 23 rfl) rfl rfl ?_
  refine sv_iload_n (pc := 1732) 3 (sv_d k_La_law_1706 24 rfl) rfl rfl ?_
  refine sv_iconst (pc := 1733) (v := (2 : Int32)) (sv_d k_La_law_1706 25 rfl) (by decide) ?_
  refine sv_iadd (pc := 1734) (sv_d k_La_law_1706 26 rfl) ?_
  refine ss_iald (pc := 1735) (n := (ss_N r114.2.2.2.2.1 0)) (sv_d k_La_law_1706 27 rfl) kd0 (ss_lt (by decide)) rfl ?_
  refine sv_aload_n (pc := 1736) 0 (sv_d k_La_law_1706 28 rfl) rfl rfl ?_
  refine sv_iload_n (pc := 1737) 3 (sv_d k_La_law_1706 29 rfl) rfl rfl ?_
  refine sv_iconst (pc := 1738) (v := (3 : Int32)) (sv_d k_La_law_1706 30 rfl) (by decide) ?_
  refine sv_iadd (pc := 1739) (sv_d k_La_law_1706 31 rfl) ?_
  refine ss_iald (pc := 1740) (n := (ss_N r114.2.2.2.2.1 0)) (sv_d k_La_law_1706 32 rfl) kd0 (ss_lt (by decide)) rfl ?_
  refine sv_callV (pc := 1741) (ψ := ss_i) (As := [.int (r114.2.1 0 (x3 + (1 : Int32)).toNatClampNeg), .int (r114.2.1 0 (x3 + (2 : Int32)).toNatClampNeg), .int (r114.2.1 0 (x3 + (3 : Int32)).toNatClampNeg)]) (rest := [.int r114.1]) (c := 187) (sv_d k_La_law_1706 33 rfl) g_Mo_tape w1927 in_Mo_tape se_Mo_tape cf12 kd187 (ss_lt (by decide)) rfl (Nat.le_of_ble_eq_true rfl) (V_Mo_tape E (d + 80) (r114.2.1 0 (x3 + (1 : Int32)).toNatClampNeg) (r114.2.1 0 (x3 + (2 : Int32)).toNatClampNeg) (r114.2.1 0 (x3 + (3 : Int32)).toNatClampNeg) r114.2) (Nat.le_of_ble_eq_true rfl) rfl (fun r115 => ?_)
  show sv_V E _ _ _ 1744 _ [.int r115.1, .int r114.1] (ss_e r115.2) _
  refine sv_icmp_eq (pc := 1744) (tgt := 1919) (sv_d k_La_law_1706 34 rfl) (by decide) ?_ ?_
  · exact sv_loc [0, 1, 2, 3] rfl (V_La_law_b1919 E d kc18 hc18 x3 r115.2)
  · refine sv_iconst (pc := 1747) (v := (0 : Int32)) (sv_d k_La_law_1706 35 rfl) (by decide) ?_
    exact sv_ret (pc := 1748) (sv_d k_La_law_1706 36 rfl) ⟨_, rfl, rfl⟩ rfl
noncomputable def F_La_law_b1749 (kc18 : Int32 → sv_S → Option (Int32 × sv_S)) (x3 : Int32) (s : sv_S) : Option (Int32 × sv_S) :=
  if sv_ib (x3 + (1 : Int32)) (ss_N s.2.2.2.1 0) = true then
    if sv_ib (x3 + (2 : Int32)) (ss_N s.2.2.2.1 0) = true then
      if sv_ib (x3 + (3 : Int32)) (ss_N s.2.2.2.1 0) = true then
        if sv_ib (x3 + (4 : Int32)) (ss_N s.2.2.2.1 0) = true then
          (F_X_item (s.1 0 (x3 + (1 : Int32)).toNatClampNeg) (s.1 0 (x3 + (2 : Int32)).toNatClampNeg) ((((s.1 0 (x3 + (3 : Int32)).toNatClampNeg).toInt64) <<< ((32 : Int32).toInt64 &&& 63)) ||| (((s.1 0 (x3 + (4 : Int32)).toNatClampNeg).toInt64) &&& (4294967295 : Int64))) s).bind fun r117 =>
          if sv_ib (x3 + (1 : Int32)) (ss_N r117.2.2.2.2.1 0) = true then
            if sv_ib (x3 + (2 : Int32)) (ss_N r117.2.2.2.2.1 0) = true then
              if sv_ib (x3 + (3 : Int32)) (ss_N r117.2.2.2.2.1 0) = true then
                if sv_ib (x3 + (4 : Int32)) (ss_N r117.2.2.2.2.1 0) = true then
                  (F_Mo_item (r117.2.1 0 (x3 + (1 : Int32)).toNatClampNeg) (r117.2.1 0 (x3 + (2 : Int32)).toNatClampNeg) ((((r117.2.1 0 (x3 + (3 : Int32)).toNatClampNeg).toInt64) <<< ((32 : Int32).toInt64 &&& 63)) ||| (((r117.2.1 0 (x3 + (4 : Int32)).toNatClampNeg).toInt64) &&& (4294967295 : Int64))) r117.2).bind fun r118 =>
                  if r117.1 = r118.1 then
                    F_La_law_b1919 kc18 x3 r118.2
                  else
                  some ((0 : Int32), r118.2)
                else none
              else none
            else none
          else none
        else none
      else none
    else none
  else none
theorem V_La_law_b1749 (E : sv_E) (d : Nat) (kc18 : Int32 → sv_S → Option (Int32 × sv_S)) (hc18 : ∀ (x3 : Int32) (s : sv_S), sv_V E m_La_law (d + 83) ss_i 18 [(0, sv_r E 0), (1, sv_r E 64), (2, sv_r E 187), (3, .int x3)] [] (ss_e s) (kc18 x3 s)) (x3 : Int32) (s : sv_S) : sv_V E m_La_law (d + 83) ss_i 1749 [(0, sv_r E 0), (1, sv_r E 64), (2, sv_r E 187), (3, .int x3)] [] (ss_e s) (F_La_law_b1749 kc18 x3 s) := by
  unfold F_La_law_b1749
  refine sv_aload_n (pc := 1749) 1 (sv_d k_La_law_1749 0 rfl) rfl rfl ?_
  refine sv_aload_n (pc := 1750) 0 (sv_d k_La_law_1749 1 rfl) rfl rfl ?_
  refine sv_iload_n (pc := 1751) 3 (sv_d k_La_law_1749 2 rfl) rfl rfl ?_
  refine sv_iconst (pc := 1752) (v := (1 : Int32)) (sv_d k_La_law_1749 3 rfl) (by decide) ?_
  refine sv_iadd (pc := 1753) (sv_d k_La_law_1749 4 rfl) ?_
  refine ss_iald (pc := 1754) (n := (ss_N s.2.2.2.1 0)) (sv_d k_La_law_1749 5 rfl) kd0 (ss_lt (by decide)) rfl ?_
  refine sv_aload_n (pc := 1755) 0 (sv_d k_La_law_1749 6 rfl) rfl rfl ?_
  refine sv_iload_n (pc := 1756) 3 (sv_d k_La_law_1749 7 rfl) rfl rfl ?_
  refine sv_iconst (pc := 1757) (v := (2 : Int32)) (sv_d k_La_law_1749 8 rfl) (by decide) ?_
  refine sv_iadd (pc := 1758) (sv_d k_La_law_1749 9 rfl) ?_
  refine ss_iald (pc := 1759) (n := (ss_N s.2.2.2.1 0)) (sv_d k_La_law_1749 10 rfl) kd0 (ss_lt (by decide)) rfl ?_
  refine sv_aload_n (pc := 1760) 0 (sv_d k_La_law_1749 11 rfl) rfl rfl ?_
  refine sv_iload_n (pc := 1761) 3 (sv_d k_La_law_1749 12 rfl) rfl rfl ?_
  refine sv_iconst (pc := 1762) (v := (3 : Int32)) (sv_d k_La_law_1749 13 rfl) (by decide) ?_
  refine sv_iadd (pc := 1763) (sv_d k_La_law_1749 14 rfl) ?_
  refine ss_iald (pc := 1764) (n := (ss_N s.2.2.2.1 0)) (sv_d k_La_law_1749 15 rfl) kd0 (ss_lt (by decide)) rfl ?_
  refine sv_i2l (pc := 1765) (sv_d k_La_law_1749 16 rfl) ?_
  refine sv_bipush (pc := 1766) (v := (32 : Int32)) (sv_d k_La_law_1749 17 rfl) (by decide) ?_
  refine sv_lshl (pc := 1768) (sv_d k_La_law_1749 18 rfl) ?_
  refine sv_aload_n (pc := 1769) 0 (sv_d k_La_law_1749 19 rfl) rfl rfl ?_
  refine sv_iload_n (pc := 1770) 3 (sv_d k_La_law_1749 20 rfl) rfl rfl ?_
  refine sv_iconst (pc := 1771) (v := (4 : Int32)) (sv_d k_La_law_1749 21 rfl) (by decide) ?_
  refine sv_iadd (pc := 1772) (sv_d k_La_law_1749 22 rfl) ?_
  refine ss_iald (pc := 1773) (n := (ss_N s.2.2.2.1 0)) (sv_d k_La_law_1749 23 rfl) kd0 (ss_lt (by decide)) rfl ?_
  refine sv_i2l (pc := 1774) (sv_d k_La_law_1749 24 rfl) ?_
  refine sv_ldc2 (pc := 1775) (v := (4294967295 : Int64)) w1943 (sv_d k_La_law_1749 25 rfl) ?_
  refine sv_land (pc := 1778) (sv_d k_La_law_1749 26 rfl) ?_
  refine sv_lor (pc := 1779) (sv_d k_La_law_1749 27 rfl) ?_
  refine sv_callV (pc := 1780) (ψ := ss_i) (As := [.int (s.1 0 (x3 + (1 : Int32)).toNatClampNeg), .int (s.1 0 (x3 + (2 : Int32)).toNatClampNeg), .long ((((s.1 0 (x3 + (3 : Int32)).toNatClampNeg).toInt64) <<< ((32 : Int32).toInt64 &&& 63)) ||| (((s.1 0 (x3 + (4 : Int32)).toNatClampNeg).toInt64) &&& (4294967295 : Int64)))]) (rest := []) (c := 64) (sv_d k_La_law_1749 28 rfl) g_X_item w1276 in_X_item se_X_item cf11 kd64 (ss_lt (by decide)) rfl (Nat.le_of_ble_eq_true rfl) (V_X_item E (d + 81) (s.1 0 (x3 + (1 : Int32)).toNatClampNeg) (s.1 0 (x3 + (2 : Int32)).toNatClampNeg) ((((s.1 0 (x3 + (3 : Int32)).toNatClampNeg).toInt64) <<< ((32 : Int32).toInt64 &&& 63)) ||| (((s.1 0 (x3 + (4 : Int32)).toNatClampNeg).toInt64) &&& (4294967295 : Int64))) s) (Nat.le_of_ble_eq_true rfl) rfl (fun r117 => ?_)
  show sv_V E _ _ _ 1783 _ [.int r117.1] (ss_e r117.2) _
  refine sv_aload_n (pc := 1783) 2 (sv_d k_La_law_1749 29 rfl) rfl rfl ?_
  refine sv_aload_n (pc := 1784) 0 (sv_d k_La_law_1749 30 rfl) rfl rfl ?_
  refine sv_iload_n (pc := 1785) 3 (sv_d k_La_law_1749 31 rfl) rfl rfl ?_
  refine sv_iconst (pc := 1786) (v := (1 : Int32)) (sv_d k_La_law_1749 32 rfl) (by decide) ?_
  refine sv_iadd (pc := 1787) (sv_d k_La_law_1749 33 rfl) ?_
  refine ss_iald (pc := 1788) (n := (ss_N r117.2.2.2.2.1 0)) (sv_d k_La_law_1749 34 rfl) kd0 (ss_lt (by decide)) rfl ?_
  refine sv_aload_n (pc := 1789) 0 (sv_d k_La_law_1749 35 rfl) rfl rfl ?_
  refine sv_iload_n (pc := 1790) 3 (sv_d k_La_law_1749 36 rfl) rfl rfl ?_
  refine sv_iconst (pc := 1791) (v := (2 : Int32)) (sv_d k_La_law_1749 37 rfl) (by decide) ?_
  refine sv_iadd (pc := 1792) (sv_d k_La_law_1749 38 rfl) ?_
  refine ss_iald (pc := 1793) (n := (ss_N r117.2.2.2.2.1 0)) (sv_d k_La_law_1749 39 rfl) kd0 (ss_lt (by decide)) rfl ?_
  refine sv_aload_n (pc := 1794) 0 (sv_d k_La_law_1749 40 rfl) rfl rfl ?_
  refine sv_iload_n (pc := 1795) 3 (sv_d k_La_law_1749 41 rfl) rfl rfl ?_
  refine sv_iconst (pc := 1796) (v := (3 : Int32)) (sv_d k_La_law_1749 42 rfl) (by decide) ?_
  refine sv_iadd (pc := 1797) (sv_d k_La_law_1749 43 rfl) ?_
  refine ss_iald (pc := 1798) (n := (ss_N r117.2.2.2.2.1 0)) (sv_d k_La_law_1749 44 rfl) kd0 (ss_lt (by decide)) rfl ?_
  refine sv_i2l (pc := 1799) (sv_d k_La_law_1749 45 rfl) ?_
  refine sv_bipush (pc := 1800) (v := (32 : Int32)) (sv_d k_La_law_1749 46 rfl) (by decide) ?_
  refine sv_lshl (pc := 1802) (sv_d k_La_law_1749 47 rfl) ?_
  refine sv_aload_n (pc := 1803) 0 (sv_d k_La_law_1749 48 rfl) rfl rfl ?_
  refine sv_iload_n (pc := 1804) 3 (sv_d k_La_law_1749 49 rfl) rfl rfl ?_
  refine sv_iconst (pc := 1805) (v := (4 : Int32)) (sv_d k_La_law_1749 50 rfl) (by decide) ?_
  refine sv_iadd (pc := 1806) (sv_d k_La_law_1749 51 rfl) ?_
  refine ss_iald (pc := 1807) (n := (ss_N r117.2.2.2.2.1 0)) (sv_d k_La_law_1749 52 rfl) kd0 (ss_lt (by decide)) rfl ?_
  refine sv_i2l (pc := 1808) (sv_d k_La_law_1749 53 rfl) ?_
  refine sv_ldc2 (pc := 1809) (v := (4294967295 : Int64)) w1943 (sv_d k_La_law_1749 54 rfl) ?_
  refine sv_land (pc := 1812) (sv_d k_La_law_1749 55 rfl) ?_
  refine sv_lor (pc := 1813) (sv_d k_La_law_1749 56 rfl) ?_
  refine sv_callV (pc := 1814) (ψ := ss_i) (As := [.int (r117.2.1 0 (x3 + (1 : Int32)).toNatClampNeg), .int (r117.2.1 0 (x3 + (2 : Int32)).toNatClampNeg), .long ((((r117.2.1 0 (x3 + (3 : Int32)).toNatClampNeg).toInt64) <<< ((32 : Int32).toInt64 &&& 63)) ||| (((r117.2.1 0 (x3 + (4 : Int32)).toNatClampNeg).toInt64) &&& (4294967295 : Int64)))]) (rest := [.int r117.1]) (c := 187) (sv_d k_La_law_1749 57 rfl) g_Mo_item w1931 in_Mo_item se_Mo_item cf12 kd187 (ss_lt (by decide)) rfl (Nat.le_of_ble_eq_true rfl) (V_Mo_item E (d + 80) (r117.2.1 0 (x3 + (1 : Int32)).toNatClampNeg) (r117.2.1 0 (x3 + (2 : Int32)).toNatClampNeg) ((((r117.2.1 0 (x3 + (3 : Int32)).toNatClampNeg).toInt64) <<< ((32 : Int32).toInt64 &&& 63)) ||| (((r117.2.1 0 (x3 + (4 : Int32)).toNatClampNeg).toInt64) &&& (4294967295 : Int64))) r117.2) (Nat.le_of_ble_eq_true rfl) rfl (fun r118 => ?_)
  show sv_V E _ _ _ 1817 _ [.int r118.1, .int r117.1] (ss_e r118.2) _
  refine sv_icmp_eq (pc := 1817) (tgt := 1919) (sv_d k_La_law_1749 58 rfl) (by decide) ?_ ?_
  · exact sv_loc [0, 1, 2, 3] rfl (V_La_law_b1919 E d kc18 hc18 x3 r118.2)
  · refine sv_iconst (pc := 1820) (v := (0 : Int32)) (sv_d k_La_law_1749 59 rfl) (by decide) ?_
    exact sv_ret (pc := 1821) (sv_d k_La_law_1749 60 rfl) ⟨_, rfl, rfl⟩ rfl
noncomputable def F_La_law_b1822 (kc18 : Int32 → sv_S → Option (Int32 × sv_S)) (x3 : Int32) (s : sv_S) : Option (Int32 × sv_S) :=
  if sv_ib (x3 + (1 : Int32)) (ss_N s.2.2.2.1 0) = true then
    if sv_ib (x3 + (2 : Int32)) (ss_N s.2.2.2.1 0) = true then
      (F_X_read (s.1 0 (x3 + (1 : Int32)).toNatClampNeg) (s.1 0 (x3 + (2 : Int32)).toNatClampNeg) s).bind fun r120 =>
      if sv_ib (x3 + (1 : Int32)) (ss_N s.2.2.2.1 0) = true then
        if sv_ib (x3 + (2 : Int32)) (ss_N s.2.2.2.1 0) = true then
          (F_Mo_read (s.1 0 (x3 + (1 : Int32)).toNatClampNeg) (s.1 0 (x3 + (2 : Int32)).toNatClampNeg) s).bind fun r121 =>
          if (lg_cmp r120 r121) = 0 then
            F_La_law_b1919 kc18 x3 s
          else
          some ((0 : Int32), s)
        else none
      else none
    else none
  else none
theorem V_La_law_b1822 (E : sv_E) (d : Nat) (kc18 : Int32 → sv_S → Option (Int32 × sv_S)) (hc18 : ∀ (x3 : Int32) (s : sv_S), sv_V E m_La_law (d + 83) ss_i 18 [(0, sv_r E 0), (1, sv_r E 64), (2, sv_r E 187), (3, .int x3)] [] (ss_e s) (kc18 x3 s)) (x3 : Int32) (s : sv_S) : sv_V E m_La_law (d + 83) ss_i 1822 [(0, sv_r E 0), (1, sv_r E 64), (2, sv_r E 187), (3, .int x3)] [] (ss_e s) (F_La_law_b1822 kc18 x3 s) := by
  unfold F_La_law_b1822
  refine sv_aload_n (pc := 1822) 1 (sv_d k_La_law_1822 0 rfl) rfl rfl ?_
  refine sv_aload_n (pc := 1823) 0 (sv_d k_La_law_1822 1 rfl) rfl rfl ?_
  refine sv_iload_n (pc := 1824) 3 (sv_d k_La_law_1822 2 rfl) rfl rfl ?_
  refine sv_iconst (pc := 1825) (v := (1 : Int32)) (sv_d k_La_law_1822 3 rfl) (by decide) ?_
  refine sv_iadd (pc := 1826) (sv_d k_La_law_1822 4 rfl) ?_
  refine ss_iald (pc := 1827) (n := (ss_N s.2.2.2.1 0)) (sv_d k_La_law_1822 5 rfl) kd0 (ss_lt (by decide)) rfl ?_
  refine sv_aload_n (pc := 1828) 0 (sv_d k_La_law_1822 6 rfl) rfl rfl ?_
  refine sv_iload_n (pc := 1829) 3 (sv_d k_La_law_1822 7 rfl) rfl rfl ?_
  refine sv_iconst (pc := 1830) (v := (2 : Int32)) (sv_d k_La_law_1822 8 rfl) (by decide) ?_
  refine sv_iadd (pc := 1831) (sv_d k_La_law_1822 9 rfl) ?_
  refine ss_iald (pc := 1832) (n := (ss_N s.2.2.2.1 0)) (sv_d k_La_law_1822 10 rfl) kd0 (ss_lt (by decide)) rfl ?_
  refine sv_callV (pc := 1833) (ψ := (ss_pl s)) (As := [.int (s.1 0 (x3 + (1 : Int32)).toNatClampNeg), .int (s.1 0 (x3 + (2 : Int32)).toNatClampNeg)]) (rest := []) (c := 64) (sv_d k_La_law_1822 11 rfl) g_X_read w1287 in_X_read se_X_read cf11 kd64 (ss_lt (by decide)) rfl (Nat.le_of_ble_eq_true rfl) (V_X_read E (d + 81) (s.1 0 (x3 + (1 : Int32)).toNatClampNeg) (s.1 0 (x3 + (2 : Int32)).toNatClampNeg) s) (Nat.le_of_ble_eq_true rfl) rfl (fun r120 => ?_)
  show sv_V E _ _ _ 1836 _ [.long r120] (ss_e s) _
  refine sv_aload_n (pc := 1836) 2 (sv_d k_La_law_1822 12 rfl) rfl rfl ?_
  refine sv_aload_n (pc := 1837) 0 (sv_d k_La_law_1822 13 rfl) rfl rfl ?_
  refine sv_iload_n (pc := 1838) 3 (sv_d k_La_law_1822 14 rfl) rfl rfl ?_
  refine sv_iconst (pc := 1839) (v := (1 : Int32)) (sv_d k_La_law_1822 15 rfl) (by decide) ?_
  refine sv_iadd (pc := 1840) (sv_d k_La_law_1822 16 rfl) ?_
  refine ss_iald (pc := 1841) (n := (ss_N s.2.2.2.1 0)) (sv_d k_La_law_1822 17 rfl) kd0 (ss_lt (by decide)) rfl ?_
  refine sv_aload_n (pc := 1842) 0 (sv_d k_La_law_1822 18 rfl) rfl rfl ?_
  refine sv_iload_n (pc := 1843) 3 (sv_d k_La_law_1822 19 rfl) rfl rfl ?_
  refine sv_iconst (pc := 1844) (v := (2 : Int32)) (sv_d k_La_law_1822 20 rfl) (by decide) ?_
  refine sv_iadd (pc := 1845) (sv_d k_La_law_1822 21 rfl) ?_
  refine ss_iald (pc := 1846) (n := (ss_N s.2.2.2.1 0)) (sv_d k_La_law_1822 22 rfl) kd0 (ss_lt (by decide)) rfl ?_
  refine sv_callV (pc := 1847) (ψ := (ss_pl s)) (As := [.int (s.1 0 (x3 + (1 : Int32)).toNatClampNeg), .int (s.1 0 (x3 + (2 : Int32)).toNatClampNeg)]) (rest := [.long r120]) (c := 187) (sv_d k_La_law_1822 23 rfl) g_Mo_read w1935 in_Mo_read se_Mo_read cf12 kd187 (ss_lt (by decide)) rfl (Nat.le_of_ble_eq_true rfl) (V_Mo_read E (d + 80) (s.1 0 (x3 + (1 : Int32)).toNatClampNeg) (s.1 0 (x3 + (2 : Int32)).toNatClampNeg) s) (Nat.le_of_ble_eq_true rfl) rfl (fun r121 => ?_)
  show sv_V E _ _ _ 1850 _ [.long r121, .long r120] (ss_e s) _
  refine sv_lcmp (pc := 1850) (sv_d k_La_law_1822 24 rfl) ?_
  refine sv_if_eq (pc := 1851) (tgt := 1919) (sv_d k_La_law_1822 25 rfl) (by decide) ?_ ?_
  · exact sv_loc [0, 1, 2, 3] rfl (V_La_law_b1919 E d kc18 hc18 x3 s)
  · refine sv_iconst (pc := 1854) (v := (0 : Int32)) (sv_d k_La_law_1822 26 rfl) (by decide) ?_
    exact sv_ret (pc := 1855) (sv_d k_La_law_1822 27 rfl) ⟨_, rfl, rfl⟩ rfl
noncomputable def F_La_law_b1856 (kc18 : Int32 → sv_S → Option (Int32 × sv_S)) (x3 : Int32) (s : sv_S) : Option (Int32 × sv_S) :=
  if sv_ib (x3 + (1 : Int32)) (ss_N s.2.2.2.1 0) = true then
    if sv_ib (x3 + (2 : Int32)) (ss_N s.2.2.2.1 0) = true then
      if sv_ib (x3 + (3 : Int32)) (ss_N s.2.2.2.1 0) = true then
        if sv_ib (x3 + (4 : Int32)) (ss_N s.2.2.2.1 0) = true then
          if sv_ib (x3 + (5 : Int32)) (ss_N s.2.2.2.1 0) = true then
            (F_X_shift (s.1 0 (x3 + (1 : Int32)).toNatClampNeg) (s.1 0 (x3 + (2 : Int32)).toNatClampNeg) (s.1 0 (x3 + (3 : Int32)).toNatClampNeg) (s.1 0 (x3 + (4 : Int32)).toNatClampNeg) (s.1 0 (x3 + (5 : Int32)).toNatClampNeg) s).bind fun r123 =>
            if sv_ib (x3 + (1 : Int32)) (ss_N r123.2.2.2.2.1 0) = true then
              if sv_ib (x3 + (2 : Int32)) (ss_N r123.2.2.2.2.1 0) = true then
                if sv_ib (x3 + (3 : Int32)) (ss_N r123.2.2.2.2.1 0) = true then
                  if sv_ib (x3 + (4 : Int32)) (ss_N r123.2.2.2.2.1 0) = true then
                    if sv_ib (x3 + (5 : Int32)) (ss_N r123.2.2.2.2.1 0) = true then
                      (F_Mo_shift (r123.2.1 0 (x3 + (1 : Int32)).toNatClampNeg) (r123.2.1 0 (x3 + (2 : Int32)).toNatClampNeg) (r123.2.1 0 (x3 + (3 : Int32)).toNatClampNeg) (r123.2.1 0 (x3 + (4 : Int32)).toNatClampNeg) (r123.2.1 0 (x3 + (5 : Int32)).toNatClampNeg) r123.2).bind fun r124 =>
                      if r123.1 = r124.1 then
                        F_La_law_b1919 kc18 x3 r124.2
                      else
                      some ((0 : Int32), r124.2)
                    else none
                  else none
                else none
              else none
            else none
          else none
        else none
      else none
    else none
  else none
theorem V_La_law_b1856 (E : sv_E) (d : Nat) (kc18 : Int32 → sv_S → Option (Int32 × sv_S)) (hc18 : ∀ (x3 : Int32) (s : sv_S), sv_V E m_La_law (d + 83) ss_i 18 [(0, sv_r E 0), (1, sv_r E 64), (2, sv_r E 187), (3, .int x3)] [] (ss_e s) (kc18 x3 s)) (x3 : Int32) (s : sv_S) : sv_V E m_La_law (d + 83) ss_i 1856 [(0, sv_r E 0), (1, sv_r E 64), (2, sv_r E 187), (3, .int x3)] [] (ss_e s) (F_La_law_b1856 kc18 x3 s) := by
  unfold F_La_law_b1856
  refine sv_aload_n (pc := 1856) 1 (sv_d k_La_law_1856 0 rfl) rfl rfl ?_
  refine sv_aload_n (pc := 1857) 0 (sv_d k_La_law_1856 1 rfl) rfl rfl ?_
  refine sv_iload_n (pc := 1858) 3 (sv_d k_La_law_1856 2 rfl) rfl rfl ?_
  refine sv_iconst (pc := 1859) (v := (1 : Int32)) (sv_d k_La_law_1856 3 rfl) (by decide) ?_
  refine sv_iadd (pc := 1860) (sv_d k_La_law_1856 4 rfl) ?_
  refine ss_iald (pc := 1861) (n := (ss_N s.2.2.2.1 0)) (sv_d k_La_law_1856 5 rfl) kd0 (ss_lt (by decide)) rfl ?_
  refine sv_aload_n (pc := 1862) 0 (sv_d k_La_law_1856 6 rfl) rfl rfl ?_
  refine sv_iload_n (pc := 1863) 3 (sv_d k_La_law_1856 7 rfl) rfl rfl ?_
  refine sv_iconst (pc := 1864) (v := (2 : Int32)) (sv_d k_La_law_1856 8 rfl) (by decide) ?_
  refine sv_iadd (pc := 1865) (sv_d k_La_law_1856 9 rfl) ?_
  refine ss_iald (pc := 1866) (n := (ss_N s.2.2.2.1 0)) (sv_d k_La_law_1856 10 rfl) kd0 (ss_lt (by decide)) rfl ?_
  refine sv_aload_n (pc := 1867) 0 (sv_d k_La_law_1856 11 rfl) rfl rfl ?_
  refine sv_iload_n (pc := 1868) 3 (sv_d k_La_law_1856 12 rfl) rfl rfl ?_
  refine sv_iconst (pc := 1869) (v := (3 : Int32)) (sv_d k_La_law_1856 13 rfl) (by decide) ?_
  refine sv_iadd (pc := 1870) (sv_d k_La_law_1856 14 rfl) ?_
  refine ss_iald (pc := 1871) (n := (ss_N s.2.2.2.1 0)) (sv_d k_La_law_1856 15 rfl) kd0 (ss_lt (by decide)) rfl ?_
  refine sv_aload_n (pc := 1872) 0 (sv_d k_La_law_1856 16 rfl) rfl rfl ?_
  refine sv_iload_n (pc := 1873) 3 (sv_d k_La_law_1856 17 rfl) rfl rfl ?_
  refine sv_iconst (pc := 1874) (v := (4 : Int32)) (sv_d k_La_law_1856 18 rfl) (by decide) ?_
  refine sv_iadd (pc := 1875) (sv_d k_La_law_1856 19 rfl) ?_
  refine ss_iald (pc := 1876) (n := (ss_N s.2.2.2.1 0)) (sv_d k_La_law_1856 20 rfl) kd0 (ss_lt (by decide)) rfl ?_
  refine sv_aload_n (pc := 1877) 0 (sv_d k_La_law_1856 21 rfl) rfl rfl ?_
  refine sv_iload_n (pc := 1878) 3 (sv_d k_La_law_1856 22 rfl) rfl rfl ?_
  refine sv_iconst (pc := 1879) (v := (5 : Int32)) (sv_d k_La_law_1856 23 rfl) (by decide) ?_
  refine sv_iadd (pc := 1880) (sv_d k_La_law_1856 24 rfl) ?_
  refine ss_iald (pc := 1881) (n := (ss_N s.2.2.2.1 0)) (sv_d k_La_law_1856 25 rfl) kd0 (ss_lt (by decide)) rfl ?_
  refine sv_callV (pc := 1882) (ψ := ss_i) (As := [.int (s.1 0 (x3 + (1 : Int32)).toNatClampNeg), .int (s.1 0 (x3 + (2 : Int32)).toNatClampNeg), .int (s.1 0 (x3 + (3 : Int32)).toNatClampNeg), .int (s.1 0 (x3 + (4 : Int32)).toNatClampNeg), .int (s.1 0 (x3 + (5 : Int32)).toNatClampNeg)]) (rest := []) (c := 64) (sv_d k_La_law_1856 26 rfl) g_X_shift w1291 in_X_shift se_X_shift cf11 kd64 (ss_lt (by decide)) rfl (Nat.le_of_ble_eq_true rfl) (V_X_shift E (d + 81) (s.1 0 (x3 + (1 : Int32)).toNatClampNeg) (s.1 0 (x3 + (2 : Int32)).toNatClampNeg) (s.1 0 (x3 + (3 : Int32)).toNatClampNeg) (s.1 0 (x3 + (4 : Int32)).toNatClampNeg) (s.1 0 (x3 + (5 : Int32)).toNatClampNeg) s) (Nat.le_of_ble_eq_true rfl) rfl (fun r123 => ?_)
  show sv_V E _ _ _ 1885 _ [.int r123.1] (ss_e r123.2) _
  refine sv_aload_n (pc := 1885) 2 (sv_d k_La_law_1856 27 rfl) rfl rfl ?_
  refine sv_aload_n (pc := 1886) 0 (sv_d k_La_law_1856 28 rfl) rfl rfl ?_
  refine sv_iload_n (pc := 1887) 3 (sv_d k_La_law_1856 29 rfl) rfl rfl ?_
  refine sv_iconst (pc := 1888) (v := (1 : Int32)) (sv_d k_La_law_1856 30 rfl) (by decide) ?_
  refine sv_iadd (pc := 1889) (sv_d k_La_law_1856 31 rfl) ?_
  refine ss_iald (pc := 1890) (n := (ss_N r123.2.2.2.2.1 0)) (sv_d k_La_law_1856 32 rfl) kd0 (ss_lt (by decide)) rfl ?_
  refine sv_aload_n (pc := 1891) 0 (sv_d k_La_law_1856 33 rfl) rfl rfl ?_
  refine sv_iload_n (pc := 1892) 3 (sv_d k_La_law_1856 34 rfl) rfl rfl ?_
  refine sv_iconst (pc := 1893) (v := (2 : Int32)) (sv_d k_La_law_1856 35 rfl) (by decide) ?_
  refine sv_iadd (pc := 1894) (sv_d k_La_law_1856 36 rfl) ?_
  refine ss_iald (pc := 1895) (n := (ss_N r123.2.2.2.2.1 0)) (sv_d k_La_law_1856 37 rfl) kd0 (ss_lt (by decide)) rfl ?_
  refine sv_aload_n (pc := 1896) 0 (sv_d k_La_law_1856 38 rfl) rfl rfl ?_
  refine sv_iload_n (pc := 1897) 3 (sv_d k_La_law_1856 39 rfl) rfl rfl ?_
  refine sv_iconst (pc := 1898) (v := (3 : Int32)) (sv_d k_La_law_1856 40 rfl) (by decide) ?_
  refine sv_iadd (pc := 1899) (sv_d k_La_law_1856 41 rfl) ?_
  refine ss_iald (pc := 1900) (n := (ss_N r123.2.2.2.2.1 0)) (sv_d k_La_law_1856 42 rfl) kd0 (ss_lt (by decide)) rfl ?_
  refine sv_aload_n (pc := 1901) 0 (sv_d k_La_law_1856 43 rfl) rfl rfl ?_
  refine sv_iload_n (pc := 1902) 3 (sv_d k_La_law_1856 44 rfl) rfl rfl ?_
  refine sv_iconst (pc := 1903) (v := (4 : Int32)) (sv_d k_La_law_1856 45 rfl) (by decide) ?_
  refine sv_iadd (pc := 1904) (sv_d k_La_law_1856 46 rfl) ?_
  refine ss_iald (pc := 1905) (n := (ss_N r123.2.2.2.2.1 0)) (sv_d k_La_law_1856 47 rfl) kd0 (ss_lt (by decide)) rfl ?_
  refine sv_aload_n (pc := 1906) 0 (sv_d k_La_law_1856 48 rfl) rfl rfl ?_
  refine sv_iload_n (pc := 1907) 3 (sv_d k_La_law_1856 49 rfl) rfl rfl ?_
  refine sv_iconst (pc := 1908) (v := (5 : Int32)) (sv_d k_La_law_1856 50 rfl) (by decide) ?_
  refine sv_iadd (pc := 1909) (sv_d k_La_law_1856 51 rfl) ?_
  refine ss_iald (pc := 1910) (n := (ss_N r123.2.2.2.2.1 0)) (sv_d k_La_law_1856 52 rfl) kd0 (ss_lt (by decide)) rfl ?_
  refine sv_callV (pc := 1911) (ψ := ss_i) (As := [.int (r123.2.1 0 (x3 + (1 : Int32)).toNatClampNeg), .int (r123.2.1 0 (x3 + (2 : Int32)).toNatClampNeg), .int (r123.2.1 0 (x3 + (3 : Int32)).toNatClampNeg), .int (r123.2.1 0 (x3 + (4 : Int32)).toNatClampNeg), .int (r123.2.1 0 (x3 + (5 : Int32)).toNatClampNeg)]) (rest := [.int r123.1]) (c := 187) (sv_d k_La_law_1856 53 rfl) g_Mo_shift w1939 in_Mo_shift se_Mo_shift cf12 kd187 (ss_lt (by decide)) rfl (Nat.le_of_ble_eq_true rfl) (V_Mo_shift E (d + 80) (r123.2.1 0 (x3 + (1 : Int32)).toNatClampNeg) (r123.2.1 0 (x3 + (2 : Int32)).toNatClampNeg) (r123.2.1 0 (x3 + (3 : Int32)).toNatClampNeg) (r123.2.1 0 (x3 + (4 : Int32)).toNatClampNeg) (r123.2.1 0 (x3 + (5 : Int32)).toNatClampNeg) r123.2) (Nat.le_of_ble_eq_true rfl) rfl (fun r124 => ?_)
  show sv_V E _ _ _ 1914 _ [.int r124.1, .int r123.1] (ss_e r124.2) _
  refine sv_icmp_eq (pc := 1914) (tgt := 1919) (sv_d k_La_law_1856 54 rfl) (by decide) ?_ ?_
  · exact sv_loc [0, 1, 2, 3] rfl (V_La_law_b1919 E d kc18 hc18 x3 r124.2)
  · refine sv_iconst (pc := 1917) (v := (0 : Int32)) (sv_d k_La_law_1856 55 rfl) (by decide) ?_
    exact sv_ret (pc := 1918) (sv_d k_La_law_1856 56 rfl) ⟨_, rfl, rfl⟩ rfl
noncomputable def F_La_law_b18 : Nat → Int32 → sv_S → Option (Int32 × sv_S)
  | 0 => fun _ _ => none
  | n + 1 => fun x3 s =>
    if ((Int32.ofNat (ss_N s.2.2.2.1 0)) - (8 : Int32)) < x3 then
      some ((1 : Int32), s)
    else
    if sv_ib x3 (ss_N s.2.2.2.1 0) = true then
      ss_let ((s.1 0 x3.toNatClampNeg) &&& (63 : Int32)) fun v1 =>
      if v1 = (0 : Int32) then
        F_La_law_b212 (F_La_law_b18  n) x3 s
      else if v1 = (1 : Int32) then
        F_La_law_b235 (F_La_law_b18  n) x3 s
      else if v1 = (2 : Int32) then
        F_La_law_b288 (F_La_law_b18  n) x3 s
      else if v1 = (3 : Int32) then
        F_La_law_b331 (F_La_law_b18  n) x3 s
      else if v1 = (4 : Int32) then
        F_La_law_b374 (F_La_law_b18  n) x3 s
      else if v1 = (5 : Int32) then
        F_La_law_b407 (F_La_law_b18  n) x3 s
      else if v1 = (6 : Int32) then
        F_La_law_b440 (F_La_law_b18  n) x3 s
      else if v1 = (7 : Int32) then
        F_La_law_b483 (F_La_law_b18  n) x3 s
      else if v1 = (8 : Int32) then
        F_La_law_b570 (F_La_law_b18  n) x3 s
      else if v1 = (9 : Int32) then
        F_La_law_b645 (F_La_law_b18  n) x3 s
      else if v1 = (10 : Int32) then
        F_La_law_b668 (F_La_law_b18  n) x3 s
      else if v1 = (11 : Int32) then
        F_La_law_b701 (F_La_law_b18  n) x3 s
      else if v1 = (12 : Int32) then
        F_La_law_b724 (F_La_law_b18  n) x3 s
      else if v1 = (13 : Int32) then
        F_La_law_b757 (F_La_law_b18  n) x3 s
      else if v1 = (14 : Int32) then
        F_La_law_b810 (F_La_law_b18  n) x3 s
      else if v1 = (15 : Int32) then
        F_La_law_b853 (F_La_law_b18  n) x3 s
      else if v1 = (16 : Int32) then
        F_La_law_b896 (F_La_law_b18  n) x3 s
      else if v1 = (17 : Int32) then
        F_La_law_b959 (F_La_law_b18  n) x3 s
      else if v1 = (18 : Int32) then
        F_La_law_b1002 (F_La_law_b18  n) x3 s
      else if v1 = (19 : Int32) then
        F_La_law_b1015 (F_La_law_b18  n) x3 s
      else if v1 = (20 : Int32) then
        F_La_law_b1038 (F_La_law_b18  n) x3 s
      else if v1 = (21 : Int32) then
        F_La_law_b1081 (F_La_law_b18  n) x3 s
      else if v1 = (22 : Int32) then
        F_La_law_b1104 (F_La_law_b18  n) x3 s
      else if v1 = (23 : Int32) then
        F_La_law_b1128 (F_La_law_b18  n) x3 s
      else if v1 = (24 : Int32) then
        F_La_law_b1203 (F_La_law_b18  n) x3 s
      else if v1 = (25 : Int32) then
        F_La_law_b1266 (F_La_law_b18  n) x3 s
      else if v1 = (26 : Int32) then
        F_La_law_b1329 (F_La_law_b18  n) x3 s
      else if v1 = (27 : Int32) then
        F_La_law_b1362 (F_La_law_b18  n) x3 s
      else if v1 = (28 : Int32) then
        F_La_law_b1395 (F_La_law_b18  n) x3 s
      else if v1 = (29 : Int32) then
        F_La_law_b1438 (F_La_law_b18  n) x3 s
      else if v1 = (30 : Int32) then
        F_La_law_b1461 (F_La_law_b18  n) x3 s
      else if v1 = (31 : Int32) then
        F_La_law_b1474 (F_La_law_b18  n) x3 s
      else if v1 = (32 : Int32) then
        F_La_law_b1497 (F_La_law_b18  n) x3 s
      else if v1 = (33 : Int32) then
        F_La_law_b1584 (F_La_law_b18  n) x3 s
      else if v1 = (34 : Int32) then
        F_La_law_b1627 (F_La_law_b18  n) x3 s
      else if v1 = (35 : Int32) then
        F_La_law_b1650 (F_La_law_b18  n) x3 s
      else if v1 = (36 : Int32) then
        F_La_law_b1683 (F_La_law_b18  n) x3 s
      else if v1 = (37 : Int32) then
        F_La_law_b1706 (F_La_law_b18  n) x3 s
      else if v1 = (38 : Int32) then
        F_La_law_b1749 (F_La_law_b18  n) x3 s
      else if v1 = (39 : Int32) then
        F_La_law_b1822 (F_La_law_b18  n) x3 s
      else if v1 = (40 : Int32) then
        F_La_law_b1856 (F_La_law_b18  n) x3 s
      else 
      F_La_law_b1919 (F_La_law_b18  n) x3 s
    else none
theorem V_La_law_b18 (E : sv_E) (d : Nat) : ∀ (n : Nat) (x3 : Int32) (s : sv_S), sv_V E m_La_law (d + 83) ss_i 18 [(0, sv_r E 0), (1, sv_r E 64), (2, sv_r E 187), (3, .int x3)] [] (ss_e s) (F_La_law_b18 n x3 s) := by
  intro n
  induction n with
  | zero => intro x3 s; exact sv_none
  | succ n ih =>
    intro x3 s
    unfold F_La_law_b18
    refine sv_iload_n (pc := 18) 3 (sv_d k_La_law_0 10 rfl) rfl rfl ?_
    refine sv_aload_n (pc := 19) 0 (sv_d k_La_law_0 11 rfl) rfl rfl ?_
    refine ss_alen (pc := 20) (v := (Int32.ofNat (ss_N s.2.2.2.1 0))) (sv_d k_La_law_0 12 rfl) kd0 (by decide) (by decide) (ss_lt (by decide)) rfl ?_
    refine sv_bipush (pc := 21) (v := (8 : Int32)) (sv_d k_La_law_0 13 rfl) (by decide) ?_
    refine sv_isub (pc := 23) (sv_d k_La_law_0 14 rfl) ?_
    refine sv_icmp_gt (pc := 24) (tgt := 1925) (sv_d k_La_law_0 15 rfl) (by decide) ?_ ?_
    · refine sv_iconst (pc := 1925) (v := (1 : Int32)) (sv_d k_La_law_1919 2 rfl) (by decide) ?_
      exact sv_ret (pc := 1926) (sv_d k_La_law_1919 3 rfl) ⟨_, rfl, rfl⟩ rfl
    · refine sv_aload_n (pc := 27) 0 (sv_d k_La_law_0 16 rfl) rfl rfl ?_
      refine sv_iload_n (pc := 28) 3 (sv_d k_La_law_0 17 rfl) rfl rfl ?_
      refine ss_iald (pc := 29) (n := (ss_N s.2.2.2.1 0)) (sv_d k_La_law_0 18 rfl) kd0 (ss_lt (by decide)) rfl ?_
      refine sv_bipush (pc := 30) (v := (63 : Int32)) (sv_d k_La_law_0 19 rfl) (by decide) ?_
      refine sv_iand (pc := 32) (sv_d k_La_law_0 20 rfl) ?_
      refine ss_top (fun v1 e_v1 => ?_)
      refine ss_dec (fun hh5 => ?_) (fun hh5 => ?_)
      · refine sv_tab (pc := 33) (tgt := 212) (sv_d k_La_law_0 21 rfl) (0 : Int32) hh5 (by decide) (by decide) rfl (by decide) ?_
        exact sv_loc [0, 1, 2, 3] rfl (V_La_law_b212 E d (F_La_law_b18  n) ih x3 s)
      · refine ss_dec (fun hh8 => ?_) (fun hh8 => ?_)
        · refine sv_tab (pc := 33) (tgt := 235) (sv_d k_La_law_0 21 rfl) (1 : Int32) hh8 (by decide) (by decide) rfl (by decide) ?_
          exact sv_loc [0, 1, 2, 3] rfl (V_La_law_b235 E d (F_La_law_b18  n) ih x3 s)
        · refine ss_dec (fun hh11 => ?_) (fun hh11 => ?_)
          · refine sv_tab (pc := 33) (tgt := 288) (sv_d k_La_law_0 21 rfl) (2 : Int32) hh11 (by decide) (by decide) rfl (by decide) ?_
            exact sv_loc [0, 1, 2, 3] rfl (V_La_law_b288 E d (F_La_law_b18  n) ih x3 s)
          · refine ss_dec (fun hh14 => ?_) (fun hh14 => ?_)
            · refine sv_tab (pc := 33) (tgt := 331) (sv_d k_La_law_0 21 rfl) (3 : Int32) hh14 (by decide) (by decide) rfl (by decide) ?_
              exact sv_loc [0, 1, 2, 3] rfl (V_La_law_b331 E d (F_La_law_b18  n) ih x3 s)
            · refine ss_dec (fun hh17 => ?_) (fun hh17 => ?_)
              · refine sv_tab (pc := 33) (tgt := 374) (sv_d k_La_law_0 21 rfl) (4 : Int32) hh17 (by decide) (by decide) rfl (by decide) ?_
                exact sv_loc [0, 1, 2, 3] rfl (V_La_law_b374 E d (F_La_law_b18  n) ih x3 s)
              · refine ss_dec (fun hh20 => ?_) (fun hh20 => ?_)
                · refine sv_tab (pc := 33) (tgt := 407) (sv_d k_La_law_0 21 rfl) (5 : Int32) hh20 (by decide) (by decide) rfl (by decide) ?_
                  exact sv_loc [0, 1, 2, 3] rfl (V_La_law_b407 E d (F_La_law_b18  n) ih x3 s)
                · refine ss_dec (fun hh23 => ?_) (fun hh23 => ?_)
                  · refine sv_tab (pc := 33) (tgt := 440) (sv_d k_La_law_0 21 rfl) (6 : Int32) hh23 (by decide) (by decide) rfl (by decide) ?_
                    exact sv_loc [0, 1, 2, 3] rfl (V_La_law_b440 E d (F_La_law_b18  n) ih x3 s)
                  · refine ss_dec (fun hh26 => ?_) (fun hh26 => ?_)
                    · refine sv_tab (pc := 33) (tgt := 483) (sv_d k_La_law_0 21 rfl) (7 : Int32) hh26 (by decide) (by decide) rfl (by decide) ?_
                      exact sv_loc [0, 1, 2, 3] rfl (V_La_law_b483 E d (F_La_law_b18  n) ih x3 s)
                    · refine ss_dec (fun hh29 => ?_) (fun hh29 => ?_)
                      · refine sv_tab (pc := 33) (tgt := 570) (sv_d k_La_law_0 21 rfl) (8 : Int32) hh29 (by decide) (by decide) rfl (by decide) ?_
                        exact sv_loc [0, 1, 2, 3] rfl (V_La_law_b570 E d (F_La_law_b18  n) ih x3 s)
                      · refine ss_dec (fun hh32 => ?_) (fun hh32 => ?_)
                        · refine sv_tab (pc := 33) (tgt := 645) (sv_d k_La_law_0 21 rfl) (9 : Int32) hh32 (by decide) (by decide) rfl (by decide) ?_
                          exact sv_loc [0, 1, 2, 3] rfl (V_La_law_b645 E d (F_La_law_b18  n) ih x3 s)
                        · refine ss_dec (fun hh35 => ?_) (fun hh35 => ?_)
                          · refine sv_tab (pc := 33) (tgt := 668) (sv_d k_La_law_0 21 rfl) (10 : Int32) hh35 (by decide) (by decide) rfl (by decide) ?_
                            exact sv_loc [0, 1, 2, 3] rfl (V_La_law_b668 E d (F_La_law_b18  n) ih x3 s)
                          · refine ss_dec (fun hh38 => ?_) (fun hh38 => ?_)
                            · refine sv_tab (pc := 33) (tgt := 701) (sv_d k_La_law_0 21 rfl) (11 : Int32) hh38 (by decide) (by decide) rfl (by decide) ?_
                              exact sv_loc [0, 1, 2, 3] rfl (V_La_law_b701 E d (F_La_law_b18  n) ih x3 s)
                            · refine ss_dec (fun hh41 => ?_) (fun hh41 => ?_)
                              · refine sv_tab (pc := 33) (tgt := 724) (sv_d k_La_law_0 21 rfl) (12 : Int32) hh41 (by decide) (by decide) rfl (by decide) ?_
                                exact sv_loc [0, 1, 2, 3] rfl (V_La_law_b724 E d (F_La_law_b18  n) ih x3 s)
                              · refine ss_dec (fun hh44 => ?_) (fun hh44 => ?_)
                                · refine sv_tab (pc := 33) (tgt := 757) (sv_d k_La_law_0 21 rfl) (13 : Int32) hh44 (by decide) (by decide) rfl (by decide) ?_
                                  exact sv_loc [0, 1, 2, 3] rfl (V_La_law_b757 E d (F_La_law_b18  n) ih x3 s)
                                · refine ss_dec (fun hh47 => ?_) (fun hh47 => ?_)
                                  · refine sv_tab (pc := 33) (tgt := 810) (sv_d k_La_law_0 21 rfl) (14 : Int32) hh47 (by decide) (by decide) rfl (by decide) ?_
                                    exact sv_loc [0, 1, 2, 3] rfl (V_La_law_b810 E d (F_La_law_b18  n) ih x3 s)
                                  · refine ss_dec (fun hh50 => ?_) (fun hh50 => ?_)
                                    · refine sv_tab (pc := 33) (tgt := 853) (sv_d k_La_law_0 21 rfl) (15 : Int32) hh50 (by decide) (by decide) rfl (by decide) ?_
                                      exact sv_loc [0, 1, 2, 3] rfl (V_La_law_b853 E d (F_La_law_b18  n) ih x3 s)
                                    · refine ss_dec (fun hh53 => ?_) (fun hh53 => ?_)
                                      · refine sv_tab (pc := 33) (tgt := 896) (sv_d k_La_law_0 21 rfl) (16 : Int32) hh53 (by decide) (by decide) rfl (by decide) ?_
                                        exact sv_loc [0, 1, 2, 3] rfl (V_La_law_b896 E d (F_La_law_b18  n) ih x3 s)
                                      · refine ss_dec (fun hh56 => ?_) (fun hh56 => ?_)
                                        · refine sv_tab (pc := 33) (tgt := 959) (sv_d k_La_law_0 21 rfl) (17 : Int32) hh56 (by decide) (by decide) rfl (by decide) ?_
                                          exact sv_loc [0, 1, 2, 3] rfl (V_La_law_b959 E d (F_La_law_b18  n) ih x3 s)
                                        · refine ss_dec (fun hh59 => ?_) (fun hh59 => ?_)
                                          · refine sv_tab (pc := 33) (tgt := 1002) (sv_d k_La_law_0 21 rfl) (18 : Int32) hh59 (by decide) (by decide) rfl (by decide) ?_
                                            exact sv_loc [0, 1, 2, 3] rfl (V_La_law_b1002 E d (F_La_law_b18  n) ih x3 s)
                                          · refine ss_dec (fun hh62 => ?_) (fun hh62 => ?_)
                                            · refine sv_tab (pc := 33) (tgt := 1015) (sv_d k_La_law_0 21 rfl) (19 : Int32) hh62 (by decide) (by decide) rfl (by decide) ?_
                                              exact sv_loc [0, 1, 2, 3] rfl (V_La_law_b1015 E d (F_La_law_b18  n) ih x3 s)
                                            · refine ss_dec (fun hh65 => ?_) (fun hh65 => ?_)
                                              · refine sv_tab (pc := 33) (tgt := 1038) (sv_d k_La_law_0 21 rfl) (20 : Int32) hh65 (by decide) (by decide) rfl (by decide) ?_
                                                exact sv_loc [0, 1, 2, 3] rfl (V_La_law_b1038 E d (F_La_law_b18  n) ih x3 s)
                                              · refine ss_dec (fun hh68 => ?_) (fun hh68 => ?_)
                                                · refine sv_tab (pc := 33) (tgt := 1081) (sv_d k_La_law_0 21 rfl) (21 : Int32) hh68 (by decide) (by decide) rfl (by decide) ?_
                                                  exact sv_loc [0, 1, 2, 3] rfl (V_La_law_b1081 E d (F_La_law_b18  n) ih x3 s)
                                                · refine ss_dec (fun hh71 => ?_) (fun hh71 => ?_)
                                                  · refine sv_tab (pc := 33) (tgt := 1104) (sv_d k_La_law_0 21 rfl) (22 : Int32) hh71 (by decide) (by decide) rfl (by decide) ?_
                                                    exact sv_loc [0, 1, 2, 3] rfl (V_La_law_b1104 E d (F_La_law_b18  n) ih x3 s)
                                                  · refine ss_dec (fun hh74 => ?_) (fun hh74 => ?_)
                                                    · refine sv_tab (pc := 33) (tgt := 1128) (sv_d k_La_law_0 21 rfl) (23 : Int32) hh74 (by decide) (by decide) rfl (by decide) ?_
                                                      exact sv_loc [0, 1, 2, 3] rfl (V_La_law_b1128 E d (F_La_law_b18  n) ih x3 s)
                                                    · refine ss_dec (fun hh77 => ?_) (fun hh77 => ?_)
                                                      · refine sv_tab (pc := 33) (tgt := 1203) (sv_d k_La_law_0 21 rfl) (24 : Int32) hh77 (by decide) (by decide) rfl (by decide) ?_
                                                        exact sv_loc [0, 1, 2, 3] rfl (V_La_law_b1203 E d (F_La_law_b18  n) ih x3 s)
                                                      · refine ss_dec (fun hh80 => ?_) (fun hh80 => ?_)
                                                        · refine sv_tab (pc := 33) (tgt := 1266) (sv_d k_La_law_0 21 rfl) (25 : Int32) hh80 (by decide) (by decide) rfl (by decide) ?_
                                                          exact sv_loc [0, 1, 2, 3] rfl (V_La_law_b1266 E d (F_La_law_b18  n) ih x3 s)
                                                        · refine ss_dec (fun hh83 => ?_) (fun hh83 => ?_)
                                                          · refine sv_tab (pc := 33) (tgt := 1329) (sv_d k_La_law_0 21 rfl) (26 : Int32) hh83 (by decide) (by decide) rfl (by decide) ?_
                                                            exact sv_loc [0, 1, 2, 3] rfl (V_La_law_b1329 E d (F_La_law_b18  n) ih x3 s)
                                                          · refine ss_dec (fun hh86 => ?_) (fun hh86 => ?_)
                                                            · refine sv_tab (pc := 33) (tgt := 1362) (sv_d k_La_law_0 21 rfl) (27 : Int32) hh86 (by decide) (by decide) rfl (by decide) ?_
                                                              exact sv_loc [0, 1, 2, 3] rfl (V_La_law_b1362 E d (F_La_law_b18  n) ih x3 s)
                                                            · refine ss_dec (fun hh89 => ?_) (fun hh89 => ?_)
                                                              · refine sv_tab (pc := 33) (tgt := 1395) (sv_d k_La_law_0 21 rfl) (28 : Int32) hh89 (by decide) (by decide) rfl (by decide) ?_
                                                                exact sv_loc [0, 1, 2, 3] rfl (V_La_law_b1395 E d (F_La_law_b18  n) ih x3 s)
                                                              · refine ss_dec (fun hh92 => ?_) (fun hh92 => ?_)
                                                                · refine sv_tab (pc := 33) (tgt := 1438) (sv_d k_La_law_0 21 rfl) (29 : Int32) hh92 (by decide) (by decide) rfl (by decide) ?_
                                                                  exact sv_loc [0, 1, 2, 3] rfl (V_La_law_b1438 E d (F_La_law_b18  n) ih x3 s)
                                                                · refine ss_dec (fun hh95 => ?_) (fun hh95 => ?_)
                                                                  · refine sv_tab (pc := 33) (tgt := 1461) (sv_d k_La_law_0 21 rfl) (30 : Int32) hh95 (by decide) (by decide) rfl (by decide) ?_
                                                                    exact sv_loc [0, 1, 2, 3] rfl (V_La_law_b1461 E d (F_La_law_b18  n) ih x3 s)
                                                                  · refine ss_dec (fun hh98 => ?_) (fun hh98 => ?_)
                                                                    · refine sv_tab (pc := 33) (tgt := 1474) (sv_d k_La_law_0 21 rfl) (31 : Int32) hh98 (by decide) (by decide) rfl (by decide) ?_
                                                                      exact sv_loc [0, 1, 2, 3] rfl (V_La_law_b1474 E d (F_La_law_b18  n) ih x3 s)
                                                                    · refine ss_dec (fun hh101 => ?_) (fun hh101 => ?_)
                                                                      · refine sv_tab (pc := 33) (tgt := 1497) (sv_d k_La_law_0 21 rfl) (32 : Int32) hh101 (by decide) (by decide) rfl (by decide) ?_
                                                                        exact sv_loc [0, 1, 2, 3] rfl (V_La_law_b1497 E d (F_La_law_b18  n) ih x3 s)
                                                                      · refine ss_dec (fun hh104 => ?_) (fun hh104 => ?_)
                                                                        · refine sv_tab (pc := 33) (tgt := 1584) (sv_d k_La_law_0 21 rfl) (33 : Int32) hh104 (by decide) (by decide) rfl (by decide) ?_
                                                                          exact sv_loc [0, 1, 2, 3] rfl (V_La_law_b1584 E d (F_La_law_b18  n) ih x3 s)
                                                                        · refine ss_dec (fun hh107 => ?_) (fun hh107 => ?_)
                                                                          · refine sv_tab (pc := 33) (tgt := 1627) (sv_d k_La_law_0 21 rfl) (34 : Int32) hh107 (by decide) (by decide) rfl (by decide) ?_
                                                                            exact sv_loc [0, 1, 2, 3] rfl (V_La_law_b1627 E d (F_La_law_b18  n) ih x3 s)
                                                                          · refine ss_dec (fun hh110 => ?_) (fun hh110 => ?_)
                                                                            · refine sv_tab (pc := 33) (tgt := 1650) (sv_d k_La_law_0 21 rfl) (35 : Int32) hh110 (by decide) (by decide) rfl (by decide) ?_
                                                                              exact sv_loc [0, 1, 2, 3] rfl (V_La_law_b1650 E d (F_La_law_b18  n) ih x3 s)
                                                                            · refine ss_dec (fun hh113 => ?_) (fun hh113 => ?_)
                                                                              · refine sv_tab (pc := 33) (tgt := 1683) (sv_d k_La_law_0 21 rfl) (36 : Int32) hh113 (by decide) (by decide) rfl (by decide) ?_
                                                                                exact sv_loc [0, 1, 2, 3] rfl (V_La_law_b1683 E d (F_La_law_b18  n) ih x3 s)
                                                                              · refine ss_dec (fun hh116 => ?_) (fun hh116 => ?_)
                                                                                · refine sv_tab (pc := 33) (tgt := 1706) (sv_d k_La_law_0 21 rfl) (37 : Int32) hh116 (by decide) (by decide) rfl (by decide) ?_
                                                                                  exact sv_loc [0, 1, 2, 3] rfl (V_La_law_b1706 E d (F_La_law_b18  n) ih x3 s)
                                                                                · refine ss_dec (fun hh119 => ?_) (fun hh119 => ?_)
                                                                                  · refine sv_tab (pc := 33) (tgt := 1749) (sv_d k_La_law_0 21 rfl) (38 : Int32) hh119 (by decide) (by decide) rfl (by decide) ?_
                                                                                    exact sv_loc [0, 1, 2, 3] rfl (V_La_law_b1749 E d (F_La_law_b18  n) ih x3 s)
                                                                                  · refine ss_dec (fun hh122 => ?_) (fun hh122 => ?_)
                                                                                    · refine sv_tab (pc := 33) (tgt := 1822) (sv_d k_La_law_0 21 rfl) (39 : Int32) hh122 (by decide) (by decide) rfl (by decide) ?_
                                                                                      exact sv_loc [0, 1, 2, 3] rfl (V_La_law_b1822 E d (F_La_law_b18  n) ih x3 s)
                                                                                    · refine ss_dec (fun hh125 => ?_) (fun hh125 => ?_)
                                                                                      · refine sv_tab (pc := 33) (tgt := 1856) (sv_d k_La_law_0 21 rfl) (40 : Int32) hh125 (by decide) (by decide) rfl (by decide) ?_
                                                                                        exact sv_loc [0, 1, 2, 3] rfl (V_La_law_b1856 E d (F_La_law_b18  n) ih x3 s)
                                                                                      · refine sv_tabD (pc := 33) (tgt := 1919) (sv_d k_La_law_0 21 rfl) (by rcases Int.lt_or_le (Int32.toInt v1) (0) with q | q; exact Or.inl q; have q := (sv_nlt (sv_nlt (sv_nlt (sv_nlt (sv_nlt (sv_nlt (sv_nlt (sv_nlt (sv_nlt (sv_nlt (sv_nlt (sv_nlt (sv_nlt (sv_nlt (sv_nlt (sv_nlt (sv_nlt (sv_nlt (sv_nlt (sv_nlt (sv_nlt (sv_nlt (sv_nlt (sv_nlt (sv_nlt (sv_nlt (sv_nlt (sv_nlt (sv_nlt (sv_nlt (sv_nlt (sv_nlt (sv_nlt (sv_nlt (sv_nlt (sv_nlt (sv_nlt (sv_nlt (sv_nlt (sv_nlt (sv_nlt q (lv_neT hh5 rfl)) (lv_neT hh8 rfl)) (lv_neT hh11 rfl)) (lv_neT hh14 rfl)) (lv_neT hh17 rfl)) (lv_neT hh20 rfl)) (lv_neT hh23 rfl)) (lv_neT hh26 rfl)) (lv_neT hh29 rfl)) (lv_neT hh32 rfl)) (lv_neT hh35 rfl)) (lv_neT hh38 rfl)) (lv_neT hh41 rfl)) (lv_neT hh44 rfl)) (lv_neT hh47 rfl)) (lv_neT hh50 rfl)) (lv_neT hh53 rfl)) (lv_neT hh56 rfl)) (lv_neT hh59 rfl)) (lv_neT hh62 rfl)) (lv_neT hh65 rfl)) (lv_neT hh68 rfl)) (lv_neT hh71 rfl)) (lv_neT hh74 rfl)) (lv_neT hh77 rfl)) (lv_neT hh80 rfl)) (lv_neT hh83 rfl)) (lv_neT hh86 rfl)) (lv_neT hh89 rfl)) (lv_neT hh92 rfl)) (lv_neT hh95 rfl)) (lv_neT hh98 rfl)) (lv_neT hh101 rfl)) (lv_neT hh104 rfl)) (lv_neT hh107 rfl)) (lv_neT hh110 rfl)) (lv_neT hh113 rfl)) (lv_neT hh116 rfl)) (lv_neT hh119 rfl)) (lv_neT hh122 rfl)) (lv_neT hh125 rfl)); exact Or.inr (by omega)) (by decide) ?_
                                                                                        exact sv_loc [0, 1, 2, 3] rfl (V_La_law_b1919 E d (F_La_law_b18  n) ih x3 s)
noncomputable def F_La_law (s : sv_S) : Option (Int32 × sv_S) :=
  F_La_law_b18 ss_F (0 : Int32) s
theorem V_La_law16 (E : sv_E) (d : Nat) (s : sv_S) : sv_V E m_La_law (d + 83) ss_i 16 [(0, sv_r E 0), (1, sv_r E 64), (2, sv_r E 187)] [] (ss_e s) (F_La_law s) := by
  unfold F_La_law
  refine sv_iconst (pc := 16) (v := (0 : Int32)) (sv_d k_La_law_0 8 rfl) (by decide) ?_
  refine sv_istore_n (pc := 17) (lv' := [(3, .int (0 : Int32)), (0, sv_r E 0), (1, sv_r E 64), (2, sv_r E 187)]) (sv_d k_La_law_0 9 rfl) rfl (by decide) rfl ?_
  exact sv_loc [1, 2, 3, 0] rfl (V_La_law_b18 E d ss_F (0 : Int32) s)
