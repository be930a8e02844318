/-! the law, case by case -/
def kL0 : List (Nat × Instr × Nat) := [(0, .new 8, 3), (3, .dup, 1), (4, .invokespecial 15, 3), (7, .astore_n 1, 1), (8, .new 16, 3), (11, .dup, 1), (12, .invokespecial 18, 3), (15, .astore_n 2, 1), (16, .iconst 1, 1), (17, .newarray .long, 2), (19, .astore_n 3, 1), (20, .iconst 0, 1), (21, .istore 4, 2), (23, .iload 4, 2), (25, .aload_n 0, 1), (26, .arraylength, 1), (27, .bipush 6, 2), (29, .isub, 1), (30, .if_icmp .gt 1350, 3), (33, .aload_n 0, 1), (34, .iload 4, 2), (36, .iaload, 1), (37, .bipush 63, 2), (39, .iand, 1), (40, .tableswitch 1334 0 34 #[156, 229, 254, 267, 280, 305, 342, 367, 404, 453, 490, 539, 576, 613, 638, 663, 688, 713, 738, 775, 812, 862, 924, 961, 986, 1023, 1049, 1099, 1164, 1201, 1226, 1239, 1252, 1308, 1321], 156), (196, .aload_n 1, 1), (197, .aload_n 0, 1), (198, .iload 4, 2), (200, .iconst 1, 1), (201, .iadd, 1), (202, .iaload, 1), (203, .aload_n 0, 1), (204, .iload 4, 2), (206, .iconst 2, 1), (207, .iadd, 1), (208, .iaload, 1), (209, .aload_n 0, 1), (210, .iload 4, 2), (212, .iconst 3, 1), (213, .iadd, 1), (214, .iaload, 1), (215, .aload_n 0, 1), (216, .iload 4, 2), (218, .iconst 4, 1), (219, .iadd, 1), (220, .iaload, 1), (221, .aload_n 0, 1), (222, .iload 4, 2), (224, .iconst 5, 1), (225, .iadd, 1), (226, .iaload, 1), (227, .invokevirtual 19, 3), (230, .aload_n 2, 1), (231, .aload_n 0, 1), (232, .iload 4, 2), (234, .iconst 1, 1), (235, .iadd, 1), (236, .iaload, 1), (237, .aload_n 0, 1), (238, .iload 4, 2), (240, .iconst 2, 1), (241, .iadd, 1), (242, .iaload, 1), (243, .aload_n 0, 1), (244, .iload 4, 2), (246, .iconst 3, 1), (247, .iadd, 1), (248, .iaload, 1), (249, .aload_n 0, 1), (250, .iload 4, 2), (252, .iconst 4, 1), (253, .iadd, 1), (254, .iaload, 1), (255, .aload_n 0, 1), (256, .iload 4, 2), (258, .iconst 5, 1), (259, .iadd, 1), (260, .iaload, 1), (261, .invokevirtual 23, 3), (264, .if_icmp .eq 1110, 3), (267, .iconst 0, 1), (268, .ireturn, 1), (269, .aload_n 1, 1), (270, .aload_n 0, 1), (271, .iload 4, 2), (273, .iconst 1, 1), (274, .iadd, 1), (275, .iaload, 1), (276, .invokevirtual 24, 3), (279, .aload_n 2, 1), (280, .aload_n 0, 1), (281, .iload 4, 2), (283, .iconst 1, 1), (284, .iadd, 1), (285, .iaload, 1), (286, .invokevirtual 27, 3), (289, .if_icmp .eq 1085, 3), (292, .iconst 0, 1), (293, .ireturn, 1), (294, .aload_n 1, 1), (295, .invokevirtual 28, 3), (298, .aload_n 2, 1), (299, .invokevirtual 32, 3), (302, .if_icmp .eq 1072, 3), (305, .iconst 0, 1), (306, .ireturn, 1), (307, .aload_n 1, 1), (308, .invokevirtual 33, 3), (311, .aload_n 2, 1), (312, .invokevirtual 36, 3)]
theorem DL0 : kL0.map (fun q => decode code q.1) = kL0.map (fun q => Except.ok (q.2.1, q.2.2)) := by decide +kernel
def kL1 : List (Nat × Instr × Nat) := [(315, .if_icmp .eq 1059, 3), (318, .iconst 0, 1), (319, .ireturn, 1), (320, .aload_n 1, 1), (321, .aload_n 0, 1), (322, .iload 4, 2), (324, .iconst 1, 1), (325, .iadd, 1), (326, .iaload, 1), (327, .invokevirtual 37, 3), (330, .aload_n 2, 1), (331, .aload_n 0, 1), (332, .iload 4, 2), (334, .iconst 1, 1), (335, .iadd, 1), (336, .iaload, 1), (337, .invokevirtual 40, 3), (340, .if_icmp .eq 1034, 3), (343, .iconst 0, 1), (344, .ireturn, 1), (345, .aload_n 1, 1), (346, .aload_n 0, 1), (347, .iload 4, 2), (349, .iconst 1, 1), (350, .iadd, 1), (351, .iaload, 1), (352, .aload_n 0, 1), (353, .iload 4, 2), (355, .iconst 2, 1), (356, .iadd, 1), (357, .iaload, 1), (358, .invokevirtual 41, 3), (361, .aload_n 2, 1), (362, .aload_n 0, 1), (363, .iload 4, 2), (365, .iconst 1, 1), (366, .iadd, 1), (367, .iaload, 1), (368, .aload_n 0, 1), (369, .iload 4, 2), (371, .iconst 2, 1), (372, .iadd, 1), (373, .iaload, 1), (374, .invokevirtual 45, 3), (377, .if_icmp .eq 997, 3), (380, .iconst 0, 1), (381, .ireturn, 1), (382, .aload_n 1, 1), (383, .aload_n 0, 1), (384, .iload 4, 2), (386, .iconst 1, 1), (387, .iadd, 1), (388, .iaload, 1), (389, .invokevirtual 46, 3), (392, .aload_n 2, 1), (393, .aload_n 0, 1), (394, .iload 4, 2), (396, .iconst 1, 1), (397, .iadd, 1), (398, .iaload, 1), (399, .invokevirtual 49, 3), (402, .if_icmp .eq 972, 3), (405, .iconst 0, 1), (406, .ireturn, 1), (407, .aload_n 1, 1), (408, .aload_n 0, 1), (409, .iload 4, 2), (411, .iconst 1, 1), (412, .iadd, 1), (413, .iaload, 1), (414, .aload_n 0, 1), (415, .iload 4, 2), (417, .iconst 2, 1), (418, .iadd, 1), (419, .iaload, 1), (420, .invokevirtual 50, 3), (423, .aload_n 2, 1), (424, .aload_n 0, 1), (425, .iload 4, 2), (427, .iconst 1, 1), (428, .iadd, 1), (429, .iaload, 1), (430, .aload_n 0, 1), (431, .iload 4, 2), (433, .iconst 2, 1), (434, .iadd, 1), (435, .iaload, 1), (436, .invokevirtual 53, 3), (439, .if_icmp .eq 935, 3), (442, .iconst 0, 1), (443, .ireturn, 1), (444, .aload_n 1, 1), (445, .aload_n 0, 1), (446, .iload 4, 2), (448, .iconst 1, 1), (449, .iadd, 1), (450, .iaload, 1), (451, .aload_n 0, 1), (452, .iload 4, 2), (454, .iconst 2, 1), (455, .iadd, 1), (456, .iaload, 1), (457, .aload_n 0, 1), (458, .iload 4, 2), (460, .iconst 3, 1), (461, .iadd, 1), (462, .iaload, 1), (463, .invokevirtual 54, 3), (466, .aload_n 2, 1), (467, .aload_n 0, 1)]
theorem DL1 : kL1.map (fun q => decode code q.1) = kL1.map (fun q => Except.ok (q.2.1, q.2.2)) := by decide +kernel
def kL2 : List (Nat × Instr × Nat) := [(468, .iload 4, 2), (470, .iconst 1, 1), (471, .iadd, 1), (472, .iaload, 1), (473, .aload_n 0, 1), (474, .iload 4, 2), (476, .iconst 2, 1), (477, .iadd, 1), (478, .iaload, 1), (479, .aload_n 0, 1), (480, .iload 4, 2), (482, .iconst 3, 1), (483, .iadd, 1), (484, .iaload, 1), (485, .invokevirtual 58, 3), (488, .if_icmp .eq 886, 3), (491, .iconst 0, 1), (492, .ireturn, 1), (493, .aload_n 1, 1), (494, .aload_n 0, 1), (495, .iload 4, 2), (497, .iconst 1, 1), (498, .iadd, 1), (499, .iaload, 1), (500, .aload_n 0, 1), (501, .iload 4, 2), (503, .iconst 2, 1), (504, .iadd, 1), (505, .iaload, 1), (506, .invokevirtual 59, 3), (509, .aload_n 2, 1), (510, .aload_n 0, 1), (511, .iload 4, 2), (513, .iconst 1, 1), (514, .iadd, 1), (515, .iaload, 1), (516, .aload_n 0, 1), (517, .iload 4, 2), (519, .iconst 2, 1), (520, .iadd, 1), (521, .iaload, 1), (522, .invokevirtual 62, 3), (525, .if_icmp .eq 849, 3), (528, .iconst 0, 1), (529, .ireturn, 1), (530, .aload_n 1, 1), (531, .aload_n 0, 1), (532, .iload 4, 2), (534, .iconst 1, 1), (535, .iadd, 1), (536, .iaload, 1), (537, .aload_n 0, 1), (538, .iload 4, 2), (540, .iconst 2, 1), (541, .iadd, 1), (542, .iaload, 1), (543, .aload_n 0, 1), (544, .iload 4, 2), (546, .iconst 3, 1), (547, .iadd, 1), (548, .iaload, 1), (549, .invokevirtual 63, 3), (552, .aload_n 2, 1), (553, .aload_n 0, 1), (554, .iload 4, 2), (556, .iconst 1, 1), (557, .iadd, 1), (558, .iaload, 1), (559, .aload_n 0, 1), (560, .iload 4, 2), (562, .iconst 2, 1), (563, .iadd, 1), (564, .iaload, 1), (565, .aload_n 0, 1), (566, .iload 4, 2), (568, .iconst 3, 1), (569, .iadd, 1), (570, .iaload, 1), (571, .invokevirtual 66, 3), (574, .if_icmp .eq 800, 3), (577, .iconst 0, 1), (578, .ireturn, 1), (579, .aload_n 1, 1), (580, .aload_n 0, 1), (581, .iload 4, 2), (583, .iconst 1, 1), (584, .iadd, 1), (585, .iaload, 1), (586, .aload_n 0, 1), (587, .iload 4, 2), (589, .iconst 2, 1), (590, .iadd, 1), (591, .iaload, 1), (592, .invokevirtual 67, 3), (595, .aload_n 2, 1), (596, .aload_n 0, 1), (597, .iload 4, 2), (599, .iconst 1, 1), (600, .iadd, 1), (601, .iaload, 1), (602, .aload_n 0, 1), (603, .iload 4, 2), (605, .iconst 2, 1), (606, .iadd, 1), (607, .iaload, 1), (608, .invokevirtual 70, 3), (611, .if_icmp .eq 763, 3), (614, .iconst 0, 1), (615, .ireturn, 1), (616, .aload_n 1, 1)]
theorem DL2 : kL2.map (fun q => decode code q.1) = kL2.map (fun q => Except.ok (q.2.1, q.2.2)) := by decide +kernel
def kL3 : List (Nat × Instr × Nat) := [(617, .aload_n 0, 1), (618, .iload 4, 2), (620, .iconst 1, 1), (621, .iadd, 1), (622, .iaload, 1), (623, .aload_n 0, 1), (624, .iload 4, 2), (626, .iconst 2, 1), (627, .iadd, 1), (628, .iaload, 1), (629, .invokevirtual 71, 3), (632, .aload_n 2, 1), (633, .aload_n 0, 1), (634, .iload 4, 2), (636, .iconst 1, 1), (637, .iadd, 1), (638, .iaload, 1), (639, .aload_n 0, 1), (640, .iload 4, 2), (642, .iconst 2, 1), (643, .iadd, 1), (644, .iaload, 1), (645, .invokevirtual 74, 3), (648, .if_icmp .eq 726, 3), (651, .iconst 0, 1), (652, .ireturn, 1), (653, .aload_n 1, 1), (654, .aload_n 0, 1), (655, .iload 4, 2), (657, .iconst 1, 1), (658, .iadd, 1), (659, .iaload, 1), (660, .invokevirtual 75, 3), (663, .aload_n 2, 1), (664, .aload_n 0, 1), (665, .iload 4, 2), (667, .iconst 1, 1), (668, .iadd, 1), (669, .iaload, 1), (670, .invokevirtual 78, 3), (673, .if_icmp .eq 701, 3), (676, .iconst 0, 1), (677, .ireturn, 1), (678, .aload_n 1, 1), (679, .aload_n 0, 1), (680, .iload 4, 2), (682, .iconst 1, 1), (683, .iadd, 1), (684, .iaload, 1), (685, .invokevirtual 79, 3), (688, .aload_n 2, 1), (689, .aload_n 0, 1), (690, .iload 4, 2), (692, .iconst 1, 1), (693, .iadd, 1), (694, .iaload, 1), (695, .invokevirtual 82, 3), (698, .if_icmp .eq 676, 3), (701, .iconst 0, 1), (702, .ireturn, 1), (703, .aload_n 1, 1), (704, .aload_n 0, 1), (705, .iload 4, 2), (707, .iconst 1, 1), (708, .iadd, 1), (709, .iaload, 1), (710, .invokevirtual 83, 3), (713, .aload_n 2, 1), (714, .aload_n 0, 1), (715, .iload 4, 2), (717, .iconst 1, 1), (718, .iadd, 1), (719, .iaload, 1), (720, .invokevirtual 86, 3), (723, .if_icmp .eq 651, 3), (726, .iconst 0, 1), (727, .ireturn, 1), (728, .aload_n 1, 1), (729, .aload_n 0, 1), (730, .iload 4, 2), (732, .iconst 1, 1), (733, .iadd, 1), (734, .iaload, 1), (735, .invokevirtual 87, 3), (738, .aload_n 2, 1), (739, .aload_n 0, 1), (740, .iload 4, 2), (742, .iconst 1, 1), (743, .iadd, 1), (744, .iaload, 1), (745, .invokevirtual 90, 3), (748, .if_icmp .eq 626, 3), (751, .iconst 0, 1), (752, .ireturn, 1), (753, .aload_n 1, 1), (754, .aload_n 0, 1), (755, .iload 4, 2), (757, .iconst 1, 1), (758, .iadd, 1), (759, .iaload, 1), (760, .invokevirtual 91, 3), (763, .aload_n 2, 1), (764, .aload_n 0, 1), (765, .iload 4, 2), (767, .iconst 1, 1), (768, .iadd, 1), (769, .iaload, 1), (770, .invokevirtual 94, 3), (773, .if_icmp .eq 601, 3), (776, .iconst 0, 1)]
theorem DL3 : kL3.map (fun q => decode code q.1) = kL3.map (fun q => Except.ok (q.2.1, q.2.2)) := by decide +kernel
def kL4 : List (Nat × Instr × Nat) := [(777, .ireturn, 1), (778, .aload_n 1, 1), (779, .aload_n 0, 1), (780, .iload 4, 2), (782, .iconst 1, 1), (783, .iadd, 1), (784, .iaload, 1), (785, .aload_n 0, 1), (786, .iload 4, 2), (788, .iconst 2, 1), (789, .iadd, 1), (790, .iaload, 1), (791, .invokevirtual 95, 3), (794, .aload_n 2, 1), (795, .aload_n 0, 1), (796, .iload 4, 2), (798, .iconst 1, 1), (799, .iadd, 1), (800, .iaload, 1), (801, .aload_n 0, 1), (802, .iload 4, 2), (804, .iconst 2, 1), (805, .iadd, 1), (806, .iaload, 1), (807, .invokevirtual 98, 3), (810, .if_icmp .eq 564, 3), (813, .iconst 0, 1), (814, .ireturn, 1), (815, .aload_n 1, 1), (816, .aload_n 0, 1), (817, .iload 4, 2), (819, .iconst 1, 1), (820, .iadd, 1), (821, .iaload, 1), (822, .aload_n 0, 1), (823, .iload 4, 2), (825, .iconst 2, 1), (826, .iadd, 1), (827, .iaload, 1), (828, .invokevirtual 99, 3), (831, .aload_n 2, 1), (832, .aload_n 0, 1), (833, .iload 4, 2), (835, .iconst 1, 1), (836, .iadd, 1), (837, .iaload, 1), (838, .aload_n 0, 1), (839, .iload 4, 2), (841, .iconst 2, 1), (842, .iadd, 1), (843, .iaload, 1), (844, .invokevirtual 102, 3), (847, .if_icmp .eq 527, 3), (850, .iconst 0, 1), (851, .ireturn, 1), (852, .aload_n 1, 1), (853, .aload_n 0, 1), (854, .iload 4, 2), (856, .iconst 1, 1), (857, .iadd, 1), (858, .iaload, 1), (859, .aload_n 0, 1), (860, .iload 4, 2), (862, .iconst 2, 1), (863, .iadd, 1), (864, .iaload, 1), (865, .aload_n 0, 1), (866, .iload 4, 2), (868, .iconst 3, 1), (869, .iadd, 1), (870, .iaload, 1), (871, .invokevirtual 103, 3), (874, .aload_n 2, 1), (875, .aload_n 0, 1), (876, .iload 4, 2), (878, .iconst 1, 1), (879, .iadd, 1), (880, .iaload, 1), (881, .aload_n 0, 1), (882, .iload 4, 2), (884, .iconst 2, 1), (885, .iadd, 1), (886, .iaload, 1), (887, .aload_n 0, 1), (888, .iload 4, 2), (890, .iconst 3, 1), (891, .iadd, 1), (892, .iaload, 1), (893, .invokevirtual 107, 3), (896, .lcmp, 1), (897, .ifCond .eq 477, 3), (900, .iconst 0, 1), (901, .ireturn, 1), (902, .aload_n 1, 1), (903, .aload_n 0, 1), (904, .iload 4, 2), (906, .iconst 1, 1), (907, .iadd, 1), (908, .iaload, 1), (909, .aload_n 0, 1), (910, .iload 4, 2), (912, .iconst 2, 1), (913, .iadd, 1), (914, .iaload, 1), (915, .aload_n 0, 1), (916, .iload 4, 2), (918, .iconst 3, 1), (919, .iadd, 1), (920, .iaload, 1), (921, .aload_n 0, 1)]
theorem DL4 : kL4.map (fun q => decode code q.1) = kL4.map (fun q => Except.ok (q.2.1, q.2.2)) := by decide +kernel
def kL5 : List (Nat × Instr × Nat) := [(922, .iload 4, 2), (924, .iconst 4, 1), (925, .iadd, 1), (926, .iaload, 1), (927, .invokevirtual 108, 3), (930, .aload_n 2, 1), (931, .aload_n 0, 1), (932, .iload 4, 2), (934, .iconst 1, 1), (935, .iadd, 1), (936, .iaload, 1), (937, .aload_n 0, 1), (938, .iload 4, 2), (940, .iconst 2, 1), (941, .iadd, 1), (942, .iaload, 1), (943, .aload_n 0, 1), (944, .iload 4, 2), (946, .iconst 3, 1), (947, .iadd, 1), (948, .iaload, 1), (949, .aload_n 0, 1), (950, .iload 4, 2), (952, .iconst 4, 1), (953, .iadd, 1), (954, .iaload, 1), (955, .invokevirtual 112, 3), (958, .lcmp, 1), (959, .ifCond .eq 415, 3), (962, .iconst 0, 1), (963, .ireturn, 1), (964, .aload_n 1, 1), (965, .aload_n 0, 1), (966, .iload 4, 2), (968, .iconst 1, 1), (969, .iadd, 1), (970, .iaload, 1), (971, .aload_n 0, 1), (972, .iload 4, 2), (974, .iconst 2, 1), (975, .iadd, 1), (976, .iaload, 1), (977, .invokevirtual 113, 3), (980, .aload_n 2, 1), (981, .aload_n 0, 1), (982, .iload 4, 2), (984, .iconst 1, 1), (985, .iadd, 1), (986, .iaload, 1), (987, .aload_n 0, 1), (988, .iload 4, 2), (990, .iconst 2, 1), (991, .iadd, 1), (992, .iaload, 1), (993, .invokevirtual 116, 3), (996, .if_icmp .eq 378, 3), (999, .iconst 0, 1), (1000, .ireturn, 1), (1001, .aload_n 1, 1), (1002, .aload_n 0, 1), (1003, .iload 4, 2), (1005, .iconst 1, 1), (1006, .iadd, 1), (1007, .iaload, 1), (1008, .invokevirtual 117, 3), (1011, .aload_n 2, 1), (1012, .aload_n 0, 1), (1013, .iload 4, 2), (1015, .iconst 1, 1), (1016, .iadd, 1), (1017, .iaload, 1), (1018, .invokevirtual 120, 3), (1021, .if_icmp .eq 353, 3), (1024, .iconst 0, 1), (1025, .ireturn, 1), (1026, .aload_n 1, 1), (1027, .aload_n 0, 1), (1028, .iload 4, 2), (1030, .iconst 1, 1), (1031, .iadd, 1), (1032, .iaload, 1), (1033, .aload_n 0, 1), (1034, .iload 4, 2), (1036, .iconst 2, 1), (1037, .iadd, 1), (1038, .iaload, 1), (1039, .invokevirtual 121, 3), (1042, .aload_n 2, 1), (1043, .aload_n 0, 1), (1044, .iload 4, 2), (1046, .iconst 1, 1), (1047, .iadd, 1), (1048, .iaload, 1), (1049, .aload_n 0, 1), (1050, .iload 4, 2), (1052, .iconst 2, 1), (1053, .iadd, 1), (1054, .iaload, 1), (1055, .invokevirtual 124, 3), (1058, .if_icmp .eq 316, 3), (1061, .iconst 0, 1), (1062, .ireturn, 1), (1063, .aload_n 1, 1), (1064, .aload_n 0, 1), (1065, .iload 4, 2), (1067, .iconst 1, 1), (1068, .iadd, 1), (1069, .iaload, 1), (1070, .invokevirtual 125, 3), (1073, .aload_n 2, 1)]
theorem DL5 : kL5.map (fun q => decode code q.1) = kL5.map (fun q => Except.ok (q.2.1, q.2.2)) := by decide +kernel
def kL6 : List (Nat × Instr × Nat) := [(1074, .aload_n 0, 1), (1075, .iload 4, 2), (1077, .iconst 1, 1), (1078, .iadd, 1), (1079, .iaload, 1), (1080, .invokevirtual 129, 3), (1083, .lcmp, 1), (1084, .ifCond .eq 290, 3), (1087, .iconst 0, 1), (1088, .ireturn, 1), (1089, .aload_n 1, 1), (1090, .aload_n 0, 1), (1091, .iload 4, 2), (1093, .iconst 1, 1), (1094, .iadd, 1), (1095, .iaload, 1), (1096, .aload_n 0, 1), (1097, .iload 4, 2), (1099, .iconst 2, 1), (1100, .iadd, 1), (1101, .iaload, 1), (1102, .aload_n 0, 1), (1103, .iload 4, 2), (1105, .iconst 3, 1), (1106, .iadd, 1), (1107, .iaload, 1), (1108, .invokevirtual 130, 3), (1111, .aload_n 2, 1), (1112, .aload_n 0, 1), (1113, .iload 4, 2), (1115, .iconst 1, 1), (1116, .iadd, 1), (1117, .iaload, 1), (1118, .aload_n 0, 1), (1119, .iload 4, 2), (1121, .iconst 2, 1), (1122, .iadd, 1), (1123, .iaload, 1), (1124, .aload_n 0, 1), (1125, .iload 4, 2), (1127, .iconst 3, 1), (1128, .iadd, 1), (1129, .iaload, 1), (1130, .invokevirtual 133, 3), (1133, .lcmp, 1), (1134, .ifCond .eq 240, 3), (1137, .iconst 0, 1), (1138, .ireturn, 1), (1139, .aload_n 1, 1), (1140, .aload_n 0, 1), (1141, .iload 4, 2), (1143, .iconst 1, 1), (1144, .iadd, 1), (1145, .iaload, 1), (1146, .aload_n 0, 1), (1147, .iload 4, 2), (1149, .iconst 2, 1), (1150, .iadd, 1), (1151, .iaload, 1), (1152, .aload_n 0, 1), (1153, .iload 4, 2), (1155, .iconst 3, 1), (1156, .iadd, 1), (1157, .iaload, 1), (1158, .ifCond .eq 7, 3), (1161, .iconst 1, 1), (1162, .goto 4, 3), (1165, .iconst 0, 1), (1166, .invokevirtual 134, 3), (1169, .aload_n 2, 1), (1170, .aload_n 0, 1), (1171, .iload 4, 2), (1173, .iconst 1, 1), (1174, .iadd, 1), (1175, .iaload, 1), (1176, .aload_n 0, 1), (1177, .iload 4, 2), (1179, .iconst 2, 1), (1180, .iadd, 1), (1181, .iaload, 1), (1182, .aload_n 0, 1), (1183, .iload 4, 2), (1185, .iconst 3, 1), (1186, .iadd, 1), (1187, .iaload, 1), (1188, .ifCond .eq 7, 3), (1191, .iconst 1, 1), (1192, .goto 4, 3), (1195, .iconst 0, 1), (1196, .invokevirtual 138, 3), (1199, .if_icmp .eq 175, 3), (1202, .iconst 0, 1), (1203, .ireturn, 1), (1204, .aload_n 1, 1), (1205, .aload_n 0, 1), (1206, .iload 4, 2), (1208, .iconst 1, 1), (1209, .iadd, 1), (1210, .iaload, 1), (1211, .aload_n 0, 1), (1212, .iload 4, 2), (1214, .iconst 2, 1), (1215, .iadd, 1), (1216, .iaload, 1), (1217, .invokevirtual 139, 3), (1220, .aload_n 2, 1), (1221, .aload_n 0, 1), (1222, .iload 4, 2), (1224, .iconst 1, 1), (1225, .iadd, 1)]
theorem DL6 : kL6.map (fun q => decode code q.1) = kL6.map (fun q => Except.ok (q.2.1, q.2.2)) := by decide +kernel
def kL7 : List (Nat × Instr × Nat) := [(1226, .iaload, 1), (1227, .aload_n 0, 1), (1228, .iload 4, 2), (1230, .iconst 2, 1), (1231, .iadd, 1), (1232, .iaload, 1), (1233, .invokevirtual 142, 3), (1236, .if_icmp .eq 138, 3), (1239, .iconst 0, 1), (1240, .ireturn, 1), (1241, .aload_n 1, 1), (1242, .aload_n 0, 1), (1243, .iload 4, 2), (1245, .iconst 1, 1), (1246, .iadd, 1), (1247, .iaload, 1), (1248, .invokevirtual 143, 3), (1251, .aload_n 2, 1), (1252, .aload_n 0, 1), (1253, .iload 4, 2), (1255, .iconst 1, 1), (1256, .iadd, 1), (1257, .iaload, 1), (1258, .invokevirtual 147, 3), (1261, .if_icmp .eq 113, 3), (1264, .iconst 0, 1), (1265, .ireturn, 1), (1266, .aload_n 1, 1), (1267, .invokevirtual 148, 3), (1270, .aload_n 2, 1), (1271, .invokevirtual 151, 3), (1274, .if_icmp .eq 100, 3), (1277, .iconst 0, 1), (1278, .ireturn, 1), (1279, .aload_n 1, 1), (1280, .invokevirtual 152, 3), (1283, .aload_n 2, 1), (1284, .invokevirtual 155, 3), (1287, .if_icmp .eq 87, 3), (1290, .iconst 0, 1), (1291, .ireturn, 1), (1292, .aload_n 1, 1), (1293, .aload_n 0, 1), (1294, .iload 4, 2), (1296, .iconst 1, 1), (1297, .iadd, 1), (1298, .iaload, 1), (1299, .aload_n 3, 1), (1300, .invokestatic 156, 3), (1303, .istore 5, 2), (1305, .aload_n 2, 1), (1306, .aload_n 0, 1), (1307, .iload 4, 2), (1309, .iconst 1, 1), (1310, .iadd, 1), (1311, .iaload, 1), (1312, .invokevirtual 161, 3), (1315, .istore 6, 2), (1317, .aload_n 2, 1), (1318, .invokevirtual 162, 3), (1321, .iload 5, 2), (1323, .if_icmp .eq 5, 3), (1326, .iconst 0, 1), (1327, .ireturn, 1), (1328, .iload 5, 2), (1330, .ifCond .ne 15, 3), (1333, .aload_n 3, 1), (1334, .iconst 0, 1), (1335, .laload, 1), (1336, .iload 6, 2), (1338, .i2l, 1), (1339, .lcmp, 1), (1340, .ifCond .eq 5, 3), (1343, .iconst 0, 1), (1344, .ireturn, 1), (1345, .goto 29, 3), (1348, .aload_n 1, 1), (1349, .invokevirtual 165, 3), (1352, .aload_n 2, 1), (1353, .invokevirtual 168, 3), (1356, .if_icmp .eq 18, 3), (1359, .iconst 0, 1), (1360, .ireturn, 1), (1361, .aload_n 1, 1), (1362, .invokevirtual 169, 3), (1365, .aload_n 2, 1), (1366, .invokevirtual 172, 3), (1369, .if_icmp .eq 5, 3), (1372, .iconst 0, 1), (1373, .ireturn, 1), (1374, .iinc 4 6, 3), (1377, .goto (-1354), 3), (1380, .iconst 1, 1), (1381, .ireturn, 1)]
theorem DL7 : kL7.map (fun q => decode code q.1) = kL7.map (fun q => Except.ok (q.2.1, q.2.2)) := by decide +kernel
abbrev lB (i : Nat) : eL := [(0, eR 98), (1, eR 0), (2, eR 33), (3, eR 99), (4, (0, (i : Int)))]
theorem x_eI (x : Int32) : eI x.toInt := ⟨by have := x.minValue_le_toInt; simpa using this, by have := x.toInt_lt; omega⟩
theorem l_arg {E : eE} {cL : ClassId} {sa : Nat} {l : Launch} {p : Program} {e : Env} {s : State} {m : MethodId} {below : List Frame} {meth : Method} {c : Code} {L : Nat} {xs : Nat → Int32} {pc : Nat} {ls : eL} {st : List eV} {w : eW} {f : Nat → Int64} {k n i : Nat} (j : Nat) (X : lX E cL sa l p s m meth c L xs) (hij : i + j < L) (h0 : eLg 0 ls = some (eR 98)) (h4 : eLg 4 ls = some (0, (i : Int))) (d0 : decode code pc = .ok (.aload_n 0, 1)) (d1 : decode code (pc + 1) = .ok (.iload 4, 2)) (d2 : decode code (pc + 1 + 2) = .ok (.iconst (j : Int), 1)) (d3 : decode code (pc + 1 + 2 + 1) = .ok (.iadd, 1)) (d4 : decode code (pc + 1 + 2 + 1 + 1) = .ok (.iaload, 1))
    (g : LGo E cL l p e s m below meth c (pc + 1 + 2 + 1 + 1 + 1) ls ((0, (xs (i + j)).toInt) :: st) w f k n) : LGo E cL l p e s m below meth c pc ls st w f k n := by
  refine l_aload X d0 rfl h0 (l_iload X d1 h4 (l_iconst X d2 (l_iadd X d3 ?_)))
  rw [show (i : Int) + (j : Int) = ((i + j : Nat) : Int) by omega]
  exact l_sld X hij d4 g
theorem c_feed {E : eE} {cL : ClassId} {sa : Nat} {l : Launch} {p : Program} {e : Env} {s : State} {m : MethodId} {below : List Frame} {meth : Method} {c : Code} {L : Nat} {xs : Nat → Int32} {w : eW} {f : Nat → Int64} {k n i : Nat} (X : lX E cL sa l p s m meth c L xs) (hi : i + 6 ≤ L) (hr : k + 1 ≤ 1087 ∧ n + 6 ≤ 23248) (hI : IV w) (g : ∀ w2, IV w2 → LGo E cL l p e s m below meth c 1374 (lB i) [] w2 f k n) : LGo E cL l p e s m below meth c 196 (lB i) [] w f k n := by
  have hr2 : k ≤ 1087 ∧ n ≤ 23248 := by omega
  obtain ⟨x, w1, w2, c1, c2, hI2⟩ := s_feed ((xs (i + 1)).toInt) ((xs (i + 2)).toInt) ((xs (i + 3)).toInt) ((xs (i + 4)).toInt) ((xs (i + 5)).toInt) (x_eI _) (x_eI _) (x_eI _) (x_eI _) (x_eI _) w hI
  refine l_aload X (eD DL0 25 rfl) rfl rfl ?_
  refine l_arg 1 X (by omega) rfl rfl (eD DL0 26 rfl) (eD DL0 27 rfl) (eD DL0 28 rfl) (eD DL0 29 rfl) (eD DL0 30 rfl) ?_
  refine l_arg 2 X (by omega) rfl rfl (eD DL0 31 rfl) (eD DL0 32 rfl) (eD DL0 33 rfl) (eD DL0 34 rfl) (eD DL0 35 rfl) ?_
  refine l_arg 3 X (by omega) rfl rfl (eD DL0 36 rfl) (eD DL0 37 rfl) (eD DL0 38 rfl) (eD DL0 39 rfl) (eD DL0 40 rfl) ?_
  refine l_arg 4 X (by omega) rfl rfl (eD DL0 41 rfl) (eD DL0 42 rfl) (eD DL0 43 rfl) (eD DL0 44 rfl) (eD DL0 45 rfl) ?_
  refine l_arg 5 X (by omega) rfl rfl (eD DL0 46 rfl) (eD DL0 47 rfl) (eD DL0 48 rfl) (eD DL0 49 rfl) (eD DL0 50 rfl) ?_
  refine l_call (ci := 7) [(0, (xs (i + 1)).toInt), (0, (xs (i + 2)).toInt), (0, (xs (i + 3)).toInt), (0, (xs (i + 4)).toInt), (0, (xs (i + 5)).toInt)] X (eD DL0 51 rfl) ⟨eMem 2 42 rfl rfl, sX7_feed⟩ (by decide) (by decide) ⟨rfl, by decide, _, rfl, rfl⟩ rfl rfl (Nat.le_of_ble_eq_true rfl) hr2 c1 ?_
  refine l_aload X (eD DL0 52 rfl) rfl rfl ?_
  refine l_arg 1 X (by omega) rfl rfl (eD DL0 53 rfl) (eD DL0 54 rfl) (eD DL0 55 rfl) (eD DL0 56 rfl) (eD DL0 57 rfl) ?_
  refine l_arg 2 X (by omega) rfl rfl (eD DL0 58 rfl) (eD DL0 59 rfl) (eD DL0 60 rfl) (eD DL0 61 rfl) (eD DL0 62 rfl) ?_
  refine l_arg 3 X (by omega) rfl rfl (eD DL0 63 rfl) (eD DL0 64 rfl) (eD DL0 65 rfl) (eD DL0 66 rfl) (eD DL0 67 rfl) ?_
  refine l_arg 4 X (by omega) rfl rfl (eD DL0 68 rfl) (eD DL0 69 rfl) (eD DL0 70 rfl) (eD DL0 71 rfl) (eD DL0 72 rfl) ?_
  refine l_arg 5 X (by omega) rfl rfl (eD DL0 73 rfl) (eD DL0 74 rfl) (eD DL0 75 rfl) (eD DL0 76 rfl) (eD DL0 77 rfl) ?_
  refine l_call (ci := 8) (rest := [(0, x)]) [(0, (xs (i + 1)).toInt), (0, (xs (i + 2)).toInt), (0, (xs (i + 3)).toInt), (0, (xs (i + 4)).toInt), (0, (xs (i + 5)).toInt)] X (eD DL0 78 rfl) ⟨eMem 5 214 rfl rfl, sX8_feed⟩ (by decide) (by decide) ⟨rfl, by decide, _, rfl, rfl⟩ rfl rfl (Nat.le_of_ble_eq_true rfl) hr2 c2 ?_
  exact l_same X (eD DL0 79 rfl) (by decide) (g w2 hI2)
theorem c_text {E : eE} {cL : ClassId} {sa : Nat} {l : Launch} {p : Program} {e : Env} {s : State} {m : MethodId} {below : List Frame} {meth : Method} {c : Code} {L : Nat} {xs : Nat → Int32} {w : eW} {f : Nat → Int64} {k n i : Nat} (X : lX E cL sa l p s m meth c L xs) (hi : i + 6 ≤ L) (hr : k + 1 ≤ 1087 ∧ n + 6 ≤ 23248) (hI : IV w) (g : ∀ w2, IV w2 → LGo E cL l p e s m below meth c 1374 (lB i) [] w2 f k n) : LGo E cL l p e s m below meth c 269 (lB i) [] w f k n := by
  have hr2 : k ≤ 1087 ∧ n ≤ 23248 := by omega
  obtain ⟨x, w1, w2, c1, c2, hI2⟩ := s_text ((xs (i + 1)).toInt) (x_eI _) w hI
  refine l_aload X (eD DL0 82 rfl) rfl rfl ?_
  refine l_arg 1 X (by omega) rfl rfl (eD DL0 83 rfl) (eD DL0 84 rfl) (eD DL0 85 rfl) (eD DL0 86 rfl) (eD DL0 87 rfl) ?_
  refine l_call (ci := 7) [(0, (xs (i + 1)).toInt)] X (eD DL0 88 rfl) ⟨eMem 2 50 rfl rfl, sX7_text⟩ (by decide) (by decide) ⟨rfl, by decide, _, rfl, rfl⟩ rfl rfl (Nat.le_of_ble_eq_true rfl) hr2 c1 ?_
  refine l_aload X (eD DL0 89 rfl) rfl rfl ?_
  refine l_arg 1 X (by omega) rfl rfl (eD DL0 90 rfl) (eD DL0 91 rfl) (eD DL0 92 rfl) (eD DL0 93 rfl) (eD DL0 94 rfl) ?_
  refine l_call (ci := 8) (rest := [(0, x)]) [(0, (xs (i + 1)).toInt)] X (eD DL0 95 rfl) ⟨eMem 5 226 rfl rfl, sX8_text⟩ (by decide) (by decide) ⟨rfl, by decide, _, rfl, rfl⟩ rfl rfl (Nat.le_of_ble_eq_true rfl) hr2 c2 ?_
  exact l_same X (eD DL0 96 rfl) (by decide) (g w2 hI2)
theorem c_fault {E : eE} {cL : ClassId} {sa : Nat} {l : Launch} {p : Program} {e : Env} {s : State} {m : MethodId} {below : List Frame} {meth : Method} {c : Code} {L : Nat} {xs : Nat → Int32} {w : eW} {f : Nat → Int64} {k n i : Nat} (X : lX E cL sa l p s m meth c L xs) (hi : i + 6 ≤ L) (hr : k + 1 ≤ 1087 ∧ n + 6 ≤ 23248) (hI : IV w) (g : ∀ w2, IV w2 → LGo E cL l p e s m below meth c 1374 (lB i) [] w2 f k n) : LGo E cL l p e s m below meth c 294 (lB i) [] w f k n := by
  have hr2 : k ≤ 1087 ∧ n ≤ 23248 := by omega
  obtain ⟨x, w1, w2, c1, c2, hI2⟩ := s_fault  w hI
  refine l_aload X (eD DL0 99 rfl) rfl rfl ?_
  refine l_call (ci := 7) [] X (eD DL0 100 rfl) ⟨eMem 2 220 rfl rfl, sX7_fault⟩ (by decide) (by decide) ⟨rfl, by decide, _, rfl, rfl⟩ rfl rfl (Nat.le_of_ble_eq_true rfl) hr2 c1 ?_
  refine l_aload X (eD DL0 101 rfl) rfl rfl ?_
  refine l_call (ci := 8) (rest := [(0, x)]) [] X (eD DL0 102 rfl) ⟨eMem 5 218 rfl rfl, sX8_fault⟩ (by decide) (by decide) ⟨rfl, by decide, _, rfl, rfl⟩ rfl rfl (Nat.le_of_ble_eq_true rfl) hr2 c2 ?_
  exact l_same X (eD DL0 103 rfl) (by decide) (g w2 hI2)
theorem c_where {E : eE} {cL : ClassId} {sa : Nat} {l : Launch} {p : Program} {e : Env} {s : State} {m : MethodId} {below : List Frame} {meth : Method} {c : Code} {L : Nat} {xs : Nat → Int32} {w : eW} {f : Nat → Int64} {k n i : Nat} (X : lX E cL sa l p s m meth c L xs) (hi : i + 6 ≤ L) (hr : k + 1 ≤ 1087 ∧ n + 6 ≤ 23248) (hI : IV w) (g : ∀ w2, IV w2 → LGo E cL l p e s m below meth c 1374 (lB i) [] w2 f k n) : LGo E cL l p e s m below meth c 307 (lB i) [] w f k n := by
  have hr2 : k ≤ 1087 ∧ n ≤ 23248 := by omega
  obtain ⟨x, w1, w2, c1, c2, hI2⟩ := s_where  w hI
  refine l_aload X (eD DL0 106 rfl) rfl rfl ?_
  refine l_call (ci := 7) [] X (eD DL0 107 rfl) ⟨eMem 2 224 rfl rfl, sX7_where⟩ (by decide) (by decide) ⟨rfl, by decide, _, rfl, rfl⟩ rfl rfl (Nat.le_of_ble_eq_true rfl) hr2 c1 ?_
  refine l_aload X (eD DL0 108 rfl) rfl rfl ?_
  refine l_call (ci := 8) (rest := [(0, x)]) [] X (eD DL0 109 rfl) ⟨eMem 5 222 rfl rfl, sX8_where⟩ (by decide) (by decide) ⟨rfl, by decide, _, rfl, rfl⟩ rfl rfl (Nat.le_of_ble_eq_true rfl) hr2 c2 ?_
  exact l_same X (eD DL1 0 rfl) (by decide) (g w2 hI2)
theorem c_about {E : eE} {cL : ClassId} {sa : Nat} {l : Launch} {p : Program} {e : Env} {s : State} {m : MethodId} {below : List Frame} {meth : Method} {c : Code} {L : Nat} {xs : Nat → Int32} {w : eW} {f : Nat → Int64} {k n i : Nat} (X : lX E cL sa l p s m meth c L xs) (hi : i + 6 ≤ L) (hr : k + 1 ≤ 1087 ∧ n + 6 ≤ 23248) (hI : IV w) (g : ∀ w2, IV w2 → LGo E cL l p e s m below meth c 1374 (lB i) [] w2 f k n) : LGo E cL l p e s m below meth c 320 (lB i) [] w f k n := by
  have hr2 : k ≤ 1087 ∧ n ≤ 23248 := by omega
  obtain ⟨x, w1, w2, c1, c2, hI2⟩ := s_about ((xs (i + 1)).toInt) (x_eI _) w hI
  refine l_aload X (eD DL1 3 rfl) rfl rfl ?_
  refine l_arg 1 X (by omega) rfl rfl (eD DL1 4 rfl) (eD DL1 5 rfl) (eD DL1 6 rfl) (eD DL1 7 rfl) (eD DL1 8 rfl) ?_
  refine l_call (ci := 7) [(0, (xs (i + 1)).toInt)] X (eD DL1 9 rfl) ⟨eMem 2 228 rfl rfl, sX7_about⟩ (by decide) (by decide) ⟨rfl, by decide, _, rfl, rfl⟩ rfl rfl (Nat.le_of_ble_eq_true rfl) hr2 c1 ?_
  refine l_aload X (eD DL1 10 rfl) rfl rfl ?_
  refine l_arg 1 X (by omega) rfl rfl (eD DL1 11 rfl) (eD DL1 12 rfl) (eD DL1 13 rfl) (eD DL1 14 rfl) (eD DL1 15 rfl) ?_
  refine l_call (ci := 8) (rest := [(0, x)]) [(0, (xs (i + 1)).toInt)] X (eD DL1 16 rfl) ⟨eMem 6 63 rfl rfl, sX8_about⟩ (by decide) (by decide) ⟨rfl, by decide, _, rfl, rfl⟩ rfl rfl (Nat.le_of_ble_eq_true rfl) hr2 c2 ?_
  exact l_same X (eD DL1 17 rfl) (by decide) (g w2 hI2)
theorem c_cell {E : eE} {cL : ClassId} {sa : Nat} {l : Launch} {p : Program} {e : Env} {s : State} {m : MethodId} {below : List Frame} {meth : Method} {c : Code} {L : Nat} {xs : Nat → Int32} {w : eW} {f : Nat → Int64} {k n i : Nat} (X : lX E cL sa l p s m meth c L xs) (hi : i + 6 ≤ L) (hr : k + 1 ≤ 1087 ∧ n + 6 ≤ 23248) (hI : IV w) (g : ∀ w2, IV w2 → LGo E cL l p e s m below meth c 1374 (lB i) [] w2 f k n) : LGo E cL l p e s m below meth c 345 (lB i) [] w f k n := by
  have hr2 : k ≤ 1087 ∧ n ≤ 23248 := by omega
  obtain ⟨x, w1, w2, c1, c2, hI2⟩ := s_cell ((xs (i + 1)).toInt) ((xs (i + 2)).toInt) (x_eI _) (x_eI _) w hI
  refine l_aload X (eD DL1 20 rfl) rfl rfl ?_
  refine l_arg 1 X (by omega) rfl rfl (eD DL1 21 rfl) (eD DL1 22 rfl) (eD DL1 23 rfl) (eD DL1 24 rfl) (eD DL1 25 rfl) ?_
  refine l_arg 2 X (by omega) rfl rfl (eD DL1 26 rfl) (eD DL1 27 rfl) (eD DL1 28 rfl) (eD DL1 29 rfl) (eD DL1 30 rfl) ?_
  refine l_call (ci := 7) [(0, (xs (i + 1)).toInt), (0, (xs (i + 2)).toInt)] X (eD DL1 31 rfl) ⟨eMem 3 86 rfl rfl, sX7_cell⟩ (by decide) (by decide) ⟨rfl, by decide, _, rfl, rfl⟩ rfl rfl (Nat.le_of_ble_eq_true rfl) hr2 c1 ?_
  refine l_aload X (eD DL1 32 rfl) rfl rfl ?_
  refine l_arg 1 X (by omega) rfl rfl (eD DL1 33 rfl) (eD DL1 34 rfl) (eD DL1 35 rfl) (eD DL1 36 rfl) (eD DL1 37 rfl) ?_
  refine l_arg 2 X (by omega) rfl rfl (eD DL1 38 rfl) (eD DL1 39 rfl) (eD DL1 40 rfl) (eD DL1 41 rfl) (eD DL1 42 rfl) ?_
  refine l_call (ci := 8) (rest := [(0, x)]) [(0, (xs (i + 1)).toInt), (0, (xs (i + 2)).toInt)] X (eD DL1 43 rfl) ⟨eMem 6 133 rfl rfl, sX8_cell⟩ (by decide) (by decide) ⟨rfl, by decide, _, rfl, rfl⟩ rfl rfl (Nat.le_of_ble_eq_true rfl) hr2 c2 ?_
  exact l_same X (eD DL1 44 rfl) (by decide) (g w2 hI2)
theorem c_speed {E : eE} {cL : ClassId} {sa : Nat} {l : Launch} {p : Program} {e : Env} {s : State} {m : MethodId} {below : List Frame} {meth : Method} {c : Code} {L : Nat} {xs : Nat → Int32} {w : eW} {f : Nat → Int64} {k n i : Nat} (X : lX E cL sa l p s m meth c L xs) (hi : i + 6 ≤ L) (hr : k + 1 ≤ 1087 ∧ n + 6 ≤ 23248) (hI : IV w) (g : ∀ w2, IV w2 → LGo E cL l p e s m below meth c 1374 (lB i) [] w2 f k n) : LGo E cL l p e s m below meth c 382 (lB i) [] w f k n := by
  have hr2 : k ≤ 1087 ∧ n ≤ 23248 := by omega
  obtain ⟨x, w1, w2, c1, c2, hI2⟩ := s_speed ((xs (i + 1)).toInt) (x_eI _) w hI
  refine l_aload X (eD DL1 47 rfl) rfl rfl ?_
  refine l_arg 1 X (by omega) rfl rfl (eD DL1 48 rfl) (eD DL1 49 rfl) (eD DL1 50 rfl) (eD DL1 51 rfl) (eD DL1 52 rfl) ?_
  refine l_call (ci := 7) [(0, (xs (i + 1)).toInt)] X (eD DL1 53 rfl) ⟨eMem 3 92 rfl rfl, sX7_speed⟩ (by decide) (by decide) ⟨rfl, by decide, _, rfl, rfl⟩ rfl rfl (Nat.le_of_ble_eq_true rfl) hr2 c1 ?_
  refine l_aload X (eD DL1 54 rfl) rfl rfl ?_
  refine l_arg 1 X (by omega) rfl rfl (eD DL1 55 rfl) (eD DL1 56 rfl) (eD DL1 57 rfl) (eD DL1 58 rfl) (eD DL1 59 rfl) ?_
  refine l_call (ci := 8) (rest := [(0, x)]) [(0, (xs (i + 1)).toInt)] X (eD DL1 60 rfl) ⟨eMem 6 141 rfl rfl, sX8_speed⟩ (by decide) (by decide) ⟨rfl, by decide, _, rfl, rfl⟩ rfl rfl (Nat.le_of_ble_eq_true rfl) hr2 c2 ?_
  exact l_same X (eD DL1 61 rfl) (by decide) (g w2 hI2)
theorem c_wall {E : eE} {cL : ClassId} {sa : Nat} {l : Launch} {p : Program} {e : Env} {s : State} {m : MethodId} {below : List Frame} {meth : Method} {c : Code} {L : Nat} {xs : Nat → Int32} {w : eW} {f : Nat → Int64} {k n i : Nat} (X : lX E cL sa l p s m meth c L xs) (hi : i + 6 ≤ L) (hr : k + 1 ≤ 1087 ∧ n + 6 ≤ 23248) (hI : IV w) (g : ∀ w2, IV w2 → LGo E cL l p e s m below meth c 1374 (lB i) [] w2 f k n) : LGo E cL l p e s m below meth c 407 (lB i) [] w f k n := by
  have hr2 : k ≤ 1087 ∧ n ≤ 23248 := by omega
  obtain ⟨x, w1, w2, c1, c2, hI2⟩ := s_wall ((xs (i + 1)).toInt) ((xs (i + 2)).toInt) (x_eI _) (x_eI _) w hI
  refine l_aload X (eD DL1 64 rfl) rfl rfl ?_
  refine l_arg 1 X (by omega) rfl rfl (eD DL1 65 rfl) (eD DL1 66 rfl) (eD DL1 67 rfl) (eD DL1 68 rfl) (eD DL1 69 rfl) ?_
  refine l_arg 2 X (by omega) rfl rfl (eD DL1 70 rfl) (eD DL1 71 rfl) (eD DL1 72 rfl) (eD DL1 73 rfl) (eD DL1 74 rfl) ?_
  refine l_call (ci := 7) [(0, (xs (i + 1)).toInt), (0, (xs (i + 2)).toInt)] X (eD DL1 75 rfl) ⟨eMem 3 100 rfl rfl, sX7_wall⟩ (by decide) (by decide) ⟨rfl, by decide, _, rfl, rfl⟩ rfl rfl (Nat.le_of_ble_eq_true rfl) hr2 c1 ?_
  refine l_aload X (eD DL1 76 rfl) rfl rfl ?_
  refine l_arg 1 X (by omega) rfl rfl (eD DL1 77 rfl) (eD DL1 78 rfl) (eD DL1 79 rfl) (eD DL1 80 rfl) (eD DL1 81 rfl) ?_
  refine l_arg 2 X (by omega) rfl rfl (eD DL1 82 rfl) (eD DL1 83 rfl) (eD DL1 84 rfl) (eD DL1 85 rfl) (eD DL1 86 rfl) ?_
  refine l_call (ci := 8) (rest := [(0, x)]) [(0, (xs (i + 1)).toInt), (0, (xs (i + 2)).toInt)] X (eD DL1 87 rfl) ⟨eMem 6 145 rfl rfl, sX8_wall⟩ (by decide) (by decide) ⟨rfl, by decide, _, rfl, rfl⟩ rfl rfl (Nat.le_of_ble_eq_true rfl) hr2 c2 ?_
  exact l_same X (eD DL1 88 rfl) (by decide) (g w2 hI2)
theorem c_wallOf {E : eE} {cL : ClassId} {sa : Nat} {l : Launch} {p : Program} {e : Env} {s : State} {m : MethodId} {below : List Frame} {meth : Method} {c : Code} {L : Nat} {xs : Nat → Int32} {w : eW} {f : Nat → Int64} {k n i : Nat} (X : lX E cL sa l p s m meth c L xs) (hi : i + 6 ≤ L) (hr : k + 1 ≤ 1087 ∧ n + 6 ≤ 23248) (hI : IV w) (g : ∀ w2, IV w2 → LGo E cL l p e s m below meth c 1374 (lB i) [] w2 f k n) : LGo E cL l p e s m below meth c 444 (lB i) [] w f k n := by
  have hr2 : k ≤ 1087 ∧ n ≤ 23248 := by omega
  obtain ⟨x, w1, w2, c1, c2, hI2⟩ := s_wallOf ((xs (i + 1)).toInt) ((xs (i + 2)).toInt) ((xs (i + 3)).toInt) (x_eI _) (x_eI _) (x_eI _) w hI
  refine l_aload X (eD DL1 91 rfl) rfl rfl ?_
  refine l_arg 1 X (by omega) rfl rfl (eD DL1 92 rfl) (eD DL1 93 rfl) (eD DL1 94 rfl) (eD DL1 95 rfl) (eD DL1 96 rfl) ?_
  refine l_arg 2 X (by omega) rfl rfl (eD DL1 97 rfl) (eD DL1 98 rfl) (eD DL1 99 rfl) (eD DL1 100 rfl) (eD DL1 101 rfl) ?_
  refine l_arg 3 X (by omega) rfl rfl (eD DL1 102 rfl) (eD DL1 103 rfl) (eD DL1 104 rfl) (eD DL1 105 rfl) (eD DL1 106 rfl) ?_
  refine l_call (ci := 7) [(0, (xs (i + 1)).toInt), (0, (xs (i + 2)).toInt), (0, (xs (i + 3)).toInt)] X (eD DL1 107 rfl) ⟨eMem 3 112 rfl rfl, sX7_wallOf⟩ (by decide) (by decide) ⟨rfl, by decide, _, rfl, rfl⟩ rfl rfl (Nat.le_of_ble_eq_true rfl) hr2 c1 ?_
  refine l_aload X (eD DL1 108 rfl) rfl rfl ?_
  refine l_arg 1 X (by omega) rfl rfl (eD DL1 109 rfl) (eD DL2 0 rfl) (eD DL2 1 rfl) (eD DL2 2 rfl) (eD DL2 3 rfl) ?_
  refine l_arg 2 X (by omega) rfl rfl (eD DL2 4 rfl) (eD DL2 5 rfl) (eD DL2 6 rfl) (eD DL2 7 rfl) (eD DL2 8 rfl) ?_
  refine l_arg 3 X (by omega) rfl rfl (eD DL2 9 rfl) (eD DL2 10 rfl) (eD DL2 11 rfl) (eD DL2 12 rfl) (eD DL2 13 rfl) ?_
  refine l_call (ci := 8) (rest := [(0, x)]) [(0, (xs (i + 1)).toInt), (0, (xs (i + 2)).toInt), (0, (xs (i + 3)).toInt)] X (eD DL2 14 rfl) ⟨eMem 6 153 rfl rfl, sX8_wallOf⟩ (by decide) (by decide) ⟨rfl, by decide, _, rfl, rfl⟩ rfl rfl (Nat.le_of_ble_eq_true rfl) hr2 c2 ?_
  exact l_same X (eD DL2 15 rfl) (by decide) (g w2 hI2)
theorem c_mark {E : eE} {cL : ClassId} {sa : Nat} {l : Launch} {p : Program} {e : Env} {s : State} {m : MethodId} {below : List Frame} {meth : Method} {c : Code} {L : Nat} {xs : Nat → Int32} {w : eW} {f : Nat → Int64} {k n i : Nat} (X : lX E cL sa l p s m meth c L xs) (hi : i + 6 ≤ L) (hr : k + 1 ≤ 1087 ∧ n + 6 ≤ 23248) (hI : IV w) (g : ∀ w2, IV w2 → LGo E cL l p e s m below meth c 1374 (lB i) [] w2 f k n) : LGo E cL l p e s m below meth c 493 (lB i) [] w f k n := by
  have hr2 : k ≤ 1087 ∧ n ≤ 23248 := by omega
  obtain ⟨x, w1, w2, c1, c2, hI2⟩ := s_mark ((xs (i + 1)).toInt) ((xs (i + 2)).toInt) (x_eI _) (x_eI _) w hI
  refine l_aload X (eD DL2 18 rfl) rfl rfl ?_
  refine l_arg 1 X (by omega) rfl rfl (eD DL2 19 rfl) (eD DL2 20 rfl) (eD DL2 21 rfl) (eD DL2 22 rfl) (eD DL2 23 rfl) ?_
  refine l_arg 2 X (by omega) rfl rfl (eD DL2 24 rfl) (eD DL2 25 rfl) (eD DL2 26 rfl) (eD DL2 27 rfl) (eD DL2 28 rfl) ?_
  refine l_call (ci := 7) [(0, (xs (i + 1)).toInt), (0, (xs (i + 2)).toInt)] X (eD DL2 29 rfl) ⟨eMem 3 120 rfl rfl, sX7_mark⟩ (by decide) (by decide) ⟨rfl, by decide, _, rfl, rfl⟩ rfl rfl (Nat.le_of_ble_eq_true rfl) hr2 c1 ?_
  refine l_aload X (eD DL2 30 rfl) rfl rfl ?_
  refine l_arg 1 X (by omega) rfl rfl (eD DL2 31 rfl) (eD DL2 32 rfl) (eD DL2 33 rfl) (eD DL2 34 rfl) (eD DL2 35 rfl) ?_
  refine l_arg 2 X (by omega) rfl rfl (eD DL2 36 rfl) (eD DL2 37 rfl) (eD DL2 38 rfl) (eD DL2 39 rfl) (eD DL2 40 rfl) ?_
  refine l_call (ci := 8) (rest := [(0, x)]) [(0, (xs (i + 1)).toInt), (0, (xs (i + 2)).toInt)] X (eD DL2 41 rfl) ⟨eMem 6 161 rfl rfl, sX8_mark⟩ (by decide) (by decide) ⟨rfl, by decide, _, rfl, rfl⟩ rfl rfl (Nat.le_of_ble_eq_true rfl) hr2 c2 ?_
  exact l_same X (eD DL2 42 rfl) (by decide) (g w2 hI2)
theorem c_height {E : eE} {cL : ClassId} {sa : Nat} {l : Launch} {p : Program} {e : Env} {s : State} {m : MethodId} {below : List Frame} {meth : Method} {c : Code} {L : Nat} {xs : Nat → Int32} {w : eW} {f : Nat → Int64} {k n i : Nat} (X : lX E cL sa l p s m meth c L xs) (hi : i + 6 ≤ L) (hr : k + 1 ≤ 1087 ∧ n + 6 ≤ 23248) (hI : IV w) (g : ∀ w2, IV w2 → LGo E cL l p e s m below meth c 1374 (lB i) [] w2 f k n) : LGo E cL l p e s m below meth c 530 (lB i) [] w f k n := by
  have hr2 : k ≤ 1087 ∧ n ≤ 23248 := by omega
  obtain ⟨x, w1, w2, c1, c2, hI2⟩ := s_height ((xs (i + 1)).toInt) ((xs (i + 2)).toInt) ((xs (i + 3)).toInt) (x_eI _) (x_eI _) (x_eI _) w hI
  refine l_aload X (eD DL2 45 rfl) rfl rfl ?_
  refine l_arg 1 X (by omega) rfl rfl (eD DL2 46 rfl) (eD DL2 47 rfl) (eD DL2 48 rfl) (eD DL2 49 rfl) (eD DL2 50 rfl) ?_
  refine l_arg 2 X (by omega) rfl rfl (eD DL2 51 rfl) (eD DL2 52 rfl) (eD DL2 53 rfl) (eD DL2 54 rfl) (eD DL2 55 rfl) ?_
  refine l_arg 3 X (by omega) rfl rfl (eD DL2 56 rfl) (eD DL2 57 rfl) (eD DL2 58 rfl) (eD DL2 59 rfl) (eD DL2 60 rfl) ?_
  refine l_call (ci := 7) [(0, (xs (i + 1)).toInt), (0, (xs (i + 2)).toInt), (0, (xs (i + 3)).toInt)] X (eD DL2 61 rfl) ⟨eMem 3 135 rfl rfl, sX7_height⟩ (by decide) (by decide) ⟨rfl, by decide, _, rfl, rfl⟩ rfl rfl (Nat.le_of_ble_eq_true rfl) hr2 c1 ?_
  refine l_aload X (eD DL2 62 rfl) rfl rfl ?_
  refine l_arg 1 X (by omega) rfl rfl (eD DL2 63 rfl) (eD DL2 64 rfl) (eD DL2 65 rfl) (eD DL2 66 rfl) (eD DL2 67 rfl) ?_
  refine l_arg 2 X (by omega) rfl rfl (eD DL2 68 rfl) (eD DL2 69 rfl) (eD DL2 70 rfl) (eD DL2 71 rfl) (eD DL2 72 rfl) ?_
  refine l_arg 3 X (by omega) rfl rfl (eD DL2 73 rfl) (eD DL2 74 rfl) (eD DL2 75 rfl) (eD DL2 76 rfl) (eD DL2 77 rfl) ?_
  refine l_call (ci := 8) (rest := [(0, x)]) [(0, (xs (i + 1)).toInt), (0, (xs (i + 2)).toInt), (0, (xs (i + 3)).toInt)] X (eD DL2 78 rfl) ⟨eMem 6 165 rfl rfl, sX8_height⟩ (by decide) (by decide) ⟨rfl, by decide, _, rfl, rfl⟩ rfl rfl (Nat.le_of_ble_eq_true rfl) hr2 c2 ?_
  exact l_same X (eD DL2 79 rfl) (by decide) (g w2 hI2)
theorem c_slopes {E : eE} {cL : ClassId} {sa : Nat} {l : Launch} {p : Program} {e : Env} {s : State} {m : MethodId} {below : List Frame} {meth : Method} {c : Code} {L : Nat} {xs : Nat → Int32} {w : eW} {f : Nat → Int64} {k n i : Nat} (X : lX E cL sa l p s m meth c L xs) (hi : i + 6 ≤ L) (hr : k + 1 ≤ 1087 ∧ n + 6 ≤ 23248) (hI : IV w) (g : ∀ w2, IV w2 → LGo E cL l p e s m below meth c 1374 (lB i) [] w2 f k n) : LGo E cL l p e s m below meth c 579 (lB i) [] w f k n := by
  have hr2 : k ≤ 1087 ∧ n ≤ 23248 := by omega
  obtain ⟨x, w1, w2, c1, c2, hI2⟩ := s_slopes ((xs (i + 1)).toInt) ((xs (i + 2)).toInt) (x_eI _) (x_eI _) w hI
  refine l_aload X (eD DL2 82 rfl) rfl rfl ?_
  refine l_arg 1 X (by omega) rfl rfl (eD DL2 83 rfl) (eD DL2 84 rfl) (eD DL2 85 rfl) (eD DL2 86 rfl) (eD DL2 87 rfl) ?_
  refine l_arg 2 X (by omega) rfl rfl (eD DL2 88 rfl) (eD DL2 89 rfl) (eD DL2 90 rfl) (eD DL2 91 rfl) (eD DL2 92 rfl) ?_
  refine l_call (ci := 7) [(0, (xs (i + 1)).toInt), (0, (xs (i + 2)).toInt)] X (eD DL2 93 rfl) ⟨eMem 3 194 rfl rfl, sX7_slopes⟩ (by decide) (by decide) ⟨rfl, by decide, _, rfl, rfl⟩ rfl rfl (Nat.le_of_ble_eq_true rfl) hr2 c1 ?_
  refine l_aload X (eD DL2 94 rfl) rfl rfl ?_
  refine l_arg 1 X (by omega) rfl rfl (eD DL2 95 rfl) (eD DL2 96 rfl) (eD DL2 97 rfl) (eD DL2 98 rfl) (eD DL2 99 rfl) ?_
  refine l_arg 2 X (by omega) rfl rfl (eD DL2 100 rfl) (eD DL2 101 rfl) (eD DL2 102 rfl) (eD DL2 103 rfl) (eD DL2 104 rfl) ?_
  refine l_call (ci := 8) (rest := [(0, x)]) [(0, (xs (i + 1)).toInt), (0, (xs (i + 2)).toInt)] X (eD DL2 105 rfl) ⟨eMem 6 189 rfl rfl, sX8_slopes⟩ (by decide) (by decide) ⟨rfl, by decide, _, rfl, rfl⟩ rfl rfl (Nat.le_of_ble_eq_true rfl) hr2 c2 ?_
  exact l_same X (eD DL2 106 rfl) (by decide) (g w2 hI2)
theorem c_drop {E : eE} {cL : ClassId} {sa : Nat} {l : Launch} {p : Program} {e : Env} {s : State} {m : MethodId} {below : List Frame} {meth : Method} {c : Code} {L : Nat} {xs : Nat → Int32} {w : eW} {f : Nat → Int64} {k n i : Nat} (X : lX E cL sa l p s m meth c L xs) (hi : i + 6 ≤ L) (hr : k + 1 ≤ 1087 ∧ n + 6 ≤ 23248) (hI : IV w) (g : ∀ w2, IV w2 → LGo E cL l p e s m below meth c 1374 (lB i) [] w2 f k n) : LGo E cL l p e s m below meth c 616 (lB i) [] w f k n := by
  have hr2 : k ≤ 1087 ∧ n ≤ 23248 := by omega
  obtain ⟨x, w1, w2, c1, c2, hI2⟩ := s_drop ((xs (i + 1)).toInt) ((xs (i + 2)).toInt) (x_eI _) (x_eI _) w hI
  refine l_aload X (eD DL2 109 rfl) rfl rfl ?_
  refine l_arg 1 X (by omega) rfl rfl (eD DL3 0 rfl) (eD DL3 1 rfl) (eD DL3 2 rfl) (eD DL3 3 rfl) (eD DL3 4 rfl) ?_
  refine l_arg 2 X (by omega) rfl rfl (eD DL3 5 rfl) (eD DL3 6 rfl) (eD DL3 7 rfl) (eD DL3 8 rfl) (eD DL3 9 rfl) ?_
  refine l_call (ci := 7) [(0, (xs (i + 1)).toInt), (0, (xs (i + 2)).toInt)] X (eD DL3 10 rfl) ⟨eMem 3 214 rfl rfl, sX7_drop⟩ (by decide) (by decide) ⟨rfl, by decide, _, rfl, rfl⟩ rfl rfl (Nat.le_of_ble_eq_true rfl) hr2 c1 ?_
  refine l_aload X (eD DL3 11 rfl) rfl rfl ?_
  refine l_arg 1 X (by omega) rfl rfl (eD DL3 12 rfl) (eD DL3 13 rfl) (eD DL3 14 rfl) (eD DL3 15 rfl) (eD DL3 16 rfl) ?_
  refine l_arg 2 X (by omega) rfl rfl (eD DL3 17 rfl) (eD DL3 18 rfl) (eD DL3 19 rfl) (eD DL3 20 rfl) (eD DL3 21 rfl) ?_
  refine l_call (ci := 8) (rest := [(0, x)]) [(0, (xs (i + 1)).toInt), (0, (xs (i + 2)).toInt)] X (eD DL3 22 rfl) ⟨eMem 6 197 rfl rfl, sX8_drop⟩ (by decide) (by decide) ⟨rfl, by decide, _, rfl, rfl⟩ rfl rfl (Nat.le_of_ble_eq_true rfl) hr2 c2 ?_
  exact l_same X (eD DL3 23 rfl) (by decide) (g w2 hI2)
theorem c_catches {E : eE} {cL : ClassId} {sa : Nat} {l : Launch} {p : Program} {e : Env} {s : State} {m : MethodId} {below : List Frame} {meth : Method} {c : Code} {L : Nat} {xs : Nat → Int32} {w : eW} {f : Nat → Int64} {k n i : Nat} (X : lX E cL sa l p s m meth c L xs) (hi : i + 6 ≤ L) (hr : k + 1 ≤ 1087 ∧ n + 6 ≤ 23248) (hI : IV w) (g : ∀ w2, IV w2 → LGo E cL l p e s m below meth c 1374 (lB i) [] w2 f k n) : LGo E cL l p e s m below meth c 653 (lB i) [] w f k n := by
  have hr2 : k ≤ 1087 ∧ n ≤ 23248 := by omega
  obtain ⟨x, w1, w2, c1, c2, hI2⟩ := s_catches ((xs (i + 1)).toInt) (x_eI _) w hI
  refine l_aload X (eD DL3 26 rfl) rfl rfl ?_
  refine l_arg 1 X (by omega) rfl rfl (eD DL3 27 rfl) (eD DL3 28 rfl) (eD DL3 29 rfl) (eD DL3 30 rfl) (eD DL3 31 rfl) ?_
  refine l_call (ci := 7) [(0, (xs (i + 1)).toInt)] X (eD DL3 32 rfl) ⟨eMem 3 231 rfl rfl, sX7_catches⟩ (by decide) (by decide) ⟨rfl, by decide, _, rfl, rfl⟩ rfl rfl (Nat.le_of_ble_eq_true rfl) hr2 c1 ?_
  refine l_aload X (eD DL3 33 rfl) rfl rfl ?_
  refine l_arg 1 X (by omega) rfl rfl (eD DL3 34 rfl) (eD DL3 35 rfl) (eD DL3 36 rfl) (eD DL3 37 rfl) (eD DL3 38 rfl) ?_
  refine l_call (ci := 8) (rest := [(0, x)]) [(0, (xs (i + 1)).toInt)] X (eD DL3 39 rfl) ⟨eMem 6 225 rfl rfl, sX8_catches⟩ (by decide) (by decide) ⟨rfl, by decide, _, rfl, rfl⟩ rfl rfl (Nat.le_of_ble_eq_true rfl) hr2 c2 ?_
  exact l_same X (eD DL3 40 rfl) (by decide) (g w2 hI2)
theorem c_faces {E : eE} {cL : ClassId} {sa : Nat} {l : Launch} {p : Program} {e : Env} {s : State} {m : MethodId} {below : List Frame} {meth : Method} {c : Code} {L : Nat} {xs : Nat → Int32} {w : eW} {f : Nat → Int64} {k n i : Nat} (X : lX E cL sa l p s m meth c L xs) (hi : i + 6 ≤ L) (hr : k + 1 ≤ 1087 ∧ n + 6 ≤ 23248) (hI : IV w) (g : ∀ w2, IV w2 → LGo E cL l p e s m below meth c 1374 (lB i) [] w2 f k n) : LGo E cL l p e s m below meth c 678 (lB i) [] w f k n := by
  have hr2 : k ≤ 1087 ∧ n ≤ 23248 := by omega
  obtain ⟨x, w1, w2, c1, c2, hI2⟩ := s_faces ((xs (i + 1)).toInt) (x_eI _) w hI
  refine l_aload X (eD DL3 43 rfl) rfl rfl ?_
  refine l_arg 1 X (by omega) rfl rfl (eD DL3 44 rfl) (eD DL3 45 rfl) (eD DL3 46 rfl) (eD DL3 47 rfl) (eD DL3 48 rfl) ?_
  refine l_call (ci := 7) [(0, (xs (i + 1)).toInt)] X (eD DL3 49 rfl) ⟨eMem 4 19 rfl rfl, sX7_faces⟩ (by decide) (by decide) ⟨rfl, by decide, _, rfl, rfl⟩ rfl rfl (Nat.le_of_ble_eq_true rfl) hr2 c1 ?_
  refine l_aload X (eD DL3 50 rfl) rfl rfl ?_
  refine l_arg 1 X (by omega) rfl rfl (eD DL3 51 rfl) (eD DL3 52 rfl) (eD DL3 53 rfl) (eD DL3 54 rfl) (eD DL3 55 rfl) ?_
  refine l_call (ci := 8) (rest := [(0, x)]) [(0, (xs (i + 1)).toInt)] X (eD DL3 56 rfl) ⟨eMem 6 217 rfl rfl, sX8_faces⟩ (by decide) (by decide) ⟨rfl, by decide, _, rfl, rfl⟩ rfl rfl (Nat.le_of_ble_eq_true rfl) hr2 c2 ?_
  exact l_same X (eD DL3 57 rfl) (by decide) (g w2 hI2)
theorem c_rim {E : eE} {cL : ClassId} {sa : Nat} {l : Launch} {p : Program} {e : Env} {s : State} {m : MethodId} {below : List Frame} {meth : Method} {c : Code} {L : Nat} {xs : Nat → Int32} {w : eW} {f : Nat → Int64} {k n i : Nat} (X : lX E cL sa l p s m meth c L xs) (hi : i + 6 ≤ L) (hr : k + 1 ≤ 1087 ∧ n + 6 ≤ 23248) (hI : IV w) (g : ∀ w2, IV w2 → LGo E cL l p e s m below meth c 1374 (lB i) [] w2 f k n) : LGo E cL l p e s m below meth c 703 (lB i) [] w f k n := by
  have hr2 : k ≤ 1087 ∧ n ≤ 23248 := by omega
  obtain ⟨x, w1, w2, c1, c2, hI2⟩ := s_rim ((xs (i + 1)).toInt) (x_eI _) w hI
  refine l_aload X (eD DL3 60 rfl) rfl rfl ?_
  refine l_arg 1 X (by omega) rfl rfl (eD DL3 61 rfl) (eD DL3 62 rfl) (eD DL3 63 rfl) (eD DL3 64 rfl) (eD DL3 65 rfl) ?_
  refine l_call (ci := 7) [(0, (xs (i + 1)).toInt)] X (eD DL3 66 rfl) ⟨eMem 4 27 rfl rfl, sX7_rim⟩ (by decide) (by decide) ⟨rfl, by decide, _, rfl, rfl⟩ rfl rfl (Nat.le_of_ble_eq_true rfl) hr2 c1 ?_
  refine l_aload X (eD DL3 67 rfl) rfl rfl ?_
  refine l_arg 1 X (by omega) rfl rfl (eD DL3 68 rfl) (eD DL3 69 rfl) (eD DL3 70 rfl) (eD DL3 71 rfl) (eD DL3 72 rfl) ?_
  refine l_call (ci := 8) (rest := [(0, x)]) [(0, (xs (i + 1)).toInt)] X (eD DL3 73 rfl) ⟨eMem 6 221 rfl rfl, sX8_rim⟩ (by decide) (by decide) ⟨rfl, by decide, _, rfl, rfl⟩ rfl rfl (Nat.le_of_ble_eq_true rfl) hr2 c2 ?_
  exact l_same X (eD DL3 74 rfl) (by decide) (g w2 hI2)
theorem c_highest {E : eE} {cL : ClassId} {sa : Nat} {l : Launch} {p : Program} {e : Env} {s : State} {m : MethodId} {below : List Frame} {meth : Method} {c : Code} {L : Nat} {xs : Nat → Int32} {w : eW} {f : Nat → Int64} {k n i : Nat} (X : lX E cL sa l p s m meth c L xs) (hi : i + 6 ≤ L) (hr : k + 1 ≤ 1087 ∧ n + 6 ≤ 23248) (hI : IV w) (g : ∀ w2, IV w2 → LGo E cL l p e s m below meth c 1374 (lB i) [] w2 f k n) : LGo E cL l p e s m below meth c 728 (lB i) [] w f k n := by
  have hr2 : k ≤ 1087 ∧ n ≤ 23248 := by omega
  obtain ⟨x, w1, w2, c1, c2, hI2⟩ := s_highest ((xs (i + 1)).toInt) (x_eI _) w hI
  refine l_aload X (eD DL3 77 rfl) rfl rfl ?_
  refine l_arg 1 X (by omega) rfl rfl (eD DL3 78 rfl) (eD DL3 79 rfl) (eD DL3 80 rfl) (eD DL3 81 rfl) (eD DL3 82 rfl) ?_
  refine l_call (ci := 7) [(0, (xs (i + 1)).toInt)] X (eD DL3 83 rfl) ⟨eMem 4 36 rfl rfl, sX7_highest⟩ (by decide) (by decide) ⟨rfl, by decide, _, rfl, rfl⟩ rfl rfl (Nat.le_of_ble_eq_true rfl) hr2 c1 ?_
  refine l_aload X (eD DL3 84 rfl) rfl rfl ?_
  refine l_arg 1 X (by omega) rfl rfl (eD DL3 85 rfl) (eD DL3 86 rfl) (eD DL3 87 rfl) (eD DL3 88 rfl) (eD DL3 89 rfl) ?_
  refine l_call (ci := 8) (rest := [(0, x)]) [(0, (xs (i + 1)).toInt)] X (eD DL3 90 rfl) ⟨eMem 6 229 rfl rfl, sX8_highest⟩ (by decide) (by decide) ⟨rfl, by decide, _, rfl, rfl⟩ rfl rfl (Nat.le_of_ble_eq_true rfl) hr2 c2 ?_
  exact l_same X (eD DL3 91 rfl) (by decide) (g w2 hI2)
theorem c_ranked {E : eE} {cL : ClassId} {sa : Nat} {l : Launch} {p : Program} {e : Env} {s : State} {m : MethodId} {below : List Frame} {meth : Method} {c : Code} {L : Nat} {xs : Nat → Int32} {w : eW} {f : Nat → Int64} {k n i : Nat} (X : lX E cL sa l p s m meth c L xs) (hi : i + 6 ≤ L) (hr : k + 1 ≤ 1087 ∧ n + 6 ≤ 23248) (hI : IV w) (g : ∀ w2, IV w2 → LGo E cL l p e s m below meth c 1374 (lB i) [] w2 f k n) : LGo E cL l p e s m below meth c 753 (lB i) [] w f k n := by
  have hr2 : k ≤ 1087 ∧ n ≤ 23248 := by omega
  obtain ⟨x, w1, w2, c1, c2, hI2⟩ := s_ranked ((xs (i + 1)).toInt) (x_eI _) w hI
  refine l_aload X (eD DL3 94 rfl) rfl rfl ?_
  refine l_arg 1 X (by omega) rfl rfl (eD DL3 95 rfl) (eD DL3 96 rfl) (eD DL3 97 rfl) (eD DL3 98 rfl) (eD DL3 99 rfl) ?_
  refine l_call (ci := 7) [(0, (xs (i + 1)).toInt)] X (eD DL3 100 rfl) ⟨eMem 4 44 rfl rfl, sX7_ranked⟩ (by decide) (by decide) ⟨rfl, by decide, _, rfl, rfl⟩ rfl rfl (Nat.le_of_ble_eq_true rfl) hr2 c1 ?_
  refine l_aload X (eD DL3 101 rfl) rfl rfl ?_
  refine l_arg 1 X (by omega) rfl rfl (eD DL3 102 rfl) (eD DL3 103 rfl) (eD DL3 104 rfl) (eD DL3 105 rfl) (eD DL3 106 rfl) ?_
  refine l_call (ci := 8) (rest := [(0, x)]) [(0, (xs (i + 1)).toInt)] X (eD DL3 107 rfl) ⟨eMem 6 233 rfl rfl, sX8_ranked⟩ (by decide) (by decide) ⟨rfl, by decide, _, rfl, rfl⟩ rfl rfl (Nat.le_of_ble_eq_true rfl) hr2 c2 ?_
  exact l_same X (eD DL3 108 rfl) (by decide) (g w2 hI2)
theorem c_points {E : eE} {cL : ClassId} {sa : Nat} {l : Launch} {p : Program} {e : Env} {s : State} {m : MethodId} {below : List Frame} {meth : Method} {c : Code} {L : Nat} {xs : Nat → Int32} {w : eW} {f : Nat → Int64} {k n i : Nat} (X : lX E cL sa l p s m meth c L xs) (hi : i + 6 ≤ L) (hr : k + 1 ≤ 1087 ∧ n + 6 ≤ 23248) (hI : IV w) (g : ∀ w2, IV w2 → LGo E cL l p e s m below meth c 1374 (lB i) [] w2 f k n) : LGo E cL l p e s m below meth c 778 (lB i) [] w f k n := by
  have hr2 : k ≤ 1087 ∧ n ≤ 23248 := by omega
  obtain ⟨x, w1, w2, c1, c2, hI2⟩ := s_points ((xs (i + 1)).toInt) ((xs (i + 2)).toInt) (x_eI _) (x_eI _) w hI
  refine l_aload X (eD DL4 1 rfl) rfl rfl ?_
  refine l_arg 1 X (by omega) rfl rfl (eD DL4 2 rfl) (eD DL4 3 rfl) (eD DL4 4 rfl) (eD DL4 5 rfl) (eD DL4 6 rfl) ?_
  refine l_arg 2 X (by omega) rfl rfl (eD DL4 7 rfl) (eD DL4 8 rfl) (eD DL4 9 rfl) (eD DL4 10 rfl) (eD DL4 11 rfl) ?_
  refine l_call (ci := 7) [(0, (xs (i + 1)).toInt), (0, (xs (i + 2)).toInt)] X (eD DL4 12 rfl) ⟨eMem 4 56 rfl rfl, sX7_points⟩ (by decide) (by decide) ⟨rfl, by decide, _, rfl, rfl⟩ rfl rfl (Nat.le_of_ble_eq_true rfl) hr2 c1 ?_
  refine l_aload X (eD DL4 13 rfl) rfl rfl ?_
  refine l_arg 1 X (by omega) rfl rfl (eD DL4 14 rfl) (eD DL4 15 rfl) (eD DL4 16 rfl) (eD DL4 17 rfl) (eD DL4 18 rfl) ?_
  refine l_arg 2 X (by omega) rfl rfl (eD DL4 19 rfl) (eD DL4 20 rfl) (eD DL4 21 rfl) (eD DL4 22 rfl) (eD DL4 23 rfl) ?_
  refine l_call (ci := 8) (rest := [(0, x)]) [(0, (xs (i + 1)).toInt), (0, (xs (i + 2)).toInt)] X (eD DL4 24 rfl) ⟨eMem 6 237 rfl rfl, sX8_points⟩ (by decide) (by decide) ⟨rfl, by decide, _, rfl, rfl⟩ rfl rfl (Nat.le_of_ble_eq_true rfl) hr2 c2 ?_
  exact l_same X (eD DL4 25 rfl) (by decide) (g w2 hI2)
theorem c_pieces {E : eE} {cL : ClassId} {sa : Nat} {l : Launch} {p : Program} {e : Env} {s : State} {m : MethodId} {below : List Frame} {meth : Method} {c : Code} {L : Nat} {xs : Nat → Int32} {w : eW} {f : Nat → Int64} {k n i : Nat} (X : lX E cL sa l p s m meth c L xs) (hi : i + 6 ≤ L) (hr : k + 1 ≤ 1087 ∧ n + 6 ≤ 23248) (hI : IV w) (g : ∀ w2, IV w2 → LGo E cL l p e s m below meth c 1374 (lB i) [] w2 f k n) : LGo E cL l p e s m below meth c 815 (lB i) [] w f k n := by
  have hr2 : k ≤ 1087 ∧ n ≤ 23248 := by omega
  obtain ⟨x, w1, w2, c1, c2, hI2⟩ := s_pieces ((xs (i + 1)).toInt) ((xs (i + 2)).toInt) (x_eI _) (x_eI _) w hI
  refine l_aload X (eD DL4 28 rfl) rfl rfl ?_
  refine l_arg 1 X (by omega) rfl rfl (eD DL4 29 rfl) (eD DL4 30 rfl) (eD DL4 31 rfl) (eD DL4 32 rfl) (eD DL4 33 rfl) ?_
  refine l_arg 2 X (by omega) rfl rfl (eD DL4 34 rfl) (eD DL4 35 rfl) (eD DL4 36 rfl) (eD DL4 37 rfl) (eD DL4 38 rfl) ?_
  refine l_call (ci := 7) [(0, (xs (i + 1)).toInt), (0, (xs (i + 2)).toInt)] X (eD DL4 39 rfl) ⟨eMem 4 69 rfl rfl, sX7_pieces⟩ (by decide) (by decide) ⟨rfl, by decide, _, rfl, rfl⟩ rfl rfl (Nat.le_of_ble_eq_true rfl) hr2 c1 ?_
  refine l_aload X (eD DL4 40 rfl) rfl rfl ?_
  refine l_arg 1 X (by omega) rfl rfl (eD DL4 41 rfl) (eD DL4 42 rfl) (eD DL4 43 rfl) (eD DL4 44 rfl) (eD DL4 45 rfl) ?_
  refine l_arg 2 X (by omega) rfl rfl (eD DL4 46 rfl) (eD DL4 47 rfl) (eD DL4 48 rfl) (eD DL4 49 rfl) (eD DL4 50 rfl) ?_
  refine l_call (ci := 8) (rest := [(0, x)]) [(0, (xs (i + 1)).toInt), (0, (xs (i + 2)).toInt)] X (eD DL4 51 rfl) ⟨eMem 7 4 rfl rfl, sX8_pieces⟩ (by decide) (by decide) ⟨rfl, by decide, _, rfl, rfl⟩ rfl rfl (Nat.le_of_ble_eq_true rfl) hr2 c2 ?_
  exact l_same X (eD DL4 52 rfl) (by decide) (g w2 hI2)
theorem c_area {E : eE} {cL : ClassId} {sa : Nat} {l : Launch} {p : Program} {e : Env} {s : State} {m : MethodId} {below : List Frame} {meth : Method} {c : Code} {L : Nat} {xs : Nat → Int32} {w : eW} {f : Nat → Int64} {k n i : Nat} (X : lX E cL sa l p s m meth c L xs) (hi : i + 6 ≤ L) (hr : k + 1 ≤ 1087 ∧ n + 6 ≤ 23248) (hI : IV w) (g : ∀ w2, IV w2 → LGo E cL l p e s m below meth c 1374 (lB i) [] w2 f k n) : LGo E cL l p e s m below meth c 852 (lB i) [] w f k n := by
  have hr2 : k ≤ 1087 ∧ n ≤ 23248 := by omega
  obtain ⟨x, w1, w2, c1, c2, hI2⟩ := s_area ((xs (i + 1)).toInt) ((xs (i + 2)).toInt) ((xs (i + 3)).toInt) (x_eI _) (x_eI _) (x_eI _) w hI
  refine l_aload X (eD DL4 55 rfl) rfl rfl ?_
  refine l_arg 1 X (by omega) rfl rfl (eD DL4 56 rfl) (eD DL4 57 rfl) (eD DL4 58 rfl) (eD DL4 59 rfl) (eD DL4 60 rfl) ?_
  refine l_arg 2 X (by omega) rfl rfl (eD DL4 61 rfl) (eD DL4 62 rfl) (eD DL4 63 rfl) (eD DL4 64 rfl) (eD DL4 65 rfl) ?_
  refine l_arg 3 X (by omega) rfl rfl (eD DL4 66 rfl) (eD DL4 67 rfl) (eD DL4 68 rfl) (eD DL4 69 rfl) (eD DL4 70 rfl) ?_
  refine l_call (ci := 7) [(0, (xs (i + 1)).toInt), (0, (xs (i + 2)).toInt), (0, (xs (i + 3)).toInt)] X (eD DL4 71 rfl) ⟨eMem 4 73 rfl rfl, sX7_area⟩ (by decide) (by decide) ⟨rfl, by decide, _, rfl, rfl⟩ rfl rfl (Nat.le_of_ble_eq_true rfl) hr2 c1 ?_
  refine l_aload X (eD DL4 72 rfl) rfl rfl ?_
  refine l_arg 1 X (by omega) rfl rfl (eD DL4 73 rfl) (eD DL4 74 rfl) (eD DL4 75 rfl) (eD DL4 76 rfl) (eD DL4 77 rfl) ?_
  refine l_arg 2 X (by omega) rfl rfl (eD DL4 78 rfl) (eD DL4 79 rfl) (eD DL4 80 rfl) (eD DL4 81 rfl) (eD DL4 82 rfl) ?_
  refine l_arg 3 X (by omega) rfl rfl (eD DL4 83 rfl) (eD DL4 84 rfl) (eD DL4 85 rfl) (eD DL4 86 rfl) (eD DL4 87 rfl) ?_
  refine l_call (ci := 8) (rest := [(1, x)]) [(0, (xs (i + 1)).toInt), (0, (xs (i + 2)).toInt), (0, (xs (i + 3)).toInt)] X (eD DL4 88 rfl) ⟨eMem 7 8 rfl rfl, sX8_area⟩ (by decide) (by decide) ⟨rfl, by decide, _, rfl, rfl⟩ rfl rfl (Nat.le_of_ble_eq_true rfl) hr2 c2 ?_
  exact l_sameL X (eD DL4 89 rfl) (eD DL4 90 rfl) (by decide) (g w2 hI2)
theorem c_piece {E : eE} {cL : ClassId} {sa : Nat} {l : Launch} {p : Program} {e : Env} {s : State} {m : MethodId} {below : List Frame} {meth : Method} {c : Code} {L : Nat} {xs : Nat → Int32} {w : eW} {f : Nat → Int64} {k n i : Nat} (X : lX E cL sa l p s m meth c L xs) (hi : i + 6 ≤ L) (hr : k + 1 ≤ 1087 ∧ n + 6 ≤ 23248) (hI : IV w) (g : ∀ w2, IV w2 → LGo E cL l p e s m below meth c 1374 (lB i) [] w2 f k n) : LGo E cL l p e s m below meth c 902 (lB i) [] w f k n := by
  have hr2 : k ≤ 1087 ∧ n ≤ 23248 := by omega
  obtain ⟨x, w1, w2, c1, c2, hI2⟩ := s_piece ((xs (i + 1)).toInt) ((xs (i + 2)).toInt) ((xs (i + 3)).toInt) ((xs (i + 4)).toInt) (x_eI _) (x_eI _) (x_eI _) (x_eI _) w hI
  refine l_aload X (eD DL4 93 rfl) rfl rfl ?_
  refine l_arg 1 X (by omega) rfl rfl (eD DL4 94 rfl) (eD DL4 95 rfl) (eD DL4 96 rfl) (eD DL4 97 rfl) (eD DL4 98 rfl) ?_
  refine l_arg 2 X (by omega) rfl rfl (eD DL4 99 rfl) (eD DL4 100 rfl) (eD DL4 101 rfl) (eD DL4 102 rfl) (eD DL4 103 rfl) ?_
  refine l_arg 3 X (by omega) rfl rfl (eD DL4 104 rfl) (eD DL4 105 rfl) (eD DL4 106 rfl) (eD DL4 107 rfl) (eD DL4 108 rfl) ?_
  refine l_arg 4 X (by omega) rfl rfl (eD DL4 109 rfl) (eD DL5 0 rfl) (eD DL5 1 rfl) (eD DL5 2 rfl) (eD DL5 3 rfl) ?_
  refine l_call (ci := 7) [(0, (xs (i + 1)).toInt), (0, (xs (i + 2)).toInt), (0, (xs (i + 3)).toInt), (0, (xs (i + 4)).toInt)] X (eD DL5 4 rfl) ⟨eMem 4 90 rfl rfl, sX7_piece⟩ (by decide) (by decide) ⟨rfl, by decide, _, rfl, rfl⟩ rfl rfl (Nat.le_of_ble_eq_true rfl) hr2 c1 ?_
  refine l_aload X (eD DL5 5 rfl) rfl rfl ?_
  refine l_arg 1 X (by omega) rfl rfl (eD DL5 6 rfl) (eD DL5 7 rfl) (eD DL5 8 rfl) (eD DL5 9 rfl) (eD DL5 10 rfl) ?_
  refine l_arg 2 X (by omega) rfl rfl (eD DL5 11 rfl) (eD DL5 12 rfl) (eD DL5 13 rfl) (eD DL5 14 rfl) (eD DL5 15 rfl) ?_
  refine l_arg 3 X (by omega) rfl rfl (eD DL5 16 rfl) (eD DL5 17 rfl) (eD DL5 18 rfl) (eD DL5 19 rfl) (eD DL5 20 rfl) ?_
  refine l_arg 4 X (by omega) rfl rfl (eD DL5 21 rfl) (eD DL5 22 rfl) (eD DL5 23 rfl) (eD DL5 24 rfl) (eD DL5 25 rfl) ?_
  refine l_call (ci := 8) (rest := [(1, x)]) [(0, (xs (i + 1)).toInt), (0, (xs (i + 2)).toInt), (0, (xs (i + 3)).toInt), (0, (xs (i + 4)).toInt)] X (eD DL5 26 rfl) ⟨eMem 7 16 rfl rfl, sX8_piece⟩ (by decide) (by decide) ⟨rfl, by decide, _, rfl, rfl⟩ rfl rfl (Nat.le_of_ble_eq_true rfl) hr2 c2 ?_
  exact l_sameL X (eD DL5 27 rfl) (eD DL5 28 rfl) (by decide) (g w2 hI2)
theorem c_event {E : eE} {cL : ClassId} {sa : Nat} {l : Launch} {p : Program} {e : Env} {s : State} {m : MethodId} {below : List Frame} {meth : Method} {c : Code} {L : Nat} {xs : Nat → Int32} {w : eW} {f : Nat → Int64} {k n i : Nat} (X : lX E cL sa l p s m meth c L xs) (hi : i + 6 ≤ L) (hr : k + 1 ≤ 1087 ∧ n + 6 ≤ 23248) (hI : IV w) (g : ∀ w2, IV w2 → LGo E cL l p e s m below meth c 1374 (lB i) [] w2 f k n) : LGo E cL l p e s m below meth c 964 (lB i) [] w f k n := by
  have hr2 : k ≤ 1087 ∧ n ≤ 23248 := by omega
  obtain ⟨x, w1, w2, c1, c2, hI2⟩ := s_event ((xs (i + 1)).toInt) ((xs (i + 2)).toInt) (x_eI _) (x_eI _) w hI
  refine l_aload X (eD DL5 31 rfl) rfl rfl ?_
  refine l_arg 1 X (by omega) rfl rfl (eD DL5 32 rfl) (eD DL5 33 rfl) (eD DL5 34 rfl) (eD DL5 35 rfl) (eD DL5 36 rfl) ?_
  refine l_arg 2 X (by omega) rfl rfl (eD DL5 37 rfl) (eD DL5 38 rfl) (eD DL5 39 rfl) (eD DL5 40 rfl) (eD DL5 41 rfl) ?_
  refine l_call (ci := 7) [(0, (xs (i + 1)).toInt), (0, (xs (i + 2)).toInt)] X (eD DL5 42 rfl) ⟨eMem 4 98 rfl rfl, sX7_event⟩ (by decide) (by decide) ⟨rfl, by decide, _, rfl, rfl⟩ rfl rfl (Nat.le_of_ble_eq_true rfl) hr2 c1 ?_
  refine l_aload X (eD DL5 43 rfl) rfl rfl ?_
  refine l_arg 1 X (by omega) rfl rfl (eD DL5 44 rfl) (eD DL5 45 rfl) (eD DL5 46 rfl) (eD DL5 47 rfl) (eD DL5 48 rfl) ?_
  refine l_arg 2 X (by omega) rfl rfl (eD DL5 49 rfl) (eD DL5 50 rfl) (eD DL5 51 rfl) (eD DL5 52 rfl) (eD DL5 53 rfl) ?_
  refine l_call (ci := 8) (rest := [(0, x)]) [(0, (xs (i + 1)).toInt), (0, (xs (i + 2)).toInt)] X (eD DL5 54 rfl) ⟨eMem 7 20 rfl rfl, sX8_event⟩ (by decide) (by decide) ⟨rfl, by decide, _, rfl, rfl⟩ rfl rfl (Nat.le_of_ble_eq_true rfl) hr2 c2 ?_
  exact l_same X (eD DL5 55 rfl) (by decide) (g w2 hI2)
theorem c_top {E : eE} {cL : ClassId} {sa : Nat} {l : Launch} {p : Program} {e : Env} {s : State} {m : MethodId} {below : List Frame} {meth : Method} {c : Code} {L : Nat} {xs : Nat → Int32} {w : eW} {f : Nat → Int64} {k n i : Nat} (X : lX E cL sa l p s m meth c L xs) (hi : i + 6 ≤ L) (hr : k + 1 ≤ 1087 ∧ n + 6 ≤ 23248) (hI : IV w) (g : ∀ w2, IV w2 → LGo E cL l p e s m below meth c 1374 (lB i) [] w2 f k n) : LGo E cL l p e s m below meth c 1001 (lB i) [] w f k n := by
  have hr2 : k ≤ 1087 ∧ n ≤ 23248 := by omega
  obtain ⟨x, w1, w2, c1, c2, hI2⟩ := s_top ((xs (i + 1)).toInt) (x_eI _) w hI
  refine l_aload X (eD DL5 58 rfl) rfl rfl ?_
  refine l_arg 1 X (by omega) rfl rfl (eD DL5 59 rfl) (eD DL5 60 rfl) (eD DL5 61 rfl) (eD DL5 62 rfl) (eD DL5 63 rfl) ?_
  refine l_call (ci := 7) [(0, (xs (i + 1)).toInt)] X (eD DL5 64 rfl) ⟨eMem 4 106 rfl rfl, sX7_top⟩ (by decide) (by decide) ⟨rfl, by decide, _, rfl, rfl⟩ rfl rfl (Nat.le_of_ble_eq_true rfl) hr2 c1 ?_
  refine l_aload X (eD DL5 65 rfl) rfl rfl ?_
  refine l_arg 1 X (by omega) rfl rfl (eD DL5 66 rfl) (eD DL5 67 rfl) (eD DL5 68 rfl) (eD DL5 69 rfl) (eD DL5 70 rfl) ?_
  refine l_call (ci := 8) (rest := [(0, x)]) [(0, (xs (i + 1)).toInt)] X (eD DL5 71 rfl) ⟨eMem 6 209 rfl rfl, sX8_top⟩ (by decide) (by decide) ⟨rfl, by decide, _, rfl, rfl⟩ rfl rfl (Nat.le_of_ble_eq_true rfl) hr2 c2 ?_
  exact l_same X (eD DL5 72 rfl) (by decide) (g w2 hI2)
theorem c_higher {E : eE} {cL : ClassId} {sa : Nat} {l : Launch} {p : Program} {e : Env} {s : State} {m : MethodId} {below : List Frame} {meth : Method} {c : Code} {L : Nat} {xs : Nat → Int32} {w : eW} {f : Nat → Int64} {k n i : Nat} (X : lX E cL sa l p s m meth c L xs) (hi : i + 6 ≤ L) (hr : k + 1 ≤ 1087 ∧ n + 6 ≤ 23248) (hI : IV w) (g : ∀ w2, IV w2 → LGo E cL l p e s m below meth c 1374 (lB i) [] w2 f k n) : LGo E cL l p e s m below meth c 1026 (lB i) [] w f k n := by
  have hr2 : k ≤ 1087 ∧ n ≤ 23248 := by omega
  obtain ⟨x, w1, w2, c1, c2, hI2⟩ := s_higher ((xs (i + 1)).toInt) ((xs (i + 2)).toInt) (x_eI _) (x_eI _) w hI
  refine l_aload X (eD DL5 75 rfl) rfl rfl ?_
  refine l_arg 1 X (by omega) rfl rfl (eD DL5 76 rfl) (eD DL5 77 rfl) (eD DL5 78 rfl) (eD DL5 79 rfl) (eD DL5 80 rfl) ?_
  refine l_arg 2 X (by omega) rfl rfl (eD DL5 81 rfl) (eD DL5 82 rfl) (eD DL5 83 rfl) (eD DL5 84 rfl) (eD DL5 85 rfl) ?_
  refine l_call (ci := 7) [(0, (xs (i + 1)).toInt), (0, (xs (i + 2)).toInt)] X (eD DL5 86 rfl) ⟨eMem 4 110 rfl rfl, sX7_higher⟩ (by decide) (by decide) ⟨rfl, by decide, _, rfl, rfl⟩ rfl rfl (Nat.le_of_ble_eq_true rfl) hr2 c1 ?_
  refine l_aload X (eD DL5 87 rfl) rfl rfl ?_
  refine l_arg 1 X (by omega) rfl rfl (eD DL5 88 rfl) (eD DL5 89 rfl) (eD DL5 90 rfl) (eD DL5 91 rfl) (eD DL5 92 rfl) ?_
  refine l_arg 2 X (by omega) rfl rfl (eD DL5 93 rfl) (eD DL5 94 rfl) (eD DL5 95 rfl) (eD DL5 96 rfl) (eD DL5 97 rfl) ?_
  refine l_call (ci := 8) (rest := [(0, x)]) [(0, (xs (i + 1)).toInt), (0, (xs (i + 2)).toInt)] X (eD DL5 98 rfl) ⟨eMem 6 213 rfl rfl, sX8_higher⟩ (by decide) (by decide) ⟨rfl, by decide, _, rfl, rfl⟩ rfl rfl (Nat.le_of_ble_eq_true rfl) hr2 c2 ?_
  exact l_same X (eD DL5 99 rfl) (by decide) (g w2 hI2)
theorem c_under {E : eE} {cL : ClassId} {sa : Nat} {l : Launch} {p : Program} {e : Env} {s : State} {m : MethodId} {below : List Frame} {meth : Method} {c : Code} {L : Nat} {xs : Nat → Int32} {w : eW} {f : Nat → Int64} {k n i : Nat} (X : lX E cL sa l p s m meth c L xs) (hi : i + 6 ≤ L) (hr : k + 1 ≤ 1087 ∧ n + 6 ≤ 23248) (hI : IV w) (g : ∀ w2, IV w2 → LGo E cL l p e s m below meth c 1374 (lB i) [] w2 f k n) : LGo E cL l p e s m below meth c 1063 (lB i) [] w f k n := by
  have hr2 : k ≤ 1087 ∧ n ≤ 23248 := by omega
  obtain ⟨x, w1, w2, c1, c2, hI2⟩ := s_under ((xs (i + 1)).toInt) (x_eI _) w hI
  refine l_aload X (eD DL5 102 rfl) rfl rfl ?_
  refine l_arg 1 X (by omega) rfl rfl (eD DL5 103 rfl) (eD DL5 104 rfl) (eD DL5 105 rfl) (eD DL5 106 rfl) (eD DL5 107 rfl) ?_
  refine l_call (ci := 7) [(0, (xs (i + 1)).toInt)] X (eD DL5 108 rfl) ⟨eMem 4 114 rfl rfl, sX7_under⟩ (by decide) (by decide) ⟨rfl, by decide, _, rfl, rfl⟩ rfl rfl (Nat.le_of_ble_eq_true rfl) hr2 c1 ?_
  refine l_aload X (eD DL5 109 rfl) rfl rfl ?_
  refine l_arg 1 X (by omega) rfl rfl (eD DL6 0 rfl) (eD DL6 1 rfl) (eD DL6 2 rfl) (eD DL6 3 rfl) (eD DL6 4 rfl) ?_
  refine l_call (ci := 8) (rest := [(1, x)]) [(0, (xs (i + 1)).toInt)] X (eD DL6 5 rfl) ⟨eMem 7 24 rfl rfl, sX8_under⟩ (by decide) (by decide) ⟨rfl, by decide, _, rfl, rfl⟩ rfl rfl (Nat.le_of_ble_eq_true rfl) hr2 c2 ?_
  exact l_sameL X (eD DL6 6 rfl) (eD DL6 7 rfl) (by decide) (g w2 hI2)
theorem c_would {E : eE} {cL : ClassId} {sa : Nat} {l : Launch} {p : Program} {e : Env} {s : State} {m : MethodId} {below : List Frame} {meth : Method} {c : Code} {L : Nat} {xs : Nat → Int32} {w : eW} {f : Nat → Int64} {k n i : Nat} (X : lX E cL sa l p s m meth c L xs) (hi : i + 6 ≤ L) (hr : k + 1 ≤ 1087 ∧ n + 6 ≤ 23248) (hI : IV w) (g : ∀ w2, IV w2 → LGo E cL l p e s m below meth c 1374 (lB i) [] w2 f k n) : LGo E cL l p e s m below meth c 1089 (lB i) [] w f k n := by
  have hr2 : k ≤ 1087 ∧ n ≤ 23248 := by omega
  obtain ⟨x, w1, w2, c1, c2, hI2⟩ := s_would ((xs (i + 1)).toInt) ((xs (i + 2)).toInt) ((xs (i + 3)).toInt) (x_eI _) (x_eI _) (x_eI _) w hI
  refine l_aload X (eD DL6 10 rfl) rfl rfl ?_
  refine l_arg 1 X (by omega) rfl rfl (eD DL6 11 rfl) (eD DL6 12 rfl) (eD DL6 13 rfl) (eD DL6 14 rfl) (eD DL6 15 rfl) ?_
  refine l_arg 2 X (by omega) rfl rfl (eD DL6 16 rfl) (eD DL6 17 rfl) (eD DL6 18 rfl) (eD DL6 19 rfl) (eD DL6 20 rfl) ?_
  refine l_arg 3 X (by omega) rfl rfl (eD DL6 21 rfl) (eD DL6 22 rfl) (eD DL6 23 rfl) (eD DL6 24 rfl) (eD DL6 25 rfl) ?_
  refine l_call (ci := 7) [(0, (xs (i + 1)).toInt), (0, (xs (i + 2)).toInt), (0, (xs (i + 3)).toInt)] X (eD DL6 26 rfl) ⟨eMem 4 126 rfl rfl, sX7_would⟩ (by decide) (by decide) ⟨rfl, by decide, _, rfl, rfl⟩ rfl rfl (Nat.le_of_ble_eq_true rfl) hr2 c1 ?_
  refine l_aload X (eD DL6 27 rfl) rfl rfl ?_
  refine l_arg 1 X (by omega) rfl rfl (eD DL6 28 rfl) (eD DL6 29 rfl) (eD DL6 30 rfl) (eD DL6 31 rfl) (eD DL6 32 rfl) ?_
  refine l_arg 2 X (by omega) rfl rfl (eD DL6 33 rfl) (eD DL6 34 rfl) (eD DL6 35 rfl) (eD DL6 36 rfl) (eD DL6 37 rfl) ?_
  refine l_arg 3 X (by omega) rfl rfl (eD DL6 38 rfl) (eD DL6 39 rfl) (eD DL6 40 rfl) (eD DL6 41 rfl) (eD DL6 42 rfl) ?_
  refine l_call (ci := 8) (rest := [(1, x)]) [(0, (xs (i + 1)).toInt), (0, (xs (i + 2)).toInt), (0, (xs (i + 3)).toInt)] X (eD DL6 43 rfl) ⟨eMem 7 34 rfl rfl, sX8_would⟩ (by decide) (by decide) ⟨rfl, by decide, _, rfl, rfl⟩ rfl rfl (Nat.le_of_ble_eq_true rfl) hr2 c2 ?_
  exact l_sameL X (eD DL6 44 rfl) (eD DL6 45 rfl) (by decide) (g w2 hI2)
theorem c_set {E : eE} {cL : ClassId} {sa : Nat} {l : Launch} {p : Program} {e : Env} {s : State} {m : MethodId} {below : List Frame} {meth : Method} {c : Code} {L : Nat} {xs : Nat → Int32} {w : eW} {f : Nat → Int64} {k n i : Nat} (X : lX E cL sa l p s m meth c L xs) (hi : i + 6 ≤ L) (hr : k + 1 ≤ 1087 ∧ n + 6 ≤ 23248) (hI : IV w) (g : ∀ w2, IV w2 → LGo E cL l p e s m below meth c 1374 (lB i) [] w2 f k n) : LGo E cL l p e s m below meth c 1139 (lB i) [] w f k n := by
  have hr2 : k ≤ 1087 ∧ n ≤ 23248 := by omega
  by_cases hb : (xs (i + 3)).toInt = 0
  · obtain ⟨x, w1, w2, c1, c2, hI2⟩ := s_set ((xs (i + 1)).toInt) ((xs (i + 2)).toInt) 0 (x_eI _) (x_eI _) (by decide) w hI
    refine l_aload X (eD DL6 48 rfl) rfl rfl ?_
    refine l_arg 1 X (by omega) rfl rfl (eD DL6 49 rfl) (eD DL6 50 rfl) (eD DL6 51 rfl) (eD DL6 52 rfl) (eD DL6 53 rfl) ?_
    refine l_arg 2 X (by omega) rfl rfl (eD DL6 54 rfl) (eD DL6 55 rfl) (eD DL6 56 rfl) (eD DL6 57 rfl) (eD DL6 58 rfl) ?_
    refine l_arg 3 X (by omega) rfl rfl (eD DL6 59 rfl) (eD DL6 60 rfl) (eD DL6 61 rfl) (eD DL6 62 rfl) (eD DL6 63 rfl) ?_
    refine l_ifeq (tgt := 1165) X (eD DL6 64 rfl) (by decide) (x_eI _) (fun _ => ?_) (fun q => absurd hb q)
    refine l_iconst X (eD DL6 67 rfl) ?_
    refine l_call (ci := 7) [(0, (xs (i + 1)).toInt), (0, (xs (i + 2)).toInt), (0, 0)] X (eD DL6 68 rfl) ⟨eMem 4 141 rfl rfl, sX7_set⟩ (by decide) (by decide) ⟨rfl, by decide, _, rfl, rfl⟩ rfl rfl (Nat.le_of_ble_eq_true rfl) hr2 c1 ?_
    refine l_aload X (eD DL6 69 rfl) rfl rfl ?_
    refine l_arg 1 X (by omega) rfl rfl (eD DL6 70 rfl) (eD DL6 71 rfl) (eD DL6 72 rfl) (eD DL6 73 rfl) (eD DL6 74 rfl) ?_
    refine l_arg 2 X (by omega) rfl rfl (eD DL6 75 rfl) (eD DL6 76 rfl) (eD DL6 77 rfl) (eD DL6 78 rfl) (eD DL6 79 rfl) ?_
    refine l_arg 3 X (by omega) rfl rfl (eD DL6 80 rfl) (eD DL6 81 rfl) (eD DL6 82 rfl) (eD DL6 83 rfl) (eD DL6 84 rfl) ?_
    refine l_ifeq (tgt := 1195) X (eD DL6 85 rfl) (by decide) (x_eI _) (fun _ => ?_) (fun q => absurd hb q)
    refine l_iconst X (eD DL6 88 rfl) ?_
    refine l_call (ci := 8) (rest := [(0, x)]) [(0, (xs (i + 1)).toInt), (0, (xs (i + 2)).toInt), (0, 0)] X (eD DL6 89 rfl) ⟨eMem 7 42 rfl rfl, sX8_set⟩ (by decide) (by decide) ⟨rfl, by decide, _, rfl, rfl⟩ rfl rfl (Nat.le_of_ble_eq_true rfl) hr2 c2 ?_
    exact l_same X (eD DL6 90 rfl) (by decide) (g w2 hI2)
  · obtain ⟨x, w1, w2, c1, c2, hI2⟩ := s_set ((xs (i + 1)).toInt) ((xs (i + 2)).toInt) 1 (x_eI _) (x_eI _) (by decide) w hI
    refine l_aload X (eD DL6 48 rfl) rfl rfl ?_
    refine l_arg 1 X (by omega) rfl rfl (eD DL6 49 rfl) (eD DL6 50 rfl) (eD DL6 51 rfl) (eD DL6 52 rfl) (eD DL6 53 rfl) ?_
    refine l_arg 2 X (by omega) rfl rfl (eD DL6 54 rfl) (eD DL6 55 rfl) (eD DL6 56 rfl) (eD DL6 57 rfl) (eD DL6 58 rfl) ?_
    refine l_arg 3 X (by omega) rfl rfl (eD DL6 59 rfl) (eD DL6 60 rfl) (eD DL6 61 rfl) (eD DL6 62 rfl) (eD DL6 63 rfl) ?_
    refine l_ifeq (tgt := 1165) X (eD DL6 64 rfl) (by decide) (x_eI _) (fun q => absurd q hb) (fun _ => ?_)
    refine l_iconst X (eD DL6 65 rfl) (l_goto (tgt := 1166) X (eD DL6 66 rfl) (by decide) ?_)
    refine l_call (ci := 7) [(0, (xs (i + 1)).toInt), (0, (xs (i + 2)).toInt), (0, 1)] X (eD DL6 68 rfl) ⟨eMem 4 141 rfl rfl, sX7_set⟩ (by decide) (by decide) ⟨rfl, by decide, _, rfl, rfl⟩ rfl rfl (Nat.le_of_ble_eq_true rfl) hr2 c1 ?_
    refine l_aload X (eD DL6 69 rfl) rfl rfl ?_
    refine l_arg 1 X (by omega) rfl rfl (eD DL6 70 rfl) (eD DL6 71 rfl) (eD DL6 72 rfl) (eD DL6 73 rfl) (eD DL6 74 rfl) ?_
    refine l_arg 2 X (by omega) rfl rfl (eD DL6 75 rfl) (eD DL6 76 rfl) (eD DL6 77 rfl) (eD DL6 78 rfl) (eD DL6 79 rfl) ?_
    refine l_arg 3 X (by omega) rfl rfl (eD DL6 80 rfl) (eD DL6 81 rfl) (eD DL6 82 rfl) (eD DL6 83 rfl) (eD DL6 84 rfl) ?_
    refine l_ifeq (tgt := 1195) X (eD DL6 85 rfl) (by decide) (x_eI _) (fun q => absurd q hb) (fun _ => ?_)
    refine l_iconst X (eD DL6 86 rfl) (l_goto (tgt := 1196) X (eD DL6 87 rfl) (by decide) ?_)
    refine l_call (ci := 8) (rest := [(0, x)]) [(0, (xs (i + 1)).toInt), (0, (xs (i + 2)).toInt), (0, 1)] X (eD DL6 89 rfl) ⟨eMem 7 42 rfl rfl, sX8_set⟩ (by decide) (by decide) ⟨rfl, by decide, _, rfl, rfl⟩ rfl rfl (Nat.le_of_ble_eq_true rfl) hr2 c2 ?_
    exact l_same X (eD DL6 90 rfl) (by decide) (g w2 hI2)
theorem c_runs {E : eE} {cL : ClassId} {sa : Nat} {l : Launch} {p : Program} {e : Env} {s : State} {m : MethodId} {below : List Frame} {meth : Method} {c : Code} {L : Nat} {xs : Nat → Int32} {w : eW} {f : Nat → Int64} {k n i : Nat} (X : lX E cL sa l p s m meth c L xs) (hi : i + 6 ≤ L) (hr : k + 1 ≤ 1087 ∧ n + 6 ≤ 23248) (hI : IV w) (g : ∀ w2, IV w2 → LGo E cL l p e s m below meth c 1374 (lB i) [] w2 f k n) : LGo E cL l p e s m below meth c 1204 (lB i) [] w f k n := by
  have hr2 : k ≤ 1087 ∧ n ≤ 23248 := by omega
  obtain ⟨x, w1, w2, c1, c2, hI2⟩ := s_runs ((xs (i + 1)).toInt) ((xs (i + 2)).toInt) (x_eI _) (x_eI _) w hI
  refine l_aload X (eD DL6 93 rfl) rfl rfl ?_
  refine l_arg 1 X (by omega) rfl rfl (eD DL6 94 rfl) (eD DL6 95 rfl) (eD DL6 96 rfl) (eD DL6 97 rfl) (eD DL6 98 rfl) ?_
  refine l_arg 2 X (by omega) rfl rfl (eD DL6 99 rfl) (eD DL6 100 rfl) (eD DL6 101 rfl) (eD DL6 102 rfl) (eD DL6 103 rfl) ?_
  refine l_call (ci := 7) [(0, (xs (i + 1)).toInt), (0, (xs (i + 2)).toInt)] X (eD DL6 104 rfl) ⟨eMem 4 154 rfl rfl, sX7_runs⟩ (by decide) (by decide) ⟨rfl, by decide, _, rfl, rfl⟩ rfl rfl (Nat.le_of_ble_eq_true rfl) hr2 c1 ?_
  refine l_aload X (eD DL6 105 rfl) rfl rfl ?_
  refine l_arg 1 X (by omega) rfl rfl (eD DL6 106 rfl) (eD DL6 107 rfl) (eD DL6 108 rfl) (eD DL6 109 rfl) (eD DL7 0 rfl) ?_
  refine l_arg 2 X (by omega) rfl rfl (eD DL7 1 rfl) (eD DL7 2 rfl) (eD DL7 3 rfl) (eD DL7 4 rfl) (eD DL7 5 rfl) ?_
  refine l_call (ci := 8) (rest := [(0, x)]) [(0, (xs (i + 1)).toInt), (0, (xs (i + 2)).toInt)] X (eD DL7 6 rfl) ⟨eMem 7 50 rfl rfl, sX8_runs⟩ (by decide) (by decide) ⟨rfl, by decide, _, rfl, rfl⟩ rfl rfl (Nat.le_of_ble_eq_true rfl) hr2 c2 ?_
  exact l_same X (eD DL7 7 rfl) (by decide) (g w2 hI2)
theorem c_turn {E : eE} {cL : ClassId} {sa : Nat} {l : Launch} {p : Program} {e : Env} {s : State} {m : MethodId} {below : List Frame} {meth : Method} {c : Code} {L : Nat} {xs : Nat → Int32} {w : eW} {f : Nat → Int64} {k n i : Nat} (X : lX E cL sa l p s m meth c L xs) (hi : i + 6 ≤ L) (hr : k + 1 ≤ 1087 ∧ n + 6 ≤ 23248) (hI : IV w) (g : ∀ w2, IV w2 → LGo E cL l p e s m below meth c 1374 (lB i) [] w2 f k n) : LGo E cL l p e s m below meth c 1241 (lB i) [] w f k n := by
  have hr2 : k ≤ 1087 ∧ n ≤ 23248 := by omega
  obtain ⟨x, w1, w2, c1, c2, hI2⟩ := s_turn ((xs (i + 1)).toInt) (x_eI _) w hI
  refine l_aload X (eD DL7 10 rfl) rfl rfl ?_
  refine l_arg 1 X (by omega) rfl rfl (eD DL7 11 rfl) (eD DL7 12 rfl) (eD DL7 13 rfl) (eD DL7 14 rfl) (eD DL7 15 rfl) ?_
  refine l_call (ci := 7) [(0, (xs (i + 1)).toInt)] X (eD DL7 16 rfl) ⟨eMem 4 159 rfl rfl, sX7_turn⟩ (by decide) (by decide) ⟨rfl, by decide, _, rfl, rfl⟩ rfl rfl (Nat.le_of_ble_eq_true rfl) hr2 c1 ?_
  refine l_aload X (eD DL7 17 rfl) rfl rfl ?_
  refine l_arg 1 X (by omega) rfl rfl (eD DL7 18 rfl) (eD DL7 19 rfl) (eD DL7 20 rfl) (eD DL7 21 rfl) (eD DL7 22 rfl) ?_
  refine l_call (ci := 8) (rest := [(0, x)]) [(0, (xs (i + 1)).toInt)] X (eD DL7 23 rfl) ⟨eMem 7 54 rfl rfl, sX8_turn⟩ (by decide) (by decide) ⟨rfl, by decide, _, rfl, rfl⟩ rfl rfl (Nat.le_of_ble_eq_true rfl) hr2 c2 ?_
  exact l_same X (eD DL7 24 rfl) (by decide) (g w2 hI2)
theorem c_grow {E : eE} {cL : ClassId} {sa : Nat} {l : Launch} {p : Program} {e : Env} {s : State} {m : MethodId} {below : List Frame} {meth : Method} {c : Code} {L : Nat} {xs : Nat → Int32} {w : eW} {f : Nat → Int64} {k n i : Nat} (X : lX E cL sa l p s m meth c L xs) (hi : i + 6 ≤ L) (hr : k + 1 ≤ 1087 ∧ n + 6 ≤ 23248) (hI : IV w) (g : ∀ w2, IV w2 → LGo E cL l p e s m below meth c 1374 (lB i) [] w2 f k n) : LGo E cL l p e s m below meth c 1266 (lB i) [] w f k n := by
  have hr2 : k ≤ 1087 ∧ n ≤ 23248 := by omega
  obtain ⟨x, w1, w2, c1, c2, hI2⟩ := s_grow  w hI
  refine l_aload X (eD DL7 27 rfl) rfl rfl ?_
  refine l_call (ci := 7) [] X (eD DL7 28 rfl) ⟨eMem 4 171 rfl rfl, sX7_grow⟩ (by decide) (by decide) ⟨rfl, by decide, _, rfl, rfl⟩ rfl rfl (Nat.le_of_ble_eq_true rfl) hr2 c1 ?_
  refine l_aload X (eD DL7 29 rfl) rfl rfl ?_
  refine l_call (ci := 8) (rest := [(0, x)]) [] X (eD DL7 30 rfl) ⟨eMem 7 58 rfl rfl, sX8_grow⟩ (by decide) (by decide) ⟨rfl, by decide, _, rfl, rfl⟩ rfl rfl (Nat.le_of_ble_eq_true rfl) hr2 c2 ?_
  exact l_same X (eD DL7 31 rfl) (by decide) (g w2 hI2)
theorem c_undo {E : eE} {cL : ClassId} {sa : Nat} {l : Launch} {p : Program} {e : Env} {s : State} {m : MethodId} {below : List Frame} {meth : Method} {c : Code} {L : Nat} {xs : Nat → Int32} {w : eW} {f : Nat → Int64} {k n i : Nat} (X : lX E cL sa l p s m meth c L xs) (hi : i + 6 ≤ L) (hr : k + 1 ≤ 1087 ∧ n + 6 ≤ 23248) (hI : IV w) (g : ∀ w2, IV w2 → LGo E cL l p e s m below meth c 1374 (lB i) [] w2 f k n) : LGo E cL l p e s m below meth c 1279 (lB i) [] w f k n := by
  have hr2 : k ≤ 1087 ∧ n ≤ 23248 := by omega
  obtain ⟨x, w1, w2, c1, c2, hI2⟩ := s_undo  w hI
  refine l_aload X (eD DL7 34 rfl) rfl rfl ?_
  refine l_call (ci := 7) [] X (eD DL7 35 rfl) ⟨eMem 4 179 rfl rfl, sX7_undo⟩ (by decide) (by decide) ⟨rfl, by decide, _, rfl, rfl⟩ rfl rfl (Nat.le_of_ble_eq_true rfl) hr2 c1 ?_
  refine l_aload X (eD DL7 36 rfl) rfl rfl ?_
  refine l_call (ci := 8) (rest := [(0, x)]) [] X (eD DL7 37 rfl) ⟨eMem 7 62 rfl rfl, sX8_undo⟩ (by decide) (by decide) ⟨rfl, by decide, _, rfl, rfl⟩ rfl rfl (Nat.le_of_ble_eq_true rfl) hr2 c2 ?_
  exact l_same X (eD DL7 38 rfl) (by decide) (g w2 hI2)
theorem c_bytes {E : eE} {cL : ClassId} {sa : Nat} {l : Launch} {p : Program} {e : Env} {s : State} {m : MethodId} {below : List Frame} {meth : Method} {c : Code} {L : Nat} {xs : Nat → Int32} {w : eW} {f : Nat → Int64} {k n i : Nat} (X : lX E cL sa l p s m meth c L xs) (hi : i + 6 ≤ L) (hr : k + 1 ≤ 1087 ∧ n + 6 ≤ 23248) (hI : IV w) (g : ∀ w2, IV w2 → LGo E cL l p e s m below meth c 1374 (lB i) [] w2 f k n) : LGo E cL l p e s m below meth c 1348 (lB i) [] w f k n := by
  have hr2 : k ≤ 1087 ∧ n ≤ 23248 := by omega
  obtain ⟨x, w1, w2, c1, c2, hI2⟩ := s_bytes  w hI
  refine l_aload X (eD DL7 76 rfl) rfl rfl ?_
  refine l_call (ci := 7) [] X (eD DL7 77 rfl) ⟨eMem 4 187 rfl rfl, sX7_bytes⟩ (by decide) (by decide) ⟨rfl, by decide, _, rfl, rfl⟩ rfl rfl (Nat.le_of_ble_eq_true rfl) hr2 c1 ?_
  refine l_aload X (eD DL7 78 rfl) rfl rfl ?_
  refine l_call (ci := 8) (rest := [(0, x)]) [] X (eD DL7 79 rfl) ⟨eMem 7 70 rfl rfl, sX8_bytes⟩ (by decide) (by decide) ⟨rfl, by decide, _, rfl, rfl⟩ rfl rfl (Nat.le_of_ble_eq_true rfl) hr2 c2 ?_
  exact l_same X (eD DL7 80 rfl) (by decide) (g w2 hI2)
theorem c_trouble {E : eE} {cL : ClassId} {sa : Nat} {l : Launch} {p : Program} {e : Env} {s : State} {m : MethodId} {below : List Frame} {meth : Method} {c : Code} {L : Nat} {xs : Nat → Int32} {w : eW} {f : Nat → Int64} {k n i : Nat} (X : lX E cL sa l p s m meth c L xs) (hi : i + 6 ≤ L) (hr : k + 1 ≤ 1087 ∧ n + 6 ≤ 23248) (hI : IV w) (g : ∀ w2, IV w2 → LGo E cL l p e s m below meth c 1374 (lB i) [] w2 f k n) : LGo E cL l p e s m below meth c 1361 (lB i) [] w f k n := by
  have hr2 : k ≤ 1087 ∧ n ≤ 23248 := by omega
  obtain ⟨x, w1, w2, c1, c2, hI2⟩ := s_trouble  w hI
  refine l_aload X (eD DL7 83 rfl) rfl rfl ?_
  refine l_call (ci := 7) [] X (eD DL7 84 rfl) ⟨eMem 4 191 rfl rfl, sX7_trouble⟩ (by decide) (by decide) ⟨rfl, by decide, _, rfl, rfl⟩ rfl rfl (Nat.le_of_ble_eq_true rfl) hr2 c1 ?_
  refine l_aload X (eD DL7 85 rfl) rfl rfl ?_
  refine l_call (ci := 8) (rest := [(0, x)]) [] X (eD DL7 86 rfl) ⟨eMem 7 74 rfl rfl, sX8_trouble⟩ (by decide) (by decide) ⟨rfl, by decide, _, rfl, rfl⟩ rfl rfl (Nat.le_of_ble_eq_true rfl) hr2 c2 ?_
  exact l_same X (eD DL7 87 rfl) (by decide) (g w2 hI2)
