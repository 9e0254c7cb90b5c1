-- the law
def KL_law : List (Nat × Nat × Instr) := [(0, 3, .new 8), (3, 1, .dup), (4, 3, .invokespecial 104), (7, 1, .astore_n 1), (8, 3, .new 105), (11, 1, .dup), (12, 3, .invokespecial 107), (15, 1, .astore_n 2), (16, 1, .iconst 1), (17, 2, .newarray .long), (19, 1, .astore_n 3), (20, 1, .iconst 1), (21, 2, .newarray .double), (23, 2, .astore 4), (25, 1, .iconst 0), (26, 2, .istore 5), (28, 2, .iload 5), (30, 1, .aload_n 0), (31, 1, .arraylength), (32, 2, .bipush 6), (34, 1, .isub), (35, 3, .if_icmp .gt 2008), (38, 1, .aload_n 0), (39, 2, .iload 5), (41, 1, .iaload), (42, 2, .bipush 63), (44, 1, .iand), (45, 159, .tableswitch 1992 0 35 #[159, 263, 319, 375, 388, 401, 414, 427, 495, 551, 654, 750, 818, 831, 844, 912, 956, 1024, 1068, 1131, 1206, 1250, 1294, 1338, 1351, 1419, 1487, 1583, 1646, 1724, 1780, 1821, 1835, 1879, 1892, 1936]), (204, 1, .aload_n 1), (205, 1, .aload_n 0), (206, 2, .iload 5), (208, 1, .iconst 1), (209, 1, .iadd), (210, 1, .iaload), (211, 1, .aload_n 0), (212, 2, .iload 5), (214, 1, .iconst 2), (215, 1, .iadd), (216, 1, .iaload), (217, 1, .aload_n 0), (218, 2, .iload 5), (220, 1, .iconst 3), (221, 1, .iadd), (222, 1, .iaload), (223, 1, .aload_n 0), (224, 2, .iload 5), (226, 1, .iconst 4), (227, 1, .iadd), (228, 1, .iaload), (229, 1, .aload_n 0), (230, 2, .iload 5), (232, 1, .iconst 5), (233, 1, .iadd), (234, 1, .iaload), (235, 1, .aload_n 3), (236, 3, .invokestatic 108), (239, 2, .istore 6), (241, 1, .aload_n 2), (242, 1, .aload_n 0), (243, 2, .iload 5), (245, 1, .iconst 1), (246, 1, .iadd), (247, 1, .iaload), (248, 1, .aload_n 0), (249, 2, .iload 5), (251, 1, .iconst 2), (252, 1, .iadd), (253, 1, .iaload), (254, 1, .aload_n 0), (255, 2, .iload 5), (257, 1, .iconst 3), (258, 1, .iadd), (259, 1, .iaload), (260, 1, .aload_n 0), (261, 2, .iload 5), (263, 1, .iconst 4), (264, 1, .iadd), (265, 1, .iaload), (266, 1, .aload_n 0), (267, 2, .iload 5), (269, 1, .iconst 5), (270, 1, .iadd), (271, 1, .iaload), (272, 3, .invokevirtual 113), (275, 2, .istore 7), (277, 1, .aload_n 2), (278, 3, .invokevirtual 114), (281, 2, .iload 6), (283, 3, .if_icmp .eq 5), (286, 1, .iconst 0), (287, 1, .ireturn), (288, 2, .iload 6), (290, 3, .ifCond .ne 15), (293, 1, .aload_n 3), (294, 1, .iconst 0), (295, 1, .laload), (296, 2, .iload 7), (298, 1, .i2l), (299, 1, .lcmp), (300, 3, .ifCond .eq 5), (303, 1, .iconst 0), (304, 1, .ireturn), (305, 3, .goto 1732), (308, 1, .aload_n 1), (309, 1, .aload_n 0), (310, 2, .iload 5), (312, 1, .iconst 1), (313, 1, .iadd), (314, 1, .iaload), (315, 1, .aload_n 3), (316, 3, .invokestatic 117), (319, 2, .istore 6), (321, 1, .aload_n 2), (322, 1, .aload_n 0), (323, 2, .iload 5), (325, 1, .iconst 1), (326, 1, .iadd), (327, 1, .iaload), (328, 3, .invokevirtual 120), (331, 2, .istore 7), (333, 1, .aload_n 2), (334, 3, .invokevirtual 114), (337, 2, .iload 6), (339, 3, .if_icmp .eq 5), (342, 1, .iconst 0), (343, 1, .ireturn), (344, 2, .iload 6), (346, 3, .ifCond .ne 15), (349, 1, .aload_n 3), (350, 1, .iconst 0), (351, 1, .laload), (352, 2, .iload 7), (354, 1, .i2l), (355, 1, .lcmp), (356, 3, .ifCond .eq 5), (359, 1, .iconst 0), (360, 1, .ireturn), (361, 3, .goto 1676), (364, 1, .aload_n 1), (365, 1, .aload_n 0), (366, 2, .iload 5), (368, 1, .iconst 1), (369, 1, .iadd), (370, 1, .iaload), (371, 1, .aload_n 3), (372, 3, .invokestatic 121), (375, 2, .istore 6), (377, 1, .aload_n 2), (378, 1, .aload_n 0), (379, 2, .iload 5), (381, 1, .iconst 1), (382, 1, .iadd), (383, 1, .iaload), (384, 3, .invokevirtual 123), (387, 2, .istore 7), (389, 1, .aload_n 2), (390, 3, .invokevirtual 114), (393, 2, .iload 6), (395, 3, .if_icmp .eq 5), (398, 1, .iconst 0), (399, 1, .ireturn), (400, 2, .iload 6), (402, 3, .ifCond .ne 15), (405, 1, .aload_n 3), (406, 1, .iconst 0), (407, 1, .laload), (408, 2, .iload 7), (410, 1, .i2l), (411, 1, .lcmp), (412, 3, .ifCond .eq 5), (415, 1, .iconst 0), (416, 1, .ireturn), (417, 3, .goto 1620), (420, 1, .aload_n 1), (421, 3, .invokevirtual 124), (424, 1, .aload_n 2), (425, 3, .invokevirtual 127), (428, 3, .if_icmp .eq 1609), (431, 1, .iconst 0), (432, 1, .ireturn), (433, 1, .aload_n 1), (434, 3, .invokevirtual 128), (437, 1, .aload_n 2), (438, 3, .invokevirtual 131), (441, 3, .if_icmp .eq 1596), (444, 1, .iconst 0), (445, 1, .ireturn), (446, 1, .aload_n 1), (447, 3, .invokevirtual 132), (450, 1, .aload_n 2), (451, 3, .invokevirtual 135), (454, 3, .if_icmp .eq 1583), (457, 1, .iconst 0), (458, 1, .ireturn), (459, 1, .aload_n 1), (460, 3, .invokevirtual 136), (463, 1, .aload_n 2), (464, 3, .invokevirtual 139), (467, 3, .if_icmp .eq 1570), (470, 1, .iconst 0), (471, 1, .ireturn), (472, 1, .aload_n 1), (473, 1, .aload_n 0), (474, 2, .iload 5), (476, 1, .iconst 1), (477, 1, .iadd), (478, 1, .iaload), (479, 1, .aload_n 0), (480, 2, .iload 5), (482, 1, .iconst 2), (483, 1, .iadd), (484, 1, .iaload), (485, 1, .aload_n 3), (486, 3, .invokestatic 140), (489, 2, .istore 6), (491, 1, .aload_n 2), (492, 1, .aload_n 0), (493, 2, .iload 5), (495, 1, .iconst 1), (496, 1, .iadd), (497, 1, .iaload), (498, 1, .aload_n 0), (499, 2, .iload 5), (501, 1, .iconst 2), (502, 1, .iadd), (503, 1, .iaload), (504, 3, .invokevirtual 143), (507, 2, .istore 7), (509, 1, .aload_n 2), (510, 3, .invokevirtual 114), (513, 2, .iload 6), (515, 3, .if_icmp .eq 5), (518, 1, .iconst 0), (519, 1, .ireturn), (520, 2, .iload 6), (522, 3, .ifCond .ne 15), (525, 1, .aload_n 3), (526, 1, .iconst 0), (527, 1, .laload), (528, 2, .iload 7), (530, 1, .i2l), (531, 1, .lcmp), (532, 3, .ifCond .eq 5), (535, 1, .iconst 0), (536, 1, .ireturn), (537, 3, .goto 1500), (540, 1, .aload_n 1), (541, 1, .aload_n 0), (542, 2, .iload 5), (544, 1, .iconst 1), (545, 1, .iadd), (546, 1, .iaload), (547, 1, .aload_n 3), (548, 3, .invokestatic 144), (551, 2, .istore 6), (553, 1, .aload_n 2), (554, 1, .aload_n 0), (555, 2, .iload 5), (557, 1, .iconst 1), (558, 1, .iadd), (559, 1, .iaload), (560, 3, .invokevirtual 146), (563, 2, .istore 7), (565, 1, .aload_n 2), (566, 3, .invokevirtual 114), (569, 2, .iload 6), (571, 3, .if_icmp .eq 5), (574, 1, .iconst 0), (575, 1, .ireturn), (576, 2, .iload 6), (578, 3, .ifCond .ne 15), (581, 1, .aload_n 3), (582, 1, .iconst 0), (583, 1, .laload), (584, 2, .iload 7), (586, 1, .i2l), (587, 1, .lcmp), (588, 3, .ifCond .eq 5), (591, 1, .iconst 0), (592, 1, .ireturn), (593, 3, .goto 1444), (596, 1, .aload_n 1), (597, 1, .aload_n 0), (598, 2, .iload 5), (600, 1, .iconst 1), (601, 1, .iadd), (602, 1, .iaload), (603, 1, .aload_n 0), (604, 2, .iload 5), (606, 1, .iconst 2), (607, 1, .iadd), (608, 1, .iaload), (609, 1, .aload_n 0), (610, 2, .iload 5), (612, 1, .iconst 3), (613, 1, .iadd), (614, 1, .iaload), (615, 3, .ifCond .eq 7), (618, 1, .iconst 1), (619, 3, .goto 4), (622, 1, .iconst 0), (623, 1, .aload_n 3), (624, 3, .invokestatic 147), (627, 2, .istore 6), (629, 1, .aload_n 2), (630, 1, .aload_n 0), (631, 2, .iload 5), (633, 1, .iconst 1), (634, 1, .iadd), (635, 1, .iaload), (636, 1, .aload_n 0), (637, 2, .iload 5), (639, 1, .iconst 2), (640, 1, .iadd), (641, 1, .iaload), (642, 1, .aload_n 0), (643, 2, .iload 5), (645, 1, .iconst 3), (646, 1, .iadd), (647, 1, .iaload), (648, 3, .ifCond .eq 7), (651, 1, .iconst 1), (652, 3, .goto 4), (655, 1, .iconst 0), (656, 3, .invokevirtual 150), (659, 2, .istore 7), (661, 1, .aload_n 2), (662, 3, .invokevirtual 114), (665, 2, .iload 6), (667, 3, .if_icmp .eq 5), (670, 1, .iconst 0), (671, 1, .ireturn), (672, 2, .iload 6), (674, 3, .ifCond .ne 22), (677, 1, .aload_n 3), (678, 1, .iconst 0), (679, 1, .laload), (680, 2, .iload 7), (682, 3, .ifCond .eq 7), (685, 1, .lconst 1), (686, 3, .goto 4), (689, 1, .lconst 0), (690, 1, .lcmp), (691, 3, .ifCond .eq 5), (694, 1, .iconst 0), (695, 1, .ireturn), (696, 3, .goto 1341), (699, 1, .aload_n 1), (700, 1, .aload_n 0), (701, 2, .iload 5), (703, 1, .iconst 1), (704, 1, .iadd), (705, 1, .iaload), (706, 1, .aload_n 0), (707, 2, .iload 5), (709, 1, .iconst 2), (710, 1, .iadd), (711, 1, .iaload), (712, 1, .aload_n 0), (713, 2, .iload 5), (715, 1, .iconst 3), (716, 1, .iadd), (717, 1, .iaload), (718, 3, .ifCond .eq 7), (721, 1, .iconst 1), (722, 3, .goto 4), (725, 1, .iconst 0), (726, 1, .aload_n 3), (727, 3, .invokestatic 151), (730, 2, .istore 6), (732, 1, .aload_n 2), (733, 1, .aload_n 0), (734, 2, .iload 5), (736, 1, .iconst 1), (737, 1, .iadd), (738, 1, .iaload), (739, 1, .aload_n 0), (740, 2, .iload 5), (742, 1, .iconst 2), (743, 1, .iadd), (744, 1, .iaload), (745, 1, .aload_n 0), (746, 2, .iload 5), (748, 1, .iconst 3), (749, 1, .iadd), (750, 1, .iaload), (751, 3, .ifCond .eq 7), (754, 1, .iconst 1), (755, 3, .goto 4), (758, 1, .iconst 0), (759, 3, .invokevirtual 153), (762, 2, .istore 7), (764, 1, .aload_n 2), (765, 3, .invokevirtual 114), (768, 2, .iload 6), (770, 3, .if_icmp .eq 5), (773, 1, .iconst 0), (774, 1, .ireturn), (775, 2, .iload 6), (777, 3, .ifCond .ne 15), (780, 1, .aload_n 3), (781, 1, .iconst 0), (782, 1, .laload), (783, 2, .iload 7), (785, 1, .i2l), (786, 1, .lcmp), (787, 3, .ifCond .eq 5), (790, 1, .iconst 0), (791, 1, .ireturn), (792, 3, .goto 1245), (795, 1, .aload_n 1), (796, 1, .aload_n 0), (797, 2, .iload 5), (799, 1, .iconst 1), (800, 1, .iadd), (801, 1, .iaload), (802, 1, .aload_n 0), (803, 2, .iload 5), (805, 1, .iconst 2), (806, 1, .iadd), (807, 1, .iaload), (808, 1, .aload_n 3), (809, 3, .invokestatic 154), (812, 2, .istore 6), (814, 1, .aload_n 2), (815, 1, .aload_n 0), (816, 2, .iload 5), (818, 1, .iconst 1), (819, 1, .iadd), (820, 1, .iaload), (821, 1, .aload_n 0), (822, 2, .iload 5), (824, 1, .iconst 2), (825, 1, .iadd), (826, 1, .iaload), (827, 3, .invokevirtual 156), (830, 2, .istore 7), (832, 1, .aload_n 2), (833, 3, .invokevirtual 114), (836, 2, .iload 6), (838, 3, .if_icmp .eq 5), (841, 1, .iconst 0), (842, 1, .ireturn), (843, 2, .iload 6), (845, 3, .ifCond .ne 15), (848, 1, .aload_n 3), (849, 1, .iconst 0), (850, 1, .laload), (851, 2, .iload 7), (853, 1, .i2l), (854, 1, .lcmp), (855, 3, .ifCond .eq 5), (858, 1, .iconst 0), (859, 1, .ireturn), (860, 3, .goto 1177), (863, 1, .aload_n 1), (864, 3, .invokevirtual 157), (867, 1, .aload_n 2), (868, 3, .invokevirtual 160), (871, 3, .if_icmp .eq 1166), (874, 1, .iconst 0), (875, 1, .ireturn), (876, 1, .aload_n 1), (877, 3, .invokevirtual 161), (880, 1, .aload_n 2), (881, 3, .invokevirtual 164), (884, 3, .if_icmp .eq 1153), (887, 1, .iconst 0), (888, 1, .ireturn), (889, 1, .aload_n 1), (890, 1, .aload_n 0), (891, 2, .iload 5), (893, 1, .iconst 1), (894, 1, .iadd), (895, 1, .iaload), (896, 1, .aload_n 0), (897, 2, .iload 5), (899, 1, .iconst 2), (900, 1, .iadd), (901, 1, .iaload), (902, 1, .aload_n 3), (903, 3, .invokestatic 165), (906, 2, .istore 6), (908, 1, .aload_n 2), (909, 1, .aload_n 0), (910, 2, .iload 5), (912, 1, .iconst 1), (913, 1, .iadd), (914, 1, .iaload), (915, 1, .aload_n 0), (916, 2, .iload 5), (918, 1, .iconst 2), (919, 1, .iadd), (920, 1, .iaload), (921, 3, .invokevirtual 167), (924, 2, .istore 7), (926, 1, .aload_n 2), (927, 3, .invokevirtual 114), (930, 2, .iload 6), (932, 3, .if_icmp .eq 5), (935, 1, .iconst 0), (936, 1, .ireturn), (937, 2, .iload 6), (939, 3, .ifCond .ne 15), (942, 1, .aload_n 3), (943, 1, .iconst 0), (944, 1, .laload), (945, 2, .iload 7), (947, 1, .i2l), (948, 1, .lcmp), (949, 3, .ifCond .eq 5), (952, 1, .iconst 0), (953, 1, .ireturn), (954, 3, .goto 1083), (957, 1, .aload_n 1), (958, 1, .aload_n 3), (959, 3, .invokestatic 168), (962, 2, .istore 6), (964, 1, .aload_n 2), (965, 3, .invokevirtual 171), (968, 2, .istore 7), (970, 1, .aload_n 2), (971, 3, .invokevirtual 114), (974, 2, .iload 6), (976, 3, .if_icmp .eq 5), (979, 1, .iconst 0), (980, 1, .ireturn), (981, 2, .iload 6), (983, 3, .ifCond .ne 15), (986, 1, .aload_n 3), (987, 1, .iconst 0), (988, 1, .laload), (989, 2, .iload 7), (991, 1, .i2l), (992, 1, .lcmp), (993, 3, .ifCond .eq 5), (996, 1, .iconst 0), (997, 1, .ireturn), (998, 3, .goto 1039), (1001, 1, .aload_n 1), (1002, 1, .aload_n 0), (1003, 2, .iload 5), (1005, 1, .iconst 1), (1006, 1, .iadd), (1007, 1, .iaload), (1008, 1, .aload_n 0), (1009, 2, .iload 5), (1011, 1, .iconst 2), (1012, 1, .iadd), (1013, 1, .iaload), (1014, 1, .aload_n 3), (1015, 3, .invokestatic 172), (1018, 2, .istore 6), (1020, 1, .aload_n 2), (1021, 1, .aload_n 0), (1022, 2, .iload 5), (1024, 1, .iconst 1), (1025, 1, .iadd), (1026, 1, .iaload), (1027, 1, .aload_n 0), (1028, 2, .iload 5), (1030, 1, .iconst 2), (1031, 1, .iadd), (1032, 1, .iaload), (1033, 3, .invokevirtual 174), (1036, 2, .istore 7), (1038, 1, .aload_n 2), (1039, 3, .invokevirtual 114), (1042, 2, .iload 6), (1044, 3, .if_icmp .eq 5), (1047, 1, .iconst 0), (1048, 1, .ireturn), (1049, 2, .iload 6), (1051, 3, .ifCond .ne 15), (1054, 1, .aload_n 3), (1055, 1, .iconst 0), (1056, 1, .laload), (1057, 2, .iload 7), (1059, 1, .i2l), (1060, 1, .lcmp), (1061, 3, .ifCond .eq 5), (1064, 1, .iconst 0), (1065, 1, .ireturn), (1066, 3, .goto 971), (1069, 1, .aload_n 1), (1070, 1, .aload_n 3), (1071, 3, .invokestatic 175), (1074, 2, .istore 6), (1076, 1, .aload_n 2), (1077, 3, .invokevirtual 177), (1080, 2, .istore 7), (1082, 1, .aload_n 2), (1083, 3, .invokevirtual 114), (1086, 2, .iload 6), (1088, 3, .if_icmp .eq 5), (1091, 1, .iconst 0), (1092, 1, .ireturn), (1093, 2, .iload 6), (1095, 3, .ifCond .ne 15), (1098, 1, .aload_n 3), (1099, 1, .iconst 0), (1100, 1, .laload), (1101, 2, .iload 7), (1103, 1, .i2l), (1104, 1, .lcmp), (1105, 3, .ifCond .eq 5), (1108, 1, .iconst 0), (1109, 1, .ireturn), (1110, 3, .goto 927), (1113, 1, .aload_n 1), (1114, 1, .aload_n 0), (1115, 2, .iload 5), (1117, 1, .iconst 1), (1118, 1, .iadd), (1119, 1, .iaload), (1120, 1, .aload_n 3), (1121, 3, .invokestatic 178), (1124, 2, .istore 6), (1126, 1, .aload_n 2), (1127, 1, .aload_n 0), (1128, 2, .iload 5), (1130, 1, .iconst 1), (1131, 1, .iadd), (1132, 1, .iaload), (1133, 3, .invokevirtual 180), (1136, 2, .istore 7), (1138, 1, .aload_n 2), (1139, 3, .invokevirtual 114), (1142, 2, .iload 6), (1144, 3, .if_icmp .eq 5), (1147, 1, .iconst 0), (1148, 1, .ireturn), (1149, 2, .iload 6), (1151, 3, .ifCond .ne 22), (1154, 1, .aload_n 3), (1155, 1, .iconst 0), (1156, 1, .laload), (1157, 2, .iload 7), (1159, 3, .ifCond .eq 7), (1162, 1, .lconst 1), (1163, 3, .goto 4), (1166, 1, .lconst 0), (1167, 1, .lcmp), (1168, 3, .ifCond .eq 5), (1171, 1, .iconst 0), (1172, 1, .ireturn), (1173, 3, .goto 864), (1176, 1, .aload_n 1), (1177, 1, .aload_n 0), (1178, 2, .iload 5), (1180, 1, .iconst 1), (1181, 1, .iadd), (1182, 1, .iaload), (1183, 1, .aload_n 0), (1184, 2, .iload 5), (1186, 1, .iconst 2), (1187, 1, .iadd), (1188, 1, .iaload), (1189, 1, .aload_n 3), (1190, 3, .invokestatic 181), (1193, 2, .istore 6), (1195, 1, .aload_n 2), (1196, 1, .aload_n 0), (1197, 2, .iload 5), (1199, 1, .iconst 1), (1200, 1, .iadd), (1201, 1, .iaload), (1202, 1, .aload_n 0), (1203, 2, .iload 5), (1205, 1, .iconst 2), (1206, 1, .iadd), (1207, 1, .iaload), (1208, 3, .invokevirtual 183), (1211, 2, .istore 7), (1213, 1, .aload_n 2), (1214, 3, .invokevirtual 114), (1217, 2, .iload 6), (1219, 3, .if_icmp .eq 5), (1222, 1, .iconst 0), (1223, 1, .ireturn), (1224, 2, .iload 6), (1226, 3, .ifCond .ne 22), (1229, 1, .aload_n 3), (1230, 1, .iconst 0), (1231, 1, .laload), (1232, 2, .iload 7), (1234, 3, .ifCond .eq 7), (1237, 1, .lconst 1), (1238, 3, .goto 4), (1241, 1, .lconst 0), (1242, 1, .lcmp), (1243, 3, .ifCond .eq 5), (1246, 1, .iconst 0), (1247, 1, .ireturn), (1248, 3, .goto 789), (1251, 1, .aload_n 1), (1252, 1, .aload_n 3), (1253, 3, .invokestatic 184), (1256, 2, .istore 6), (1258, 1, .aload_n 2), (1259, 3, .invokevirtual 186), (1262, 2, .istore 7), (1264, 1, .aload_n 2), (1265, 3, .invokevirtual 114), (1268, 2, .iload 6), (1270, 3, .if_icmp .eq 5), (1273, 1, .iconst 0), (1274, 1, .ireturn), (1275, 2, .iload 6), (1277, 3, .ifCond .ne 15), (1280, 1, .aload_n 3), (1281, 1, .iconst 0), (1282, 1, .laload), (1283, 2, .iload 7), (1285, 1, .i2l), (1286, 1, .lcmp), (1287, 3, .ifCond .eq 5), (1290, 1, .iconst 0), (1291, 1, .ireturn), (1292, 3, .goto 745), (1295, 1, .aload_n 1), (1296, 1, .aload_n 3), (1297, 3, .invokestatic 187), (1300, 2, .istore 6), (1302, 1, .aload_n 2), (1303, 3, .invokevirtual 189), (1306, 2, .istore 7), (1308, 1, .aload_n 2), (1309, 3, .invokevirtual 114), (1312, 2, .iload 6), (1314, 3, .if_icmp .eq 5), (1317, 1, .iconst 0), (1318, 1, .ireturn), (1319, 2, .iload 6), (1321, 3, .ifCond .ne 15), (1324, 1, .aload_n 3), (1325, 1, .iconst 0), (1326, 1, .laload), (1327, 2, .iload 7), (1329, 1, .i2l), (1330, 1, .lcmp), (1331, 3, .ifCond .eq 5), (1334, 1, .iconst 0), (1335, 1, .ireturn), (1336, 3, .goto 701), (1339, 1, .aload_n 1), (1340, 1, .aload_n 3), (1341, 3, .invokestatic 190), (1344, 2, .istore 6), (1346, 1, .aload_n 2), (1347, 3, .invokevirtual 192), (1350, 2, .istore 7), (1352, 1, .aload_n 2), (1353, 3, .invokevirtual 114), (1356, 2, .iload 6), (1358, 3, .if_icmp .eq 5), (1361, 1, .iconst 0), (1362, 1, .ireturn), (1363, 2, .iload 6), (1365, 3, .ifCond .ne 15), (1368, 1, .aload_n 3), (1369, 1, .iconst 0), (1370, 1, .laload), (1371, 2, .iload 7), (1373, 1, .i2l), (1374, 1, .lcmp), (1375, 3, .ifCond .eq 5), (1378, 1, .iconst 0), (1379, 1, .ireturn), (1380, 3, .goto 657), (1383, 1, .aload_n 1), (1384, 3, .invokevirtual 193), (1387, 1, .aload_n 2), (1388, 3, .invokevirtual 196), (1391, 3, .if_icmp .eq 646), (1394, 1, .iconst 0), (1395, 1, .ireturn), (1396, 1, .aload_n 1), (1397, 1, .aload_n 0), (1398, 2, .iload 5), (1400, 1, .iconst 1), (1401, 1, .iadd), (1402, 1, .iaload), (1403, 1, .aload_n 0), (1404, 2, .iload 5), (1406, 1, .iconst 2), (1407, 1, .iadd), (1408, 1, .iaload), (1409, 1, .aload_n 3), (1410, 3, .invokestatic 197), (1413, 2, .istore 6), (1415, 1, .aload_n 2), (1416, 1, .aload_n 0), (1417, 2, .iload 5), (1419, 1, .iconst 1), (1420, 1, .iadd), (1421, 1, .iaload), (1422, 1, .aload_n 0), (1423, 2, .iload 5), (1425, 1, .iconst 2), (1426, 1, .iadd), (1427, 1, .iaload), (1428, 3, .invokevirtual 199), (1431, 2, .istore 7), (1433, 1, .aload_n 2), (1434, 3, .invokevirtual 114), (1437, 2, .iload 6), (1439, 3, .if_icmp .eq 5), (1442, 1, .iconst 0), (1443, 1, .ireturn), (1444, 2, .iload 6), (1446, 3, .ifCond .ne 15), (1449, 1, .aload_n 3), (1450, 1, .iconst 0), (1451, 1, .laload), (1452, 2, .iload 7), (1454, 1, .i2l), (1455, 1, .lcmp), (1456, 3, .ifCond .eq 5), (1459, 1, .iconst 0), (1460, 1, .ireturn), (1461, 3, .goto 576), (1464, 1, .aload_n 1), (1465, 1, .aload_n 0), (1466, 2, .iload 5), (1468, 1, .iconst 1), (1469, 1, .iadd), (1470, 1, .iaload), (1471, 1, .aload_n 0), (1472, 2, .iload 5), (1474, 1, .iconst 2), (1475, 1, .iadd), (1476, 1, .iaload), (1477, 1, .aload_n 3), (1478, 3, .invokestatic 200), (1481, 2, .istore 6), (1483, 1, .aload_n 2), (1484, 1, .aload_n 0), (1485, 2, .iload 5), (1487, 1, .iconst 1), (1488, 1, .iadd), (1489, 1, .iaload), (1490, 1, .aload_n 0), (1491, 2, .iload 5), (1493, 1, .iconst 2), (1494, 1, .iadd), (1495, 1, .iaload), (1496, 3, .invokevirtual 202), (1499, 2, .istore 7), (1501, 1, .aload_n 2), (1502, 3, .invokevirtual 114), (1505, 2, .iload 6), (1507, 3, .if_icmp .eq 5), (1510, 1, .iconst 0), (1511, 1, .ireturn), (1512, 2, .iload 6), (1514, 3, .ifCond .ne 15), (1517, 1, .aload_n 3), (1518, 1, .iconst 0), (1519, 1, .laload), (1520, 2, .iload 7), (1522, 1, .i2l), (1523, 1, .lcmp), (1524, 3, .ifCond .eq 5), (1527, 1, .iconst 0), (1528, 1, .ireturn), (1529, 3, .goto 508), (1532, 1, .aload_n 1), (1533, 1, .aload_n 0), (1534, 2, .iload 5), (1536, 1, .iconst 1), (1537, 1, .iadd), (1538, 1, .iaload), (1539, 1, .aload_n 0), (1540, 2, .iload 5), (1542, 1, .iconst 2), (1543, 1, .iadd), (1544, 1, .iaload), (1545, 1, .aload_n 0), (1546, 2, .iload 5), (1548, 1, .iconst 3), (1549, 1, .iadd), (1550, 1, .iaload), (1551, 3, .ifCond .eq 7), (1554, 1, .iconst 1), (1555, 3, .goto 4), (1558, 1, .iconst 0), (1559, 1, .aload_n 3), (1560, 3, .invokestatic 203), (1563, 2, .istore 6), (1565, 1, .aload_n 2), (1566, 1, .aload_n 0), (1567, 2, .iload 5), (1569, 1, .iconst 1), (1570, 1, .iadd), (1571, 1, .iaload), (1572, 1, .aload_n 0), (1573, 2, .iload 5), (1575, 1, .iconst 2), (1576, 1, .iadd), (1577, 1, .iaload), (1578, 1, .aload_n 0), (1579, 2, .iload 5), (1581, 1, .iconst 3), (1582, 1, .iadd), (1583, 1, .iaload), (1584, 3, .ifCond .eq 7), (1587, 1, .iconst 1), (1588, 3, .goto 4), (1591, 1, .iconst 0), (1592, 3, .invokevirtual 205), (1595, 2, .istore 7), (1597, 1, .aload_n 2), (1598, 3, .invokevirtual 114), (1601, 2, .iload 6), (1603, 3, .if_icmp .eq 5), (1606, 1, .iconst 0), (1607, 1, .ireturn), (1608, 2, .iload 6), (1610, 3, .ifCond .ne 15), (1613, 1, .aload_n 3), (1614, 1, .iconst 0), (1615, 1, .laload), (1616, 2, .iload 7), (1618, 1, .i2l), (1619, 1, .lcmp), (1620, 3, .ifCond .eq 5), (1623, 1, .iconst 0), (1624, 1, .ireturn), (1625, 3, .goto 412), (1628, 1, .aload_n 1), (1629, 1, .aload_n 0), (1630, 2, .iload 5), (1632, 1, .iconst 1), (1633, 1, .iadd), (1634, 1, .iaload), (1635, 1, .aload_n 3), (1636, 3, .invokestatic 206), (1639, 2, .istore 6), (1641, 1, .aload_n 2), (1642, 1, .aload_n 0), (1643, 2, .iload 5), (1645, 1, .iconst 1), (1646, 1, .iadd), (1647, 1, .iaload), (1648, 3, .invokevirtual 208), (1651, 2, .istore 7), (1653, 1, .aload_n 2), (1654, 3, .invokevirtual 114), (1657, 2, .iload 6), (1659, 3, .if_icmp .eq 5), (1662, 1, .iconst 0), (1663, 1, .ireturn), (1664, 2, .iload 6), (1666, 3, .ifCond .ne 22), (1669, 1, .aload_n 3), (1670, 1, .iconst 0), (1671, 1, .laload), (1672, 2, .iload 7), (1674, 3, .ifCond .eq 7), (1677, 1, .lconst 1), (1678, 3, .goto 4), (1681, 1, .lconst 0), (1682, 1, .lcmp), (1683, 3, .ifCond .eq 5), (1686, 1, .iconst 0), (1687, 1, .ireturn), (1688, 3, .goto 349), (1691, 1, .aload_n 1), (1692, 1, .aload_n 0), (1693, 2, .iload 5), (1695, 1, .iconst 1), (1696, 1, .iadd), (1697, 1, .iaload), (1698, 2, .aload 4), (1700, 3, .invokestatic 209), (1703, 2, .istore 6), (1705, 1, .aload_n 2), (1706, 1, .aload_n 0), (1707, 2, .iload 5), (1709, 1, .iconst 1), (1710, 1, .iadd), (1711, 1, .iaload), (1712, 3, .invokevirtual 212), (1715, 2, .fstore 7), (1717, 1, .aload_n 2), (1718, 3, .invokevirtual 114), (1721, 2, .iload 6), (1723, 3, .if_icmp .eq 5), (1726, 1, .iconst 0), (1727, 1, .ireturn), (1728, 2, .iload 6), (1730, 3, .ifCond .ne 36), (1733, 2, .aload 4), (1735, 1, .iconst 0), (1736, 1, .daload), (1737, 2, .fload 7), (1739, 1, .f2d), (1740, 1, .dcmp .l), (1741, 3, .ifCond .eq 25), (1744, 2, .aload 4), (1746, 1, .iconst 0), (1747, 1, .daload), (1748, 2, .aload 4), (1750, 1, .iconst 0), (1751, 1, .daload), (1752, 1, .dcmp .l), (1753, 3, .ifCond .eq 11), (1756, 2, .fload 7), (1758, 2, .fload 7), (1760, 1, .fcmp .l), (1761, 3, .ifCond .ne 5), (1764, 1, .iconst 0), (1765, 1, .ireturn), (1766, 3, .goto 271), (1769, 1, .aload_n 1), (1770, 1, .aload_n 0), (1771, 2, .iload 5), (1773, 1, .iconst 1), (1774, 1, .iadd), (1775, 1, .iaload), (1776, 1, .aload_n 3), (1777, 3, .invokestatic 213), (1780, 2, .istore 6), (1782, 1, .aload_n 2), (1783, 1, .aload_n 0), (1784, 2, .iload 5), (1786, 1, .iconst 1), (1787, 1, .iadd), (1788, 1, .iaload), (1789, 3, .invokevirtual 215), (1792, 2, .istore 7), (1794, 1, .aload_n 2), (1795, 3, .invokevirtual 114), (1798, 2, .iload 6), (1800, 3, .if_icmp .eq 5), (1803, 1, .iconst 0), (1804, 1, .ireturn), (1805, 2, .iload 6), (1807, 3, .ifCond .ne 15), (1810, 1, .aload_n 3), (1811, 1, .iconst 0), (1812, 1, .laload), (1813, 2, .iload 7), (1815, 1, .i2l), (1816, 1, .lcmp), (1817, 3, .ifCond .eq 5), (1820, 1, .iconst 0), (1821, 1, .ireturn), (1822, 3, .goto 215), (1825, 1, .aload_n 1), (1826, 3, .invokevirtual 216), (1829, 2, .dstore 6), (1831, 1, .aload_n 2), (1832, 3, .invokevirtual 220), (1835, 2, .dstore 8), (1837, 2, .dload 6), (1839, 2, .dload 8), (1841, 1, .dcmp .l), (1842, 3, .ifCond .eq 21), (1845, 2, .dload 6), (1847, 2, .dload 6), (1849, 1, .dcmp .l), (1850, 3, .ifCond .eq 11), (1853, 2, .dload 8), (1855, 2, .dload 8), (1857, 1, .dcmp .l), (1858, 3, .ifCond .ne 5), (1861, 1, .iconst 0), (1862, 1, .ireturn), (1863, 3, .goto 174), (1866, 1, .aload_n 1), (1867, 3, .invokevirtual 221), (1870, 1, .aload_n 2), (1871, 3, .invokevirtual 225), (1874, 1, .lcmp), (1875, 3, .ifCond .eq 162), (1878, 1, .iconst 0), (1879, 1, .ireturn), (1880, 1, .aload_n 1), (1881, 1, .aload_n 3), (1882, 3, .invokestatic 226), (1885, 2, .istore 6), (1887, 1, .aload_n 2), (1888, 3, .invokevirtual 228), (1891, 2, .istore 7), (1893, 1, .aload_n 2), (1894, 3, .invokevirtual 114), (1897, 2, .iload 6), (1899, 3, .if_icmp .eq 5), (1902, 1, .iconst 0), (1903, 1, .ireturn), (1904, 2, .iload 6), (1906, 3, .ifCond .ne 15), (1909, 1, .aload_n 3), (1910, 1, .iconst 0), (1911, 1, .laload), (1912, 2, .iload 7), (1914, 1, .i2l), (1915, 1, .lcmp), (1916, 3, .ifCond .eq 5), (1919, 1, .iconst 0), (1920, 1, .ireturn), (1921, 3, .goto 116), (1924, 1, .aload_n 1), (1925, 3, .invokevirtual 229), (1928, 1, .aload_n 2), (1929, 3, .invokevirtual 232), (1932, 3, .if_icmp .eq 105), (1935, 1, .iconst 0), (1936, 1, .ireturn), (1937, 1, .aload_n 1), (1938, 1, .aload_n 3), (1939, 3, .invokestatic 233), (1942, 2, .istore 6), (1944, 1, .aload_n 2), (1945, 3, .invokevirtual 235), (1948, 2, .istore 7), (1950, 1, .aload_n 2), (1951, 3, .invokevirtual 114), (1954, 2, .iload 6), (1956, 3, .if_icmp .eq 5), (1959, 1, .iconst 0), (1960, 1, .ireturn), (1961, 2, .iload 6), (1963, 3, .ifCond .ne 15), (1966, 1, .aload_n 3), (1967, 1, .iconst 0), (1968, 1, .laload), (1969, 2, .iload 7), (1971, 1, .i2l), (1972, 1, .lcmp), (1973, 3, .ifCond .eq 5), (1976, 1, .iconst 0), (1977, 1, .ireturn), (1978, 3, .goto 59), (1981, 1, .aload_n 1), (1982, 1, .aload_n 0), (1983, 2, .iload 5), (1985, 1, .iconst 1), (1986, 1, .iadd), (1987, 1, .iaload), (1988, 1, .aload_n 3), (1989, 3, .invokestatic 236), (1992, 2, .istore 6), (1994, 1, .aload_n 2), (1995, 1, .aload_n 0), (1996, 2, .iload 5), (1998, 1, .iconst 1), (1999, 1, .iadd), (2000, 1, .iaload), (2001, 3, .invokevirtual 238), (2004, 2, .istore 7), (2006, 1, .aload_n 2), (2007, 3, .invokevirtual 114), (2010, 2, .iload 6), (2012, 3, .if_icmp .eq 5), (2015, 1, .iconst 0), (2016, 1, .ireturn), (2017, 2, .iload 6), (2019, 3, .ifCond .ne 15), (2022, 1, .aload_n 3), (2023, 1, .iconst 0), (2024, 1, .laload), (2025, 2, .iload 7), (2027, 1, .i2l), (2028, 1, .lcmp), (2029, 3, .ifCond .eq 5), (2032, 1, .iconst 0), (2033, 1, .ireturn), (2034, 3, .goto 3), (2037, 3, .iinc 5 6), (2040, 3, .goto (-2012)), (2043, 1, .iconst 1), (2044, 1, .ireturn)]
theorem hL_law : osDs cL_law KL_law := by
  show ∀ q ∈ KL_law, decode cL_law q.1 = .ok (q.2.2, q.2.1)
  decide +kernel
def qL_law_2037 (N L : Nat) (xs : Nat → Int32) (c28 : Nat × Nat × Nat × Nat × Nat × Int32 → osM Int32) (l0 : Nat) (l1 : Nat) (l2 : Nat) (l3 : Nat) (l4 : Nat) (l5 : Int32) : osM Int32 := c28 (l0, l1, l2, l3, l4, (l5 + (6 : Int32)))
def qL_law_305 (N L : Nat) (xs : Nat → Int32) (c28 : Nat × Nat × Nat × Nat × Nat × Int32 → osM Int32) (l0 : Nat) (l1 : Nat) (l2 : Nat) (l3 : Nat) (l4 : Nat) (l5 : Int32) : osM Int32 := qL_law_2037 N L xs c28 l0 l1 l2 l3 l4 l5
def qL_law_361 (N L : Nat) (xs : Nat → Int32) (c28 : Nat × Nat × Nat × Nat × Nat × Int32 → osM Int32) (l0 : Nat) (l1 : Nat) (l2 : Nat) (l3 : Nat) (l4 : Nat) (l5 : Int32) : osM Int32 := qL_law_2037 N L xs c28 l0 l1 l2 l3 l4 l5
def qL_law_417 (N L : Nat) (xs : Nat → Int32) (c28 : Nat × Nat × Nat × Nat × Nat × Int32 → osM Int32) (l0 : Nat) (l1 : Nat) (l2 : Nat) (l3 : Nat) (l4 : Nat) (l5 : Int32) : osM Int32 := qL_law_2037 N L xs c28 l0 l1 l2 l3 l4 l5
def qL_law_537 (N L : Nat) (xs : Nat → Int32) (c28 : Nat × Nat × Nat × Nat × Nat × Int32 → osM Int32) (l0 : Nat) (l1 : Nat) (l2 : Nat) (l3 : Nat) (l4 : Nat) (l5 : Int32) : osM Int32 := qL_law_2037 N L xs c28 l0 l1 l2 l3 l4 l5
def qL_law_593 (N L : Nat) (xs : Nat → Int32) (c28 : Nat × Nat × Nat × Nat × Nat × Int32 → osM Int32) (l0 : Nat) (l1 : Nat) (l2 : Nat) (l3 : Nat) (l4 : Nat) (l5 : Int32) : osM Int32 := qL_law_2037 N L xs c28 l0 l1 l2 l3 l4 l5
def qL_law_696 (N L : Nat) (xs : Nat → Int32) (c28 : Nat × Nat × Nat × Nat × Nat × Int32 → osM Int32) (l0 : Nat) (l1 : Nat) (l2 : Nat) (l3 : Nat) (l4 : Nat) (l5 : Int32) : osM Int32 := qL_law_2037 N L xs c28 l0 l1 l2 l3 l4 l5
def qL_law_690 (N L : Nat) (xs : Nat → Int32) (c28 : Nat × Nat × Nat × Nat × Nat × Int32 → osM Int32) (l0 : Nat) (l1 : Nat) (l2 : Nat) (l3 : Nat) (l4 : Nat) (l5 : Int32) (k0 : Int64) (k1 : Int64) : osM Int32 := osite ((lg_cmp k1 k0) = 0) (qL_law_696 N L xs c28 l0 l1 l2 l3 l4 l5) (osret (0 : Int32))
def qL_law_656 (N L : Nat) (xs : Nat → Int32) (c28 : Nat × Nat × Nat × Nat × Nat × Int32 → osM Int32) (l0 : Nat) (l1 : Nat) (l2 : Nat) (l3 : Nat) (l4 : Nat) (l5 : Int32) (l6 : Int32) (k0 : Int32) (k1 : Int32) (k2 : Int32) (k3 : Nat) : osM Int32 := osbind (osrecv [8] k3 (qX10_passes_ N k3 k2 k1 k0)) fun x1 => osbind (osrecv [8] l2 (qX10_thrown N l2)) fun x2 => osite (x2 = l6) (osite (l6 = 0) (osbind (osaJ 2 l3 (0 : Int32)) fun x3 => osite (x1 = 0) (qL_law_690 N L xs c28 l0 l1 l2 l3 l4 l5 (0 : Int64) x3) (qL_law_690 N L xs c28 l0 l1 l2 l3 l4 l5 (1 : Int64) x3)) (qL_law_696 N L xs c28 l0 l1 l2 l3 l4 l5)) (osret (0 : Int32))
def qL_law_623 (N L : Nat) (xs : Nat → Int32) (c28 : Nat × Nat × Nat × Nat × Nat × Int32 → osM Int32) (l0 : Nat) (l1 : Nat) (l2 : Nat) (l3 : Nat) (l4 : Nat) (l5 : Int32) (k0 : Int32) (k1 : Int32) (k2 : Int32) (k3 : Nat) : osM Int32 := osbind (qL_passes N k3 k2 k1 k0 l3) fun x1 => osbind (ossld L xs (l5 + (1 : Int32))) fun x2 => osbind (ossld L xs (l5 + (2 : Int32))) fun x3 => osbind (ossld L xs (l5 + (3 : Int32))) fun x4 => osite (x4 = 0) (qL_law_656 N L xs c28 l0 l1 l2 l3 l4 l5 x1 (0 : Int32) x3 x2 l2) (qL_law_656 N L xs c28 l0 l1 l2 l3 l4 l5 x1 (1 : Int32) x3 x2 l2)
def qL_law_792 (N L : Nat) (xs : Nat → Int32) (c28 : Nat × Nat × Nat × Nat × Nat × Int32 → osM Int32) (l0 : Nat) (l1 : Nat) (l2 : Nat) (l3 : Nat) (l4 : Nat) (l5 : Int32) : osM Int32 := qL_law_2037 N L xs c28 l0 l1 l2 l3 l4 l5
def qL_law_759 (N L : Nat) (xs : Nat → Int32) (c28 : Nat × Nat × Nat × Nat × Nat × Int32 → osM Int32) (l0 : Nat) (l1 : Nat) (l2 : Nat) (l3 : Nat) (l4 : Nat) (l5 : Int32) (l6 : Int32) (k0 : Int32) (k1 : Int32) (k2 : Int32) (k3 : Nat) : osM Int32 := osbind (osrecv [8] k3 (qX10_distance N k3 k2 k1 k0)) fun x1 => osbind (osrecv [8] l2 (qX10_thrown N l2)) fun x2 => osite (x2 = l6) (osite (l6 = 0) (osbind (osaJ 2 l3 (0 : Int32)) fun x3 => osite ((lg_cmp x3 (x1.toInt64)) = 0) (qL_law_792 N L xs c28 l0 l1 l2 l3 l4 l5) (osret (0 : Int32))) (qL_law_792 N L xs c28 l0 l1 l2 l3 l4 l5)) (osret (0 : Int32))
def qL_law_726 (N L : Nat) (xs : Nat → Int32) (c28 : Nat × Nat × Nat × Nat × Nat × Int32 → osM Int32) (l0 : Nat) (l1 : Nat) (l2 : Nat) (l3 : Nat) (l4 : Nat) (l5 : Int32) (k0 : Int32) (k1 : Int32) (k2 : Int32) (k3 : Nat) : osM Int32 := osbind (qL_distance N k3 k2 k1 k0 l3) fun x1 => osbind (ossld L xs (l5 + (1 : Int32))) fun x2 => osbind (ossld L xs (l5 + (2 : Int32))) fun x3 => osbind (ossld L xs (l5 + (3 : Int32))) fun x4 => osite (x4 = 0) (qL_law_759 N L xs c28 l0 l1 l2 l3 l4 l5 x1 (0 : Int32) x3 x2 l2) (qL_law_759 N L xs c28 l0 l1 l2 l3 l4 l5 x1 (1 : Int32) x3 x2 l2)
def qL_law_860 (N L : Nat) (xs : Nat → Int32) (c28 : Nat × Nat × Nat × Nat × Nat × Int32 → osM Int32) (l0 : Nat) (l1 : Nat) (l2 : Nat) (l3 : Nat) (l4 : Nat) (l5 : Int32) : osM Int32 := qL_law_2037 N L xs c28 l0 l1 l2 l3 l4 l5
def qL_law_954 (N L : Nat) (xs : Nat → Int32) (c28 : Nat × Nat × Nat × Nat × Nat × Int32 → osM Int32) (l0 : Nat) (l1 : Nat) (l2 : Nat) (l3 : Nat) (l4 : Nat) (l5 : Int32) : osM Int32 := qL_law_2037 N L xs c28 l0 l1 l2 l3 l4 l5
def qL_law_998 (N L : Nat) (xs : Nat → Int32) (c28 : Nat × Nat × Nat × Nat × Nat × Int32 → osM Int32) (l0 : Nat) (l1 : Nat) (l2 : Nat) (l3 : Nat) (l4 : Nat) (l5 : Int32) : osM Int32 := qL_law_2037 N L xs c28 l0 l1 l2 l3 l4 l5
def qL_law_1066 (N L : Nat) (xs : Nat → Int32) (c28 : Nat × Nat × Nat × Nat × Nat × Int32 → osM Int32) (l0 : Nat) (l1 : Nat) (l2 : Nat) (l3 : Nat) (l4 : Nat) (l5 : Int32) : osM Int32 := qL_law_2037 N L xs c28 l0 l1 l2 l3 l4 l5
def qL_law_1110 (N L : Nat) (xs : Nat → Int32) (c28 : Nat × Nat × Nat × Nat × Nat × Int32 → osM Int32) (l0 : Nat) (l1 : Nat) (l2 : Nat) (l3 : Nat) (l4 : Nat) (l5 : Int32) : osM Int32 := qL_law_2037 N L xs c28 l0 l1 l2 l3 l4 l5
def qL_law_1173 (N L : Nat) (xs : Nat → Int32) (c28 : Nat × Nat × Nat × Nat × Nat × Int32 → osM Int32) (l0 : Nat) (l1 : Nat) (l2 : Nat) (l3 : Nat) (l4 : Nat) (l5 : Int32) : osM Int32 := qL_law_2037 N L xs c28 l0 l1 l2 l3 l4 l5
def qL_law_1167 (N L : Nat) (xs : Nat → Int32) (c28 : Nat × Nat × Nat × Nat × Nat × Int32 → osM Int32) (l0 : Nat) (l1 : Nat) (l2 : Nat) (l3 : Nat) (l4 : Nat) (l5 : Int32) (k0 : Int64) (k1 : Int64) : osM Int32 := osite ((lg_cmp k1 k0) = 0) (qL_law_1173 N L xs c28 l0 l1 l2 l3 l4 l5) (osret (0 : Int32))
def qL_law_1248 (N L : Nat) (xs : Nat → Int32) (c28 : Nat × Nat × Nat × Nat × Nat × Int32 → osM Int32) (l0 : Nat) (l1 : Nat) (l2 : Nat) (l3 : Nat) (l4 : Nat) (l5 : Int32) : osM Int32 := qL_law_2037 N L xs c28 l0 l1 l2 l3 l4 l5
def qL_law_1242 (N L : Nat) (xs : Nat → Int32) (c28 : Nat × Nat × Nat × Nat × Nat × Int32 → osM Int32) (l0 : Nat) (l1 : Nat) (l2 : Nat) (l3 : Nat) (l4 : Nat) (l5 : Int32) (k0 : Int64) (k1 : Int64) : osM Int32 := osite ((lg_cmp k1 k0) = 0) (qL_law_1248 N L xs c28 l0 l1 l2 l3 l4 l5) (osret (0 : Int32))
def qL_law_1292 (N L : Nat) (xs : Nat → Int32) (c28 : Nat × Nat × Nat × Nat × Nat × Int32 → osM Int32) (l0 : Nat) (l1 : Nat) (l2 : Nat) (l3 : Nat) (l4 : Nat) (l5 : Int32) : osM Int32 := qL_law_2037 N L xs c28 l0 l1 l2 l3 l4 l5
def qL_law_1336 (N L : Nat) (xs : Nat → Int32) (c28 : Nat × Nat × Nat × Nat × Nat × Int32 → osM Int32) (l0 : Nat) (l1 : Nat) (l2 : Nat) (l3 : Nat) (l4 : Nat) (l5 : Int32) : osM Int32 := qL_law_2037 N L xs c28 l0 l1 l2 l3 l4 l5
def qL_law_1380 (N L : Nat) (xs : Nat → Int32) (c28 : Nat × Nat × Nat × Nat × Nat × Int32 → osM Int32) (l0 : Nat) (l1 : Nat) (l2 : Nat) (l3 : Nat) (l4 : Nat) (l5 : Int32) : osM Int32 := qL_law_2037 N L xs c28 l0 l1 l2 l3 l4 l5
def qL_law_1461 (N L : Nat) (xs : Nat → Int32) (c28 : Nat × Nat × Nat × Nat × Nat × Int32 → osM Int32) (l0 : Nat) (l1 : Nat) (l2 : Nat) (l3 : Nat) (l4 : Nat) (l5 : Int32) : osM Int32 := qL_law_2037 N L xs c28 l0 l1 l2 l3 l4 l5
def qL_law_1529 (N L : Nat) (xs : Nat → Int32) (c28 : Nat × Nat × Nat × Nat × Nat × Int32 → osM Int32) (l0 : Nat) (l1 : Nat) (l2 : Nat) (l3 : Nat) (l4 : Nat) (l5 : Int32) : osM Int32 := qL_law_2037 N L xs c28 l0 l1 l2 l3 l4 l5
def qL_law_1625 (N L : Nat) (xs : Nat → Int32) (c28 : Nat × Nat × Nat × Nat × Nat × Int32 → osM Int32) (l0 : Nat) (l1 : Nat) (l2 : Nat) (l3 : Nat) (l4 : Nat) (l5 : Int32) : osM Int32 := qL_law_2037 N L xs c28 l0 l1 l2 l3 l4 l5
def qL_law_1592 (N L : Nat) (xs : Nat → Int32) (c28 : Nat × Nat × Nat × Nat × Nat × Int32 → osM Int32) (l0 : Nat) (l1 : Nat) (l2 : Nat) (l3 : Nat) (l4 : Nat) (l5 : Int32) (l6 : Int32) (k0 : Int32) (k1 : Int32) (k2 : Int32) (k3 : Nat) : osM Int32 := osbind (osrecv [8] k3 (qX10_reach N k3 k2 k1 k0)) fun x1 => osbind (osrecv [8] l2 (qX10_thrown N l2)) fun x2 => osite (x2 = l6) (osite (l6 = 0) (osbind (osaJ 2 l3 (0 : Int32)) fun x3 => osite ((lg_cmp x3 (x1.toInt64)) = 0) (qL_law_1625 N L xs c28 l0 l1 l2 l3 l4 l5) (osret (0 : Int32))) (qL_law_1625 N L xs c28 l0 l1 l2 l3 l4 l5)) (osret (0 : Int32))
def qL_law_1559 (N L : Nat) (xs : Nat → Int32) (c28 : Nat × Nat × Nat × Nat × Nat × Int32 → osM Int32) (l0 : Nat) (l1 : Nat) (l2 : Nat) (l3 : Nat) (l4 : Nat) (l5 : Int32) (k0 : Int32) (k1 : Int32) (k2 : Int32) (k3 : Nat) : osM Int32 := osbind (qL_reach N k3 k2 k1 k0 l3) fun x1 => osbind (ossld L xs (l5 + (1 : Int32))) fun x2 => osbind (ossld L xs (l5 + (2 : Int32))) fun x3 => osbind (ossld L xs (l5 + (3 : Int32))) fun x4 => osite (x4 = 0) (qL_law_1592 N L xs c28 l0 l1 l2 l3 l4 l5 x1 (0 : Int32) x3 x2 l2) (qL_law_1592 N L xs c28 l0 l1 l2 l3 l4 l5 x1 (1 : Int32) x3 x2 l2)
def qL_law_1688 (N L : Nat) (xs : Nat → Int32) (c28 : Nat × Nat × Nat × Nat × Nat × Int32 → osM Int32) (l0 : Nat) (l1 : Nat) (l2 : Nat) (l3 : Nat) (l4 : Nat) (l5 : Int32) : osM Int32 := qL_law_2037 N L xs c28 l0 l1 l2 l3 l4 l5
def qL_law_1682 (N L : Nat) (xs : Nat → Int32) (c28 : Nat × Nat × Nat × Nat × Nat × Int32 → osM Int32) (l0 : Nat) (l1 : Nat) (l2 : Nat) (l3 : Nat) (l4 : Nat) (l5 : Int32) (k0 : Int64) (k1 : Int64) : osM Int32 := osite ((lg_cmp k1 k0) = 0) (qL_law_1688 N L xs c28 l0 l1 l2 l3 l4 l5) (osret (0 : Int32))
def qL_law_1766 (N L : Nat) (xs : Nat → Int32) (c28 : Nat × Nat × Nat × Nat × Nat × Int32 → osM Int32) (l0 : Nat) (l1 : Nat) (l2 : Nat) (l3 : Nat) (l4 : Nat) (l5 : Int32) : osM Int32 := qL_law_2037 N L xs c28 l0 l1 l2 l3 l4 l5
def qL_law_1764 (N L : Nat) (xs : Nat → Int32) (c28 : Nat × Nat × Nat × Nat × Nat × Int32 → osM Int32) : osM Int32 := osret (0 : Int32)
def qL_law_1822 (N L : Nat) (xs : Nat → Int32) (c28 : Nat × Nat × Nat × Nat × Nat × Int32 → osM Int32) (l0 : Nat) (l1 : Nat) (l2 : Nat) (l3 : Nat) (l4 : Nat) (l5 : Int32) : osM Int32 := qL_law_2037 N L xs c28 l0 l1 l2 l3 l4 l5
def qL_law_1863 (N L : Nat) (xs : Nat → Int32) (c28 : Nat × Nat × Nat × Nat × Nat × Int32 → osM Int32) (l0 : Nat) (l1 : Nat) (l2 : Nat) (l3 : Nat) (l4 : Nat) (l5 : Int32) : osM Int32 := qL_law_2037 N L xs c28 l0 l1 l2 l3 l4 l5
def qL_law_1861 (N L : Nat) (xs : Nat → Int32) (c28 : Nat × Nat × Nat × Nat × Nat × Int32 → osM Int32) : osM Int32 := osret (0 : Int32)
def qL_law_1921 (N L : Nat) (xs : Nat → Int32) (c28 : Nat × Nat × Nat × Nat × Nat × Int32 → osM Int32) (l0 : Nat) (l1 : Nat) (l2 : Nat) (l3 : Nat) (l4 : Nat) (l5 : Int32) : osM Int32 := qL_law_2037 N L xs c28 l0 l1 l2 l3 l4 l5
def qL_law_1978 (N L : Nat) (xs : Nat → Int32) (c28 : Nat × Nat × Nat × Nat × Nat × Int32 → osM Int32) (l0 : Nat) (l1 : Nat) (l2 : Nat) (l3 : Nat) (l4 : Nat) (l5 : Int32) : osM Int32 := qL_law_2037 N L xs c28 l0 l1 l2 l3 l4 l5
def qL_law_2034 (N L : Nat) (xs : Nat → Int32) (c28 : Nat × Nat × Nat × Nat × Nat × Int32 → osM Int32) (l0 : Nat) (l1 : Nat) (l2 : Nat) (l3 : Nat) (l4 : Nat) (l5 : Int32) : osM Int32 := qL_law_2037 N L xs c28 l0 l1 l2 l3 l4 l5
def bL_law_28 (N L : Nat) (xs : Nat → Int32) (c28 : Nat × Nat × Nat × Nat × Nat × Int32 → osM Int32) (l0 : Nat) (l1 : Nat) (l2 : Nat) (l3 : Nat) (l4 : Nat) (l5 : Int32) : osM Int32 := osbind (osslen2 L) fun x1 => osite ((x1 - (6 : Int32)) < l5) (osret (1 : Int32)) (osbind (ossld L xs l5) fun x2 => osswitch (x2 &&& (63 : Int32)) 0 [osbind (ossld L xs (l5 + (1 : Int32))) fun x3 => osbind (ossld L xs (l5 + (2 : Int32))) fun x4 => osbind (ossld L xs (l5 + (3 : Int32))) fun x5 => osbind (ossld L xs (l5 + (4 : Int32))) fun x6 => osbind (ossld L xs (l5 + (5 : Int32))) fun x7 => osbind (qL_feed N l1 x3 x4 x5 x6 x7 l3) fun x8 => osbind (ossld L xs (l5 + (1 : Int32))) fun x9 => osbind (ossld L xs (l5 + (2 : Int32))) fun x10 => osbind (ossld L xs (l5 + (3 : Int32))) fun x11 => osbind (ossld L xs (l5 + (4 : Int32))) fun x12 => osbind (ossld L xs (l5 + (5 : Int32))) fun x13 => osbind (osrecv [8] l2 (qX10_feed N l2 x9 x10 x11 x12 x13)) fun x14 => osbind (osrecv [8] l2 (qX10_thrown N l2)) fun x15 => osite (x15 = x8) (osite (x8 = 0) (osbind (osaJ 2 l3 (0 : Int32)) fun x16 => osite ((lg_cmp x16 (x14.toInt64)) = 0) (qL_law_305 N L xs c28 l0 l1 l2 l3 l4 l5) (osret (0 : Int32))) (qL_law_305 N L xs c28 l0 l1 l2 l3 l4 l5)) (osret (0 : Int32)), osbind (ossld L xs (l5 + (1 : Int32))) fun x17 => osbind (qL_load N l1 x17 l3) fun x18 => osbind (ossld L xs (l5 + (1 : Int32))) fun x19 => osbind (osrecv [8] l2 (qX10_load N l2 x19)) fun x20 => osbind (osrecv [8] l2 (qX10_thrown N l2)) fun x21 => osite (x21 = x18) (osite (x18 = 0) (osbind (osaJ 2 l3 (0 : Int32)) fun x22 => osite ((lg_cmp x22 (x20.toInt64)) = 0) (qL_law_361 N L xs c28 l0 l1 l2 l3 l4 l5) (osret (0 : Int32))) (qL_law_361 N L xs c28 l0 l1 l2 l3 l4 l5)) (osret (0 : Int32)), osbind (ossld L xs (l5 + (1 : Int32))) fun x23 => osbind (qL_tell N l1 x23 l3) fun x24 => osbind (ossld L xs (l5 + (1 : Int32))) fun x25 => osbind (osrecv [8] l2 (qX10_tell N l2 x25)) fun x26 => osbind (osrecv [8] l2 (qX10_thrown N l2)) fun x27 => osite (x27 = x24) (osite (x24 = 0) (osbind (osaJ 2 l3 (0 : Int32)) fun x28 => osite ((lg_cmp x28 (x26.toInt64)) = 0) (qL_law_417 N L xs c28 l0 l1 l2 l3 l4 l5) (osret (0 : Int32))) (qL_law_417 N L xs c28 l0 l1 l2 l3 l4 l5)) (osret (0 : Int32)), osbind (osrecv [7] l1 (qX9_errorCode N l1)) fun x29 => osbind (osrecv [8] l2 (qX10_errorCode N l2)) fun x30 => osite (x29 = x30) (qL_law_2037 N L xs c28 l0 l1 l2 l3 l4 l5) (osret (0 : Int32)), osbind (osrecv [7] l1 (qX9_errorPosition N l1)) fun x31 => osbind (osrecv [8] l2 (qX10_errorPosition N l2)) fun x32 => osite (x31 = x32) (qL_law_2037 N L xs c28 l0 l1 l2 l3 l4 l5) (osret (0 : Int32)), osbind (osrecv [7] l1 (qX9_areas N l1)) fun x33 => osbind (osrecv [8] l2 (qX10_areas N l2)) fun x34 => osite (x33 = x34) (qL_law_2037 N L xs c28 l0 l1 l2 l3 l4 l5) (osret (0 : Int32)), osbind (osrecv [7] l1 (qX9_powers N l1)) fun x35 => osbind (osrecv [8] l2 (qX10_powers N l2)) fun x36 => osite (x35 = x36) (qL_law_2037 N L xs c28 l0 l1 l2 l3 l4 l5) (osret (0 : Int32)), osbind (ossld L xs (l5 + (1 : Int32))) fun x37 => osbind (ossld L xs (l5 + (2 : Int32))) fun x38 => osbind (qL_area N l1 x37 x38 l3) fun x39 => osbind (ossld L xs (l5 + (1 : Int32))) fun x40 => osbind (ossld L xs (l5 + (2 : Int32))) fun x41 => osbind (osrecv [8] l2 (qX10_area N l2 x40 x41)) fun x42 => osbind (osrecv [8] l2 (qX10_thrown N l2)) fun x43 => osite (x43 = x39) (osite (x39 = 0) (osbind (osaJ 2 l3 (0 : Int32)) fun x44 => osite ((lg_cmp x44 (x42.toInt64)) = 0) (qL_law_537 N L xs c28 l0 l1 l2 l3 l4 l5) (osret (0 : Int32))) (qL_law_537 N L xs c28 l0 l1 l2 l3 l4 l5)) (osret (0 : Int32)), osbind (ossld L xs (l5 + (1 : Int32))) fun x45 => osbind (qL_named N l1 x45 l3) fun x46 => osbind (ossld L xs (l5 + (1 : Int32))) fun x47 => osbind (osrecv [8] l2 (qX10_named N l2 x47)) fun x48 => osbind (osrecv [8] l2 (qX10_thrown N l2)) fun x49 => osite (x49 = x46) (osite (x46 = 0) (osbind (osaJ 2 l3 (0 : Int32)) fun x50 => osite ((lg_cmp x50 (x48.toInt64)) = 0) (qL_law_593 N L xs c28 l0 l1 l2 l3 l4 l5) (osret (0 : Int32))) (qL_law_593 N L xs c28 l0 l1 l2 l3 l4 l5)) (osret (0 : Int32)), osbind (ossld L xs (l5 + (1 : Int32))) fun x51 => osbind (ossld L xs (l5 + (2 : Int32))) fun x52 => osbind (ossld L xs (l5 + (3 : Int32))) fun x53 => osite (x53 = 0) (qL_law_623 N L xs c28 l0 l1 l2 l3 l4 l5 (0 : Int32) x52 x51 l1) (qL_law_623 N L xs c28 l0 l1 l2 l3 l4 l5 (1 : Int32) x52 x51 l1), osbind (ossld L xs (l5 + (1 : Int32))) fun x54 => osbind (ossld L xs (l5 + (2 : Int32))) fun x55 => osbind (ossld L xs (l5 + (3 : Int32))) fun x56 => osite (x56 = 0) (qL_law_726 N L xs c28 l0 l1 l2 l3 l4 l5 (0 : Int32) x55 x54 l1) (qL_law_726 N L xs c28 l0 l1 l2 l3 l4 l5 (1 : Int32) x55 x54 l1), osbind (ossld L xs (l5 + (1 : Int32))) fun x57 => osbind (ossld L xs (l5 + (2 : Int32))) fun x58 => osbind (qL_power N l1 x57 x58 l3) fun x59 => osbind (ossld L xs (l5 + (1 : Int32))) fun x60 => osbind (ossld L xs (l5 + (2 : Int32))) fun x61 => osbind (osrecv [8] l2 (qX10_power N l2 x60 x61)) fun x62 => osbind (osrecv [8] l2 (qX10_thrown N l2)) fun x63 => osite (x63 = x59) (osite (x59 = 0) (osbind (osaJ 2 l3 (0 : Int32)) fun x64 => osite ((lg_cmp x64 (x62.toInt64)) = 0) (qL_law_860 N L xs c28 l0 l1 l2 l3 l4 l5) (osret (0 : Int32))) (qL_law_860 N L xs c28 l0 l1 l2 l3 l4 l5)) (osret (0 : Int32)), osbind (osrecv [7] l1 (qX9_phase N l1)) fun x65 => osbind (osrecv [8] l2 (qX10_phase N l2)) fun x66 => osite (x65 = x66) (qL_law_2037 N L xs c28 l0 l1 l2 l3 l4 l5) (osret (0 : Int32)), osbind (osrecv [7] l1 (qX9_turn N l1)) fun x67 => osbind (osrecv [8] l2 (qX10_turn N l2)) fun x68 => osite (x67 = x68) (qL_law_2037 N L xs c28 l0 l1 l2 l3 l4 l5) (osret (0 : Int32)), osbind (ossld L xs (l5 + (1 : Int32))) fun x69 => osbind (ossld L xs (l5 + (2 : Int32))) fun x70 => osbind (qL_order N l1 x69 x70 l3) fun x71 => osbind (ossld L xs (l5 + (1 : Int32))) fun x72 => osbind (ossld L xs (l5 + (2 : Int32))) fun x73 => osbind (osrecv [8] l2 (qX10_order N l2 x72 x73)) fun x74 => osbind (osrecv [8] l2 (qX10_thrown N l2)) fun x75 => osite (x75 = x71) (osite (x71 = 0) (osbind (osaJ 2 l3 (0 : Int32)) fun x76 => osite ((lg_cmp x76 (x74.toInt64)) = 0) (qL_law_954 N L xs c28 l0 l1 l2 l3 l4 l5) (osret (0 : Int32))) (qL_law_954 N L xs c28 l0 l1 l2 l3 l4 l5)) (osret (0 : Int32)), osbind (qL_settle N l1 l3) fun x77 => osbind (osrecv [8] l2 (qX10_settle N l2)) fun x78 => osbind (osrecv [8] l2 (qX10_thrown N l2)) fun x79 => osite (x79 = x77) (osite (x77 = 0) (osbind (osaJ 2 l3 (0 : Int32)) fun x80 => osite ((lg_cmp x80 (x78.toInt64)) = 0) (qL_law_998 N L xs c28 l0 l1 l2 l3 l4 l5) (osret (0 : Int32))) (qL_law_998 N L xs c28 l0 l1 l2 l3 l4 l5)) (osret (0 : Int32)), osbind (ossld L xs (l5 + (1 : Int32))) fun x81 => osbind (ossld L xs (l5 + (2 : Int32))) fun x82 => osbind (qL_result N l1 x81 x82 l3) fun x83 => osbind (ossld L xs (l5 + (1 : Int32))) fun x84 => osbind (ossld L xs (l5 + (2 : Int32))) fun x85 => osbind (osrecv [8] l2 (qX10_result N l2 x84 x85)) fun x86 => osbind (osrecv [8] l2 (qX10_thrown N l2)) fun x87 => osite (x87 = x83) (osite (x83 = 0) (osbind (osaJ 2 l3 (0 : Int32)) fun x88 => osite ((lg_cmp x88 (x86.toInt64)) = 0) (qL_law_1066 N L xs c28 l0 l1 l2 l3 l4 l5) (osret (0 : Int32))) (qL_law_1066 N L xs c28 l0 l1 l2 l3 l4 l5)) (osret (0 : Int32)), osbind (qL_outcomes N l1 l3) fun x89 => osbind (osrecv [8] l2 (qX10_outcomes N l2)) fun x90 => osbind (osrecv [8] l2 (qX10_thrown N l2)) fun x91 => osite (x91 = x89) (osite (x89 = 0) (osbind (osaJ 2 l3 (0 : Int32)) fun x92 => osite ((lg_cmp x92 (x90.toInt64)) = 0) (qL_law_1110 N L xs c28 l0 l1 l2 l3 l4 l5) (osret (0 : Int32))) (qL_law_1110 N L xs c28 l0 l1 l2 l3 l4 l5)) (osret (0 : Int32)), osbind (ossld L xs (l5 + (1 : Int32))) fun x93 => osbind (qL_isContested N l1 x93 l3) fun x94 => osbind (ossld L xs (l5 + (1 : Int32))) fun x95 => osbind (osrecv [8] l2 (qX10_isContested N l2 x95)) fun x96 => osbind (osrecv [8] l2 (qX10_thrown N l2)) fun x97 => osite (x97 = x94) (osite (x94 = 0) (osbind (osaJ 2 l3 (0 : Int32)) fun x98 => osite (x96 = 0) (qL_law_1167 N L xs c28 l0 l1 l2 l3 l4 l5 (0 : Int64) x98) (qL_law_1167 N L xs c28 l0 l1 l2 l3 l4 l5 (1 : Int64) x98)) (qL_law_1173 N L xs c28 l0 l1 l2 l3 l4 l5)) (osret (0 : Int32)), osbind (ossld L xs (l5 + (1 : Int32))) fun x99 => osbind (ossld L xs (l5 + (2 : Int32))) fun x100 => osbind (qL_mayRetreat N l1 x99 x100 l3) fun x101 => osbind (ossld L xs (l5 + (1 : Int32))) fun x102 => osbind (ossld L xs (l5 + (2 : Int32))) fun x103 => osbind (osrecv [8] l2 (qX10_mayRetreat N l2 x102 x103)) fun x104 => osbind (osrecv [8] l2 (qX10_thrown N l2)) fun x105 => osite (x105 = x101) (osite (x101 = 0) (osbind (osaJ 2 l3 (0 : Int32)) fun x106 => osite (x104 = 0) (qL_law_1242 N L xs c28 l0 l1 l2 l3 l4 l5 (0 : Int64) x106) (qL_law_1242 N L xs c28 l0 l1 l2 l3 l4 l5 (1 : Int64) x106)) (qL_law_1248 N L xs c28 l0 l1 l2 l3 l4 l5)) (osret (0 : Int32)), osbind (qL_endRetreats N l1 l3) fun x107 => osbind (osrecv [8] l2 (qX10_endRetreats N l2)) fun x108 => osbind (osrecv [8] l2 (qX10_thrown N l2)) fun x109 => osite (x109 = x107) (osite (x107 = 0) (osbind (osaJ 2 l3 (0 : Int32)) fun x110 => osite ((lg_cmp x110 (x108.toInt64)) = 0) (qL_law_1292 N L xs c28 l0 l1 l2 l3 l4 l5) (osret (0 : Int32))) (qL_law_1292 N L xs c28 l0 l1 l2 l3 l4 l5)) (osret (0 : Int32)), osbind (qL_endBuilds N l1 l3) fun x111 => osbind (osrecv [8] l2 (qX10_endBuilds N l2)) fun x112 => osbind (osrecv [8] l2 (qX10_thrown N l2)) fun x113 => osite (x113 = x111) (osite (x111 = 0) (osbind (osaJ 2 l3 (0 : Int32)) fun x114 => osite ((lg_cmp x114 (x112.toInt64)) = 0) (qL_law_1336 N L xs c28 l0 l1 l2 l3 l4 l5) (osret (0 : Int32))) (qL_law_1336 N L xs c28 l0 l1 l2 l3 l4 l5)) (osret (0 : Int32)), osbind (qL_undo N l1 l3) fun x115 => osbind (osrecv [8] l2 (qX10_undo N l2)) fun x116 => osbind (osrecv [8] l2 (qX10_thrown N l2)) fun x117 => osite (x117 = x115) (osite (x115 = 0) (osbind (osaJ 2 l3 (0 : Int32)) fun x118 => osite ((lg_cmp x118 (x116.toInt64)) = 0) (qL_law_1380 N L xs c28 l0 l1 l2 l3 l4 l5) (osret (0 : Int32))) (qL_law_1380 N L xs c28 l0 l1 l2 l3 l4 l5)) (osret (0 : Int32)), osbind (osrecv [7] l1 (qX9_undoCount N l1)) fun x119 => osbind (osrecv [8] l2 (qX10_undoCount N l2)) fun x120 => osite (x119 = x120) (qL_law_2037 N L xs c28 l0 l1 l2 l3 l4 l5) (osret (0 : Int32)), osbind (ossld L xs (l5 + (1 : Int32))) fun x121 => osbind (ossld L xs (l5 + (2 : Int32))) fun x122 => osbind (qL_foresee N l1 x121 x122 l3) fun x123 => osbind (ossld L xs (l5 + (1 : Int32))) fun x124 => osbind (ossld L xs (l5 + (2 : Int32))) fun x125 => osbind (osrecv [8] l2 (qX10_foresee N l2 x124 x125)) fun x126 => osbind (osrecv [8] l2 (qX10_thrown N l2)) fun x127 => osite (x127 = x123) (osite (x123 = 0) (osbind (osaJ 2 l3 (0 : Int32)) fun x128 => osite ((lg_cmp x128 (x126.toInt64)) = 0) (qL_law_1461 N L xs c28 l0 l1 l2 l3 l4 l5) (osret (0 : Int32))) (qL_law_1461 N L xs c28 l0 l1 l2 l3 l4 l5)) (osret (0 : Int32)), osbind (ossld L xs (l5 + (1 : Int32))) fun x129 => osbind (ossld L xs (l5 + (2 : Int32))) fun x130 => osbind (qL_foreseeMove N l1 x129 x130 l3) fun x131 => osbind (ossld L xs (l5 + (1 : Int32))) fun x132 => osbind (ossld L xs (l5 + (2 : Int32))) fun x133 => osbind (osrecv [8] l2 (qX10_foreseeMove N l2 x132 x133)) fun x134 => osbind (osrecv [8] l2 (qX10_thrown N l2)) fun x135 => osite (x135 = x131) (osite (x131 = 0) (osbind (osaJ 2 l3 (0 : Int32)) fun x136 => osite ((lg_cmp x136 (x134.toInt64)) = 0) (qL_law_1529 N L xs c28 l0 l1 l2 l3 l4 l5) (osret (0 : Int32))) (qL_law_1529 N L xs c28 l0 l1 l2 l3 l4 l5)) (osret (0 : Int32)), osbind (ossld L xs (l5 + (1 : Int32))) fun x137 => osbind (ossld L xs (l5 + (2 : Int32))) fun x138 => osbind (ossld L xs (l5 + (3 : Int32))) fun x139 => osite (x139 = 0) (qL_law_1559 N L xs c28 l0 l1 l2 l3 l4 l5 (0 : Int32) x138 x137 l1) (qL_law_1559 N L xs c28 l0 l1 l2 l3 l4 l5 (1 : Int32) x138 x137 l1), osbind (ossld L xs (l5 + (1 : Int32))) fun x140 => osbind (qL_isThreatened N l1 x140 l3) fun x141 => osbind (ossld L xs (l5 + (1 : Int32))) fun x142 => osbind (osrecv [8] l2 (qX10_isThreatened N l2 x142)) fun x143 => osbind (osrecv [8] l2 (qX10_thrown N l2)) fun x144 => osite (x144 = x141) (osite (x141 = 0) (osbind (osaJ 2 l3 (0 : Int32)) fun x145 => osite (x143 = 0) (qL_law_1682 N L xs c28 l0 l1 l2 l3 l4 l5 (0 : Int64) x145) (qL_law_1682 N L xs c28 l0 l1 l2 l3 l4 l5 (1 : Int64) x145)) (qL_law_1688 N L xs c28 l0 l1 l2 l3 l4 l5)) (osret (0 : Int32)), osbind (ossld L xs (l5 + (1 : Int32))) fun x146 => osbind (qL_share N l1 x146 l4) fun x147 => osbind (ossld L xs (l5 + (1 : Int32))) fun x148 => osbind (osrecv [8] l2 (qX10_share N l2 x148)) fun x149 => osbind (osrecv [8] l2 (qX10_thrown N l2)) fun x150 => osite (x150 = x147) (osite (x147 = 0) (osbind (osaD 4 l4 (0 : Int32)) fun x151 => osguard (osn64 (FP.f2d x149)) (osite ((Op.cmpValue (FP.dcmp x151 (FP.f2d x149)) .l) = 0) (qL_law_1766 N L xs c28 l0 l1 l2 l3 l4 l5) (osbind (osaD 4 l4 (0 : Int32)) fun x153 => osbind (osaD 4 l4 (0 : Int32)) fun x154 => osite ((Op.cmpValue (FP.dcmp x153 x154) .l) = 0) (qL_law_1764 N L xs c28 ) (osite ((Op.cmpValue (FP.fcmp x149 x149) .l) = 0) (qL_law_1764 N L xs c28 ) (qL_law_1766 N L xs c28 l0 l1 l2 l3 l4 l5))))) (qL_law_1766 N L xs c28 l0 l1 l2 l3 l4 l5)) (osret (0 : Int32)), osbind (ossld L xs (l5 + (1 : Int32))) fun x155 => osbind (qL_shareBits N l1 x155 l3) fun x156 => osbind (ossld L xs (l5 + (1 : Int32))) fun x157 => osbind (osrecv [8] l2 (qX10_shareBits N l2 x157)) fun x158 => osbind (osrecv [8] l2 (qX10_thrown N l2)) fun x159 => osite (x159 = x156) (osite (x156 = 0) (osbind (osaJ 2 l3 (0 : Int32)) fun x160 => osite ((lg_cmp x160 (x158.toInt64)) = 0) (qL_law_1822 N L xs c28 l0 l1 l2 l3 l4 l5) (osret (0 : Int32))) (qL_law_1822 N L xs c28 l0 l1 l2 l3 l4 l5)) (osret (0 : Int32)), osbind (osrecv [7] l1 (qX9_unevenness N l1)) fun x161 => osbind (osrecv [8] l2 (qX10_unevenness N l2)) fun x162 => osite ((Op.cmpValue (FP.dcmp x161 x162) .l) = 0) (qL_law_1863 N L xs c28 l0 l1 l2 l3 l4 l5) (osite ((Op.cmpValue (FP.dcmp x161 x161) .l) = 0) (qL_law_1861 N L xs c28 ) (osite ((Op.cmpValue (FP.dcmp x162 x162) .l) = 0) (qL_law_1861 N L xs c28 ) (qL_law_1863 N L xs c28 l0 l1 l2 l3 l4 l5))), osbind (osrecv [7] l1 (qX9_unevennessBits N l1)) fun x163 => osbind (osrecv [8] l2 (qX10_unevennessBits N l2)) fun x164 => osite ((lg_cmp x163 x164) = 0) (qL_law_2037 N L xs c28 l0 l1 l2 l3 l4 l5) (osret (0 : Int32)), osbind (qL_leader N l1 l3) fun x165 => osbind (osrecv [8] l2 (qX10_leader N l2)) fun x166 => osbind (osrecv [8] l2 (qX10_thrown N l2)) fun x167 => osite (x167 = x165) (osite (x165 = 0) (osbind (osaJ 2 l3 (0 : Int32)) fun x168 => osite ((lg_cmp x168 (x166.toInt64)) = 0) (qL_law_1921 N L xs c28 l0 l1 l2 l3 l4 l5) (osret (0 : Int32))) (qL_law_1921 N L xs c28 l0 l1 l2 l3 l4 l5)) (osret (0 : Int32)), osbind (osrecv [7] l1 (qX9_writeUnits N l1)) fun x169 => osbind (osrecv [8] l2 (qX10_writeUnits N l2)) fun x170 => osite (x169 = x170) (qL_law_2037 N L xs c28 l0 l1 l2 l3 l4 l5) (osret (0 : Int32)), osbind (qL_writeOrders N l1 l3) fun x171 => osbind (osrecv [8] l2 (qX10_writeOrders N l2)) fun x172 => osbind (osrecv [8] l2 (qX10_thrown N l2)) fun x173 => osite (x173 = x171) (osite (x171 = 0) (osbind (osaJ 2 l3 (0 : Int32)) fun x174 => osite ((lg_cmp x174 (x172.toInt64)) = 0) (qL_law_1978 N L xs c28 l0 l1 l2 l3 l4 l5) (osret (0 : Int32))) (qL_law_1978 N L xs c28 l0 l1 l2 l3 l4 l5)) (osret (0 : Int32)), osbind (ossld L xs (l5 + (1 : Int32))) fun x175 => osbind (qL_outputByte N l1 x175 l3) fun x176 => osbind (ossld L xs (l5 + (1 : Int32))) fun x177 => osbind (osrecv [8] l2 (qX10_outputByte N l2 x177)) fun x178 => osbind (osrecv [8] l2 (qX10_thrown N l2)) fun x179 => osite (x179 = x176) (osite (x176 = 0) (osbind (osaJ 2 l3 (0 : Int32)) fun x180 => osite ((lg_cmp x180 (x178.toInt64)) = 0) (qL_law_2034 N L xs c28 l0 l1 l2 l3 l4 l5) (osret (0 : Int32))) (qL_law_2034 N L xs c28 l0 l1 l2 l3 l4 l5)) (osret (0 : Int32))] (qL_law_2037 N L xs c28 l0 l1 l2 l3 l4 l5))
def qL_law_28 (N L : Nat) (xs : Nat → Int32) : Nat → Nat × Nat × Nat × Nat × Nat × Int32 → osM Int32 := fun f => osloop (fun ih p => bL_law_28 N L xs ih p.1 p.2.1 p.2.2.1 p.2.2.2.1 p.2.2.2.2.1 p.2.2.2.2.2) f
def qL_law (N L : Nat) (xs : Nat → Int32) (NF : Nat) (l0 : Nat) : osM Int32 := osbind (osnew (.inr (7, [.null, .int 0, .null, .int 0, .int 0, .null, .null, .null, .null, .int 0, .null, .null, .null, .null]))) fun x1 => osbind (qX9_init N x1) fun _ => osbind (osnew (.inr (8, [.int 0, .null, .null, .null, .null, .null, .null, .null, .int 0, .null, .int 0, .int 0, .int 0, .int 0, .int 0, .int 0, .int 0, .int 0, .long 0, .int 0, .int 0, .null, .null, .null, .null, .null, .int 0, .int 0, .int 0, .int 0, .int 0, .int 0, .null, .null, .null, .null, .int 0, .int 0, .int 0, .null, .null, .null, .int 0]))) fun x2 => osbind (qX10_init N x2) fun _ => osbind (osnew (.inl (2, (1, .inr (.inl fun _ => 0))))) fun x3 => osbind (osnew (.inl (4, (1, .inr (.inr (.inr (.inl fun _ => 0))))))) fun x4 => osbind osforget fun _ => qL_law_28 N L xs NF (l0, x1, x2, x3, x4, (0 : Int32))
set_option maxRecDepth 100000 in
set_option maxHeartbeats 4000000 in
theorem sL_law_2037 (N L : Nat) (xs : Nat → Int32) {b : Nat} {Qf : List Frame → State → State → Prop} (hend : ∀ (k n : Nat) (lv : List (Nat × Value)), k ≤ 601024 → n ≤ 7293034 → osW (osFinL b L xs Qf) yL_law cL_law 10 (some .boolean) [] room_1 k n 2044 lv [.int (1 : Int32)] (osret (1 : Int32))) (k n : Nat) (hk : k + 6 ≤ 601024) (hn : n + 60 ≤ 7293034) (c28 : Nat × Nat × Nat × Nat × Nat × Int32 → osM Int32) (g28 : ∀ (l0 : Nat) (l1 : Nat) (l2 : Nat) (l3 : Nat) (l4 : Nat) (l5 : Int32), l0 = b → osW (osFinL b L xs Qf) yL_law cL_law 10 (some .boolean) [] room_1 (k + 6) (n + 60) 28 [(0, .ref l0), (1, .ref l1), (2, .ref l2), (3, .ref l3), (4, .ref l4), (5, .int l5)] [] (c28 (l0, l1, l2, l3, l4, l5))) (l0 : Nat) (l1 : Nat) (l2 : Nat) (l3 : Nat) (l4 : Nat) (l5 : Int32) (hl0 : l0 = b) : osW (osFinL b L xs Qf) yL_law cL_law 10 (some .boolean) [] room_1 (k + 3) (n + 18) 2037 [(0, .ref l0), (1, .ref l1), (2, .ref l2), (3, .ref l3), (4, .ref l4), (5, .int l5)] [] (qL_law_2037 N L xs c28 l0 l1 l2 l3 l4 l5) := by
  subst hl0
  unfold qL_law_2037
  refine os_iinc (i := 5) (d := 6) (x := l5) (v := (6 : Int32)) (lv' := [(5, .int (l5 + (6 : Int32))), (0, .ref l0), (1, .ref l1), (2, .ref l2), (3, .ref l3), (4, .ref l4)]) 5 rfl rfl (Nat.le_of_ble_eq_true rfl) rfl (hL_law.at 1171 rfl rfl) ?_
  refine os_goto (off := (-2012)) (tgt := 28) rfl (hL_law.at 1172 rfl rfl) ?_
  exact osW.widen (k' := k + 6) (n' := n + 60) (by omega) (by omega) (osW.sub [1, 2, 3, 4, 5, 0] rfl (g28 l0 l1 l2 l3 l4 (l5 + (6 : Int32)) rfl))
set_option maxRecDepth 100000 in
set_option maxHeartbeats 4000000 in
theorem sL_law_305 (N L : Nat) (xs : Nat → Int32) {b : Nat} {Qf : List Frame → State → State → Prop} (hend : ∀ (k n : Nat) (lv : List (Nat × Value)), k ≤ 601024 → n ≤ 7293034 → osW (osFinL b L xs Qf) yL_law cL_law 10 (some .boolean) [] room_1 k n 2044 lv [.int (1 : Int32)] (osret (1 : Int32))) (k n : Nat) (hk : k + 6 ≤ 601024) (hn : n + 60 ≤ 7293034) (c28 : Nat × Nat × Nat × Nat × Nat × Int32 → osM Int32) (g28 : ∀ (l0 : Nat) (l1 : Nat) (l2 : Nat) (l3 : Nat) (l4 : Nat) (l5 : Int32), l0 = b → osW (osFinL b L xs Qf) yL_law cL_law 10 (some .boolean) [] room_1 (k + 6) (n + 60) 28 [(0, .ref l0), (1, .ref l1), (2, .ref l2), (3, .ref l3), (4, .ref l4), (5, .int l5)] [] (c28 (l0, l1, l2, l3, l4, l5))) (l0 : Nat) (l1 : Nat) (l2 : Nat) (l3 : Nat) (l4 : Nat) (l5 : Int32) (hl0 : l0 = b) : osW (osFinL b L xs Qf) yL_law cL_law 10 (some .boolean) [] room_1 (k + 1) (n + 6) 305 [(0, .ref l0), (1, .ref l1), (2, .ref l2), (3, .ref l3), (4, .ref l4), (5, .int l5)] [] (qL_law_305 N L xs c28 l0 l1 l2 l3 l4 l5) := by
  subst hl0
  unfold qL_law_305
  refine os_goto (off := 1732) (tgt := 2037) rfl (hL_law.at 102 rfl rfl) ?_
  exact osW.widen (k' := k + 3) (n' := n + 18) (by omega) (by omega) (osW.sub [0, 1, 2, 3, 4, 5] rfl (sL_law_2037 N L xs hend k n hk hn c28 g28 l0 l1 l2 l3 l4 l5 rfl))
set_option maxRecDepth 100000 in
set_option maxHeartbeats 4000000 in
theorem sL_law_361 (N L : Nat) (xs : Nat → Int32) {b : Nat} {Qf : List Frame → State → State → Prop} (hend : ∀ (k n : Nat) (lv : List (Nat × Value)), k ≤ 601024 → n ≤ 7293034 → osW (osFinL b L xs Qf) yL_law cL_law 10 (some .boolean) [] room_1 k n 2044 lv [.int (1 : Int32)] (osret (1 : Int32))) (k n : Nat) (hk : k + 6 ≤ 601024) (hn : n + 60 ≤ 7293034) (c28 : Nat × Nat × Nat × Nat × Nat × Int32 → osM Int32) (g28 : ∀ (l0 : Nat) (l1 : Nat) (l2 : Nat) (l3 : Nat) (l4 : Nat) (l5 : Int32), l0 = b → osW (osFinL b L xs Qf) yL_law cL_law 10 (some .boolean) [] room_1 (k + 6) (n + 60) 28 [(0, .ref l0), (1, .ref l1), (2, .ref l2), (3, .ref l3), (4, .ref l4), (5, .int l5)] [] (c28 (l0, l1, l2, l3, l4, l5))) (l0 : Nat) (l1 : Nat) (l2 : Nat) (l3 : Nat) (l4 : Nat) (l5 : Int32) (hl0 : l0 = b) : osW (osFinL b L xs Qf) yL_law cL_law 10 (some .boolean) [] room_1 (k + 2) (n + 12) 361 [(0, .ref l0), (1, .ref l1), (2, .ref l2), (3, .ref l3), (4, .ref l4), (5, .int l5)] [] (qL_law_361 N L xs c28 l0 l1 l2 l3 l4 l5) := by
  subst hl0
  unfold qL_law_361
  refine os_goto (off := 1676) (tgt := 2037) rfl (hL_law.at 137 rfl rfl) ?_
  exact osW.widen (k' := k + 3) (n' := n + 18) (by omega) (by omega) (osW.sub [0, 1, 2, 3, 4, 5] rfl (sL_law_2037 N L xs hend k n hk hn c28 g28 l0 l1 l2 l3 l4 l5 rfl))
set_option maxRecDepth 100000 in
set_option maxHeartbeats 4000000 in
theorem sL_law_417 (N L : Nat) (xs : Nat → Int32) {b : Nat} {Qf : List Frame → State → State → Prop} (hend : ∀ (k n : Nat) (lv : List (Nat × Value)), k ≤ 601024 → n ≤ 7293034 → osW (osFinL b L xs Qf) yL_law cL_law 10 (some .boolean) [] room_1 k n 2044 lv [.int (1 : Int32)] (osret (1 : Int32))) (k n : Nat) (hk : k + 6 ≤ 601024) (hn : n + 60 ≤ 7293034) (c28 : Nat × Nat × Nat × Nat × Nat × Int32 → osM Int32) (g28 : ∀ (l0 : Nat) (l1 : Nat) (l2 : Nat) (l3 : Nat) (l4 : Nat) (l5 : Int32), l0 = b → osW (osFinL b L xs Qf) yL_law cL_law 10 (some .boolean) [] room_1 (k + 6) (n + 60) 28 [(0, .ref l0), (1, .ref l1), (2, .ref l2), (3, .ref l3), (4, .ref l4), (5, .int l5)] [] (c28 (l0, l1, l2, l3, l4, l5))) (l0 : Nat) (l1 : Nat) (l2 : Nat) (l3 : Nat) (l4 : Nat) (l5 : Int32) (hl0 : l0 = b) : osW (osFinL b L xs Qf) yL_law cL_law 10 (some .boolean) [] room_1 (k + 2) (n + 12) 417 [(0, .ref l0), (1, .ref l1), (2, .ref l2), (3, .ref l3), (4, .ref l4), (5, .int l5)] [] (qL_law_417 N L xs c28 l0 l1 l2 l3 l4 l5) := by
  subst hl0
  unfold qL_law_417
  refine os_goto (off := 1620) (tgt := 2037) rfl (hL_law.at 172 rfl rfl) ?_
  exact osW.widen (k' := k + 3) (n' := n + 18) (by omega) (by omega) (osW.sub [0, 1, 2, 3, 4, 5] rfl (sL_law_2037 N L xs hend k n hk hn c28 g28 l0 l1 l2 l3 l4 l5 rfl))
set_option maxRecDepth 100000 in
set_option maxHeartbeats 4000000 in
theorem sL_law_537 (N L : Nat) (xs : Nat → Int32) {b : Nat} {Qf : List Frame → State → State → Prop} (hend : ∀ (k n : Nat) (lv : List (Nat × Value)), k ≤ 601024 → n ≤ 7293034 → osW (osFinL b L xs Qf) yL_law cL_law 10 (some .boolean) [] room_1 k n 2044 lv [.int (1 : Int32)] (osret (1 : Int32))) (k n : Nat) (hk : k + 6 ≤ 601024) (hn : n + 60 ≤ 7293034) (c28 : Nat × Nat × Nat × Nat × Nat × Int32 → osM Int32) (g28 : ∀ (l0 : Nat) (l1 : Nat) (l2 : Nat) (l3 : Nat) (l4 : Nat) (l5 : Int32), l0 = b → osW (osFinL b L xs Qf) yL_law cL_law 10 (some .boolean) [] room_1 (k + 6) (n + 60) 28 [(0, .ref l0), (1, .ref l1), (2, .ref l2), (3, .ref l3), (4, .ref l4), (5, .int l5)] [] (c28 (l0, l1, l2, l3, l4, l5))) (l0 : Nat) (l1 : Nat) (l2 : Nat) (l3 : Nat) (l4 : Nat) (l5 : Int32) (hl0 : l0 = b) : osW (osFinL b L xs Qf) yL_law cL_law 10 (some .boolean) [] room_1 (k + 2) (n + 12) 537 [(0, .ref l0), (1, .ref l1), (2, .ref l2), (3, .ref l3), (4, .ref l4), (5, .int l5)] [] (qL_law_537 N L xs c28 l0 l1 l2 l3 l4 l5) := by
  subst hl0
  unfold qL_law_537
  refine os_goto (off := 1500) (tgt := 2037) rfl (hL_law.at 245 rfl rfl) ?_
  exact osW.widen (k' := k + 3) (n' := n + 18) (by omega) (by omega) (osW.sub [0, 1, 2, 3, 4, 5] rfl (sL_law_2037 N L xs hend k n hk hn c28 g28 l0 l1 l2 l3 l4 l5 rfl))
set_option maxRecDepth 100000 in
set_option maxHeartbeats 4000000 in
theorem sL_law_593 (N L : Nat) (xs : Nat → Int32) {b : Nat} {Qf : List Frame → State → State → Prop} (hend : ∀ (k n : Nat) (lv : List (Nat × Value)), k ≤ 601024 → n ≤ 7293034 → osW (osFinL b L xs Qf) yL_law cL_law 10 (some .boolean) [] room_1 k n 2044 lv [.int (1 : Int32)] (osret (1 : Int32))) (k n : Nat) (hk : k + 6 ≤ 601024) (hn : n + 60 ≤ 7293034) (c28 : Nat × Nat × Nat × Nat × Nat × Int32 → osM Int32) (g28 : ∀ (l0 : Nat) (l1 : Nat) (l2 : Nat) (l3 : Nat) (l4 : Nat) (l5 : Int32), l0 = b → osW (osFinL b L xs Qf) yL_law cL_law 10 (some .boolean) [] room_1 (k + 6) (n + 60) 28 [(0, .ref l0), (1, .ref l1), (2, .ref l2), (3, .ref l3), (4, .ref l4), (5, .int l5)] [] (c28 (l0, l1, l2, l3, l4, l5))) (l0 : Nat) (l1 : Nat) (l2 : Nat) (l3 : Nat) (l4 : Nat) (l5 : Int32) (hl0 : l0 = b) : osW (osFinL b L xs Qf) yL_law cL_law 10 (some .boolean) [] room_1 (k + 2) (n + 12) 593 [(0, .ref l0), (1, .ref l1), (2, .ref l2), (3, .ref l3), (4, .ref l4), (5, .int l5)] [] (qL_law_593 N L xs c28 l0 l1 l2 l3 l4 l5) := by
  subst hl0
  unfold qL_law_593
  refine os_goto (off := 1444) (tgt := 2037) rfl (hL_law.at 280 rfl rfl) ?_
  exact osW.widen (k' := k + 3) (n' := n + 18) (by omega) (by omega) (osW.sub [0, 1, 2, 3, 4, 5] rfl (sL_law_2037 N L xs hend k n hk hn c28 g28 l0 l1 l2 l3 l4 l5 rfl))
set_option maxRecDepth 100000 in
set_option maxHeartbeats 4000000 in
theorem sL_law_696 (N L : Nat) (xs : Nat → Int32) {b : Nat} {Qf : List Frame → State → State → Prop} (hend : ∀ (k n : Nat) (lv : List (Nat × Value)), k ≤ 601024 → n ≤ 7293034 → osW (osFinL b L xs Qf) yL_law cL_law 10 (some .boolean) [] room_1 k n 2044 lv [.int (1 : Int32)] (osret (1 : Int32))) (k n : Nat) (hk : k + 6 ≤ 601024) (hn : n + 60 ≤ 7293034) (c28 : Nat × Nat × Nat × Nat × Nat × Int32 → osM Int32) (g28 : ∀ (l0 : Nat) (l1 : Nat) (l2 : Nat) (l3 : Nat) (l4 : Nat) (l5 : Int32), l0 = b → osW (osFinL b L xs Qf) yL_law cL_law 10 (some .boolean) [] room_1 (k + 6) (n + 60) 28 [(0, .ref l0), (1, .ref l1), (2, .ref l2), (3, .ref l3), (4, .ref l4), (5, .int l5)] [] (c28 (l0, l1, l2, l3, l4, l5))) (l0 : Nat) (l1 : Nat) (l2 : Nat) (l3 : Nat) (l4 : Nat) (l5 : Int32) (hl0 : l0 = b) : osW (osFinL b L xs Qf) yL_law cL_law 10 (some .boolean) [] room_1 (k + 2) (n + 12) 696 [(0, .ref l0), (1, .ref l1), (2, .ref l2), (3, .ref l3), (4, .ref l4), (5, .int l5)] [] (qL_law_696 N L xs c28 l0 l1 l2 l3 l4 l5) := by
  subst hl0
  unfold qL_law_696
  refine os_goto (off := 1341) (tgt := 2037) rfl (hL_law.at 346 rfl rfl) ?_
  exact osW.widen (k' := k + 3) (n' := n + 18) (by omega) (by omega) (osW.sub [0, 1, 2, 3, 4, 5] rfl (sL_law_2037 N L xs hend k n hk hn c28 g28 l0 l1 l2 l3 l4 l5 rfl))
set_option maxRecDepth 100000 in
set_option maxHeartbeats 4000000 in
theorem sL_law_690 (N L : Nat) (xs : Nat → Int32) {b : Nat} {Qf : List Frame → State → State → Prop} (hend : ∀ (k n : Nat) (lv : List (Nat × Value)), k ≤ 601024 → n ≤ 7293034 → osW (osFinL b L xs Qf) yL_law cL_law 10 (some .boolean) [] room_1 k n 2044 lv [.int (1 : Int32)] (osret (1 : Int32))) (k n : Nat) (hk : k + 6 ≤ 601024) (hn : n + 60 ≤ 7293034) (c28 : Nat × Nat × Nat × Nat × Nat × Int32 → osM Int32) (g28 : ∀ (l0 : Nat) (l1 : Nat) (l2 : Nat) (l3 : Nat) (l4 : Nat) (l5 : Int32), l0 = b → osW (osFinL b L xs Qf) yL_law cL_law 10 (some .boolean) [] room_1 (k + 6) (n + 60) 28 [(0, .ref l0), (1, .ref l1), (2, .ref l2), (3, .ref l3), (4, .ref l4), (5, .int l5)] [] (c28 (l0, l1, l2, l3, l4, l5))) (l0 : Nat) (l1 : Nat) (l2 : Nat) (l3 : Nat) (l4 : Nat) (l5 : Int32) (k0 : Int64) (k1 : Int64) (hl0 : l0 = b) : osW (osFinL b L xs Qf) yL_law cL_law 10 (some .boolean) [] room_1 (k + 2) (n + 12) 690 [(0, .ref l0), (1, .ref l1), (2, .ref l2), (3, .ref l3), (4, .ref l4), (5, .int l5)] [.long k0, .long k1] (qL_law_690 N L xs c28 l0 l1 l2 l3 l4 l5 k0 k1) := by
  subst hl0
  unfold qL_law_690
  refine os_lcmp (hL_law.at 342 rfl rfl) ?_
  refine os_if_eq (off := 5) (tgt := 696) rfl (hL_law.at 343 rfl rfl) ?_ ?_
  · exact osW.widen (k' := k + 2) (n' := n + 12) (by omega) (by omega) (osW.sub [0, 1, 2, 3, 4, 5] rfl (sL_law_696 N L xs hend k n hk hn c28 g28 l0 l1 l2 l3 l4 l5 rfl))
  · refine os_iconst (i := 0) (v := (0 : Int32)) rfl (hL_law.at 344 rfl rfl) ?_
    exact os_lawno _ (by decide)
set_option maxRecDepth 100000 in
set_option maxHeartbeats 4000000 in
theorem sL_law_656 (N L : Nat) (xs : Nat → Int32) {b : Nat} {Qf : List Frame → State → State → Prop} (hend : ∀ (k n : Nat) (lv : List (Nat × Value)), k ≤ 601024 → n ≤ 7293034 → osW (osFinL b L xs Qf) yL_law cL_law 10 (some .boolean) [] room_1 k n 2044 lv [.int (1 : Int32)] (osret (1 : Int32))) (k n : Nat) (hk : k + 6 ≤ 601024) (hn : n + 60 ≤ 7293034) (c28 : Nat × Nat × Nat × Nat × Nat × Int32 → osM Int32) (g28 : ∀ (l0 : Nat) (l1 : Nat) (l2 : Nat) (l3 : Nat) (l4 : Nat) (l5 : Int32), l0 = b → osW (osFinL b L xs Qf) yL_law cL_law 10 (some .boolean) [] room_1 (k + 6) (n + 60) 28 [(0, .ref l0), (1, .ref l1), (2, .ref l2), (3, .ref l3), (4, .ref l4), (5, .int l5)] [] (c28 (l0, l1, l2, l3, l4, l5))) (l0 : Nat) (l1 : Nat) (l2 : Nat) (l3 : Nat) (l4 : Nat) (l5 : Int32) (l6 : Int32) (k0 : Int32) (k1 : Int32) (k2 : Int32) (k3 : Nat) (hl0 : l0 = b) : osW (osFinL b L xs Qf) yL_law cL_law 10 (some .boolean) [] room_1 (k + 2) (n + 12) 656 [(0, .ref l0), (1, .ref l1), (2, .ref l2), (3, .ref l3), (4, .ref l4), (5, .int l5), (6, .int l6)] [.int k0, .int k1, .int k2, .ref k3] (qL_law_656 N L xs c28 l0 l1 l2 l3 l4 l5 l6 k0 k1 k2 k3) := by
  subst hl0
  unfold qL_law_656
  refine os_callV (cis := [8]) (b := k3) (As := [.int k2, .int k1, .int k0]) (st := []) (st' := (fun r => .int r :: [])) sl8_X10_passes__X10_passes_ mdX10_passes_ wd2026 wd2027 (sX10_passes_ N k3 k2 k1 k0) rfl rfl (fun _ => rfl) (Nat.le_of_ble_eq_true rfl) (Nat.le_of_ble_eq_true rfl) (Nat.le_of_ble_eq_true rfl) rfl (by show _ ≤ 601024; omega) rfl (by show _ ≤ 7293034; omega) (hL_law.at 324 rfl rfl) (fun x1 => ?_)
  refine os_istore (i := 7) (lv' := [(7, .int x1), (0, .ref l0), (1, .ref l1), (2, .ref l2), (3, .ref l3), (4, .ref l4), (5, .int l5), (6, .int l6)]) (Nat.le_of_ble_eq_true rfl) rfl (hL_law.at 325 rfl rfl) ?_
  refine os_aload_n (i := 2) (q := 2) (v := l2) 3 rfl rfl (hL_law.at 326 rfl rfl) ?_
  refine os_callV (cis := [8]) (b := l2) (As := []) (st := []) (st' := (fun r => .int r :: [])) sl8_X10_thrown_X10_thrown mdX10_thrown wd1734 wd1735 (sX10_thrown N l2 ) rfl rfl (fun _ => rfl) (Nat.le_of_ble_eq_true rfl) (Nat.le_of_ble_eq_true rfl) (Nat.le_of_ble_eq_true rfl) rfl (by show _ ≤ 601024; omega) rfl (by show _ ≤ 7293034; omega) (hL_law.at 327 rfl rfl) (fun x2 => ?_)
  refine os_iload (v := l6) 7 rfl (hL_law.at 328 rfl rfl) ?_
  refine os_icmp_eq (off := 5) (tgt := 672) rfl (hL_law.at 329 rfl rfl) ?_ ?_
  · refine os_iload (v := l6) 7 rfl (hL_law.at 332 rfl rfl) ?_
    refine os_if_ne (off := 22) (tgt := 696) rfl (hL_law.at 333 rfl rfl) ?_ ?_
    · exact osW.widen (k' := k + 2) (n' := n + 12) (by omega) (by omega) (osW.sub [1, 2, 3, 4, 5, 6] rfl (sL_law_696 N L xs hend k n hk hn c28 g28 l0 l1 l2 l3 l4 l5 rfl))
    · refine os_aload_n (i := 3) (q := 3) (v := l3) 4 rfl rfl (hL_law.at 334 rfl rfl) ?_
      refine os_iconst (i := 0) (v := (0 : Int32)) rfl (hL_law.at 335 rfl rfl) ?_
      refine os_laload (hL_law.at 336 rfl rfl) (fun x3 => ?_)
      refine os_iload (v := x1) 0 rfl (hL_law.at 337 rfl rfl) ?_
      refine os_if_eq (off := 7) (tgt := 689) rfl (hL_law.at 338 rfl rfl) ?_ ?_
      · refine os_lconst (i := 0) (v := 0) rfl (hL_law.at 341 rfl rfl) ?_
        exact osW.widen (k' := k + 2) (n' := n + 12) (by omega) (by omega) (osW.sub [1, 2, 3, 4, 5, 6] rfl (sL_law_690 N L xs hend k n hk hn c28 g28 l0 l1 l2 l3 l4 l5 (0 : Int64) x3 rfl))
      · refine os_lconst (i := 1) (v := 1) rfl (hL_law.at 339 rfl rfl) ?_
        refine os_goto (off := 4) (tgt := 690) rfl (hL_law.at 340 rfl rfl) ?_
        exact osW.widen (k' := k + 2) (n' := n + 12) (by omega) (by omega) (osW.sub [1, 2, 3, 4, 5, 6] rfl (sL_law_690 N L xs hend k n hk hn c28 g28 l0 l1 l2 l3 l4 l5 (1 : Int64) x3 rfl))
  · refine os_iconst (i := 0) (v := (0 : Int32)) rfl (hL_law.at 330 rfl rfl) ?_
    exact os_lawno _ (by decide)
set_option maxRecDepth 100000 in
set_option maxHeartbeats 4000000 in
theorem sL_law_623 (N L : Nat) (xs : Nat → Int32) {b : Nat} {Qf : List Frame → State → State → Prop} (hend : ∀ (k n : Nat) (lv : List (Nat × Value)), k ≤ 601024 → n ≤ 7293034 → osW (osFinL b L xs Qf) yL_law cL_law 10 (some .boolean) [] room_1 k n 2044 lv [.int (1 : Int32)] (osret (1 : Int32))) (k n : Nat) (hk : k + 6 ≤ 601024) (hn : n + 60 ≤ 7293034) (c28 : Nat × Nat × Nat × Nat × Nat × Int32 → osM Int32) (g28 : ∀ (l0 : Nat) (l1 : Nat) (l2 : Nat) (l3 : Nat) (l4 : Nat) (l5 : Int32), l0 = b → osW (osFinL b L xs Qf) yL_law cL_law 10 (some .boolean) [] room_1 (k + 6) (n + 60) 28 [(0, .ref l0), (1, .ref l1), (2, .ref l2), (3, .ref l3), (4, .ref l4), (5, .int l5)] [] (c28 (l0, l1, l2, l3, l4, l5))) (l0 : Nat) (l1 : Nat) (l2 : Nat) (l3 : Nat) (l4 : Nat) (l5 : Int32) (k0 : Int32) (k1 : Int32) (k2 : Int32) (k3 : Nat) (hl0 : l0 = b) : osW (osFinL b L xs Qf) yL_law cL_law 10 (some .boolean) [] room_1 (k + 0) (n + 0) 623 [(0, .ref l0), (1, .ref l1), (2, .ref l2), (3, .ref l3), (4, .ref l4), (5, .int l5)] [.int k0, .int k1, .int k2, .ref k3] (qL_law_623 N L xs c28 l0 l1 l2 l3 l4 l5 k0 k1 k2 k3) := by
  subst hl0
  unfold qL_law_623
  refine os_aload_n (i := 3) (q := 3) (v := l3) 3 rfl rfl (hL_law.at 301 rfl rfl) ?_
  refine os_callSH (As := [.ref k3, .int k2, .int k1, .int k0, .ref l3]) (st := []) (st' := (fun r => .int r :: [])) wd1221 wd150 (by decide +kernel) (by decide +kernel) wd1219 wd1220 (sL_passes N k3 k2 k1 k0 l3) rfl rfl (fun _ => rfl) (Nat.le_of_ble_eq_true rfl) (Nat.le_of_ble_eq_true rfl) (Nat.le_of_ble_eq_true rfl) rfl (by show _ ≤ 601024; omega) rfl (by show _ ≤ 7293034; omega) (hL_law.at 302 rfl rfl) (fun x1 => ?_)
  refine os_istore (i := 6) (lv' := [(6, .int x1), (0, .ref l0), (1, .ref l1), (2, .ref l2), (3, .ref l3), (4, .ref l4), (5, .int l5)]) (Nat.le_of_ble_eq_true rfl) rfl (hL_law.at 303 rfl rfl) ?_
  refine os_aload_n (i := 2) (q := 2) (v := l2) 3 rfl rfl (hL_law.at 304 rfl rfl) ?_
  refine os_aload_n (i := 0) (q := 0) (v := l0) 1 rfl rfl (hL_law.at 305 rfl rfl) ?_
  refine os_iload (v := l5) 6 rfl (hL_law.at 306 rfl rfl) ?_
  refine os_iconst (i := 1) (v := (1 : Int32)) rfl (hL_law.at 307 rfl rfl) ?_
  refine os_iadd (hL_law.at 308 rfl rfl) ?_
  refine os_sld (hL_law.at 309 rfl rfl) (fun x2 => ?_)
  refine os_aload_n (i := 0) (q := 0) (v := l0) 1 rfl rfl (hL_law.at 310 rfl rfl) ?_
  refine os_iload (v := l5) 6 rfl (hL_law.at 311 rfl rfl) ?_
  refine os_iconst (i := 2) (v := (2 : Int32)) rfl (hL_law.at 312 rfl rfl) ?_
  refine os_iadd (hL_law.at 313 rfl rfl) ?_
  refine os_sld (hL_law.at 314 rfl rfl) (fun x3 => ?_)
  refine os_aload_n (i := 0) (q := 0) (v := l0) 1 rfl rfl (hL_law.at 315 rfl rfl) ?_
  refine os_iload (v := l5) 6 rfl (hL_law.at 316 rfl rfl) ?_
  refine os_iconst (i := 3) (v := (3 : Int32)) rfl (hL_law.at 317 rfl rfl) ?_
  refine os_iadd (hL_law.at 318 rfl rfl) ?_
  refine os_sld (hL_law.at 319 rfl rfl) (fun x4 => ?_)
  refine os_if_eq (off := 7) (tgt := 655) rfl (hL_law.at 320 rfl rfl) ?_ ?_
  · refine os_iconst (i := 0) (v := (0 : Int32)) rfl (hL_law.at 323 rfl rfl) ?_
    exact osW.widen (k' := k + 2) (n' := n + 12) (by omega) (by omega) (osW.sub [1, 2, 3, 4, 5, 6, 0] rfl (sL_law_656 N L xs hend k n hk hn c28 g28 l0 l1 l2 l3 l4 l5 x1 (0 : Int32) x3 x2 l2 rfl))
  · refine os_iconst (i := 1) (v := (1 : Int32)) rfl (hL_law.at 321 rfl rfl) ?_
    refine os_goto (off := 4) (tgt := 656) rfl (hL_law.at 322 rfl rfl) ?_
    exact osW.widen (k' := k + 2) (n' := n + 12) (by omega) (by omega) (osW.sub [1, 2, 3, 4, 5, 6, 0] rfl (sL_law_656 N L xs hend k n hk hn c28 g28 l0 l1 l2 l3 l4 l5 x1 (1 : Int32) x3 x2 l2 rfl))
set_option maxRecDepth 100000 in
set_option maxHeartbeats 4000000 in
theorem sL_law_792 (N L : Nat) (xs : Nat → Int32) {b : Nat} {Qf : List Frame → State → State → Prop} (hend : ∀ (k n : Nat) (lv : List (Nat × Value)), k ≤ 601024 → n ≤ 7293034 → osW (osFinL b L xs Qf) yL_law cL_law 10 (some .boolean) [] room_1 k n 2044 lv [.int (1 : Int32)] (osret (1 : Int32))) (k n : Nat) (hk : k + 6 ≤ 601024) (hn : n + 60 ≤ 7293034) (c28 : Nat × Nat × Nat × Nat × Nat × Int32 → osM Int32) (g28 : ∀ (l0 : Nat) (l1 : Nat) (l2 : Nat) (l3 : Nat) (l4 : Nat) (l5 : Int32), l0 = b → osW (osFinL b L xs Qf) yL_law cL_law 10 (some .boolean) [] room_1 (k + 6) (n + 60) 28 [(0, .ref l0), (1, .ref l1), (2, .ref l2), (3, .ref l3), (4, .ref l4), (5, .int l5)] [] (c28 (l0, l1, l2, l3, l4, l5))) (l0 : Nat) (l1 : Nat) (l2 : Nat) (l3 : Nat) (l4 : Nat) (l5 : Int32) (hl0 : l0 = b) : osW (osFinL b L xs Qf) yL_law cL_law 10 (some .boolean) [] room_1 (k + 2) (n + 12) 792 [(0, .ref l0), (1, .ref l1), (2, .ref l2), (3, .ref l3), (4, .ref l4), (5, .int l5)] [] (qL_law_792 N L xs c28 l0 l1 l2 l3 l4 l5) := by
  subst hl0
  unfold qL_law_792
  refine os_goto (off := 1245) (tgt := 2037) rfl (hL_law.at 409 rfl rfl) ?_
  exact osW.widen (k' := k + 3) (n' := n + 18) (by omega) (by omega) (osW.sub [0, 1, 2, 3, 4, 5] rfl (sL_law_2037 N L xs hend k n hk hn c28 g28 l0 l1 l2 l3 l4 l5 rfl))
set_option maxRecDepth 100000 in
set_option maxHeartbeats 4000000 in
theorem sL_law_759 (N L : Nat) (xs : Nat → Int32) {b : Nat} {Qf : List Frame → State → State → Prop} (hend : ∀ (k n : Nat) (lv : List (Nat × Value)), k ≤ 601024 → n ≤ 7293034 → osW (osFinL b L xs Qf) yL_law cL_law 10 (some .boolean) [] room_1 k n 2044 lv [.int (1 : Int32)] (osret (1 : Int32))) (k n : Nat) (hk : k + 6 ≤ 601024) (hn : n + 60 ≤ 7293034) (c28 : Nat × Nat × Nat × Nat × Nat × Int32 → osM Int32) (g28 : ∀ (l0 : Nat) (l1 : Nat) (l2 : Nat) (l3 : Nat) (l4 : Nat) (l5 : Int32), l0 = b → osW (osFinL b L xs Qf) yL_law cL_law 10 (some .boolean) [] room_1 (k + 6) (n + 60) 28 [(0, .ref l0), (1, .ref l1), (2, .ref l2), (3, .ref l3), (4, .ref l4), (5, .int l5)] [] (c28 (l0, l1, l2, l3, l4, l5))) (l0 : Nat) (l1 : Nat) (l2 : Nat) (l3 : Nat) (l4 : Nat) (l5 : Int32) (l6 : Int32) (k0 : Int32) (k1 : Int32) (k2 : Int32) (k3 : Nat) (hl0 : l0 = b) : osW (osFinL b L xs Qf) yL_law cL_law 10 (some .boolean) [] room_1 (k + 2) (n + 12) 759 [(0, .ref l0), (1, .ref l1), (2, .ref l2), (3, .ref l3), (4, .ref l4), (5, .int l5), (6, .int l6)] [.int k0, .int k1, .int k2, .ref k3] (qL_law_759 N L xs c28 l0 l1 l2 l3 l4 l5 l6 k0 k1 k2 k3) := by
  subst hl0
  unfold qL_law_759
  refine os_callV (cis := [8]) (b := k3) (As := [.int k2, .int k1, .int k0]) (st := []) (st' := (fun r => .int r :: [])) sl8_X10_distance_X10_distance mdX10_distance wd2030 wd2031 (sX10_distance N k3 k2 k1 k0) rfl rfl (fun _ => rfl) (Nat.le_of_ble_eq_true rfl) (Nat.le_of_ble_eq_true rfl) (Nat.le_of_ble_eq_true rfl) rfl (by show _ ≤ 601024; omega) rfl (by show _ ≤ 7293034; omega) (hL_law.at 390 rfl rfl) (fun x1 => ?_)
  refine os_istore (i := 7) (lv' := [(7, .int x1), (0, .ref l0), (1, .ref l1), (2, .ref l2), (3, .ref l3), (4, .ref l4), (5, .int l5), (6, .int l6)]) (Nat.le_of_ble_eq_true rfl) rfl (hL_law.at 391 rfl rfl) ?_
  refine os_aload_n (i := 2) (q := 2) (v := l2) 3 rfl rfl (hL_law.at 392 rfl rfl) ?_
  refine os_callV (cis := [8]) (b := l2) (As := []) (st := []) (st' := (fun r => .int r :: [])) sl8_X10_thrown_X10_thrown mdX10_thrown wd1734 wd1735 (sX10_thrown N l2 ) rfl rfl (fun _ => rfl) (Nat.le_of_ble_eq_true rfl) (Nat.le_of_ble_eq_true rfl) (Nat.le_of_ble_eq_true rfl) rfl (by show _ ≤ 601024; omega) rfl (by show _ ≤ 7293034; omega) (hL_law.at 393 rfl rfl) (fun x2 => ?_)
  refine os_iload (v := l6) 7 rfl (hL_law.at 394 rfl rfl) ?_
  refine os_icmp_eq (off := 5) (tgt := 775) rfl (hL_law.at 395 rfl rfl) ?_ ?_
  · refine os_iload (v := l6) 7 rfl (hL_law.at 398 rfl rfl) ?_
    refine os_if_ne (off := 15) (tgt := 792) rfl (hL_law.at 399 rfl rfl) ?_ ?_
    · exact osW.widen (k' := k + 2) (n' := n + 12) (by omega) (by omega) (osW.sub [1, 2, 3, 4, 5, 6] rfl (sL_law_792 N L xs hend k n hk hn c28 g28 l0 l1 l2 l3 l4 l5 rfl))
    · refine os_aload_n (i := 3) (q := 3) (v := l3) 4 rfl rfl (hL_law.at 400 rfl rfl) ?_
      refine os_iconst (i := 0) (v := (0 : Int32)) rfl (hL_law.at 401 rfl rfl) ?_
      refine os_laload (hL_law.at 402 rfl rfl) (fun x3 => ?_)
      refine os_iload (v := x1) 0 rfl (hL_law.at 403 rfl rfl) ?_
      refine os_i2l (hL_law.at 404 rfl rfl) ?_
      refine os_lcmp (hL_law.at 405 rfl rfl) ?_
      refine os_if_eq (off := 5) (tgt := 792) rfl (hL_law.at 406 rfl rfl) ?_ ?_
      · exact osW.widen (k' := k + 2) (n' := n + 12) (by omega) (by omega) (osW.sub [1, 2, 3, 4, 5, 6] rfl (sL_law_792 N L xs hend k n hk hn c28 g28 l0 l1 l2 l3 l4 l5 rfl))
      · refine os_iconst (i := 0) (v := (0 : Int32)) rfl (hL_law.at 407 rfl rfl) ?_
        exact os_lawno _ (by decide)
  · refine os_iconst (i := 0) (v := (0 : Int32)) rfl (hL_law.at 396 rfl rfl) ?_
    exact os_lawno _ (by decide)
set_option maxRecDepth 100000 in
set_option maxHeartbeats 4000000 in
theorem sL_law_726 (N L : Nat) (xs : Nat → Int32) {b : Nat} {Qf : List Frame → State → State → Prop} (hend : ∀ (k n : Nat) (lv : List (Nat × Value)), k ≤ 601024 → n ≤ 7293034 → osW (osFinL b L xs Qf) yL_law cL_law 10 (some .boolean) [] room_1 k n 2044 lv [.int (1 : Int32)] (osret (1 : Int32))) (k n : Nat) (hk : k + 6 ≤ 601024) (hn : n + 60 ≤ 7293034) (c28 : Nat × Nat × Nat × Nat × Nat × Int32 → osM Int32) (g28 : ∀ (l0 : Nat) (l1 : Nat) (l2 : Nat) (l3 : Nat) (l4 : Nat) (l5 : Int32), l0 = b → osW (osFinL b L xs Qf) yL_law cL_law 10 (some .boolean) [] room_1 (k + 6) (n + 60) 28 [(0, .ref l0), (1, .ref l1), (2, .ref l2), (3, .ref l3), (4, .ref l4), (5, .int l5)] [] (c28 (l0, l1, l2, l3, l4, l5))) (l0 : Nat) (l1 : Nat) (l2 : Nat) (l3 : Nat) (l4 : Nat) (l5 : Int32) (k0 : Int32) (k1 : Int32) (k2 : Int32) (k3 : Nat) (hl0 : l0 = b) : osW (osFinL b L xs Qf) yL_law cL_law 10 (some .boolean) [] room_1 (k + 0) (n + 0) 726 [(0, .ref l0), (1, .ref l1), (2, .ref l2), (3, .ref l3), (4, .ref l4), (5, .int l5)] [.int k0, .int k1, .int k2, .ref k3] (qL_law_726 N L xs c28 l0 l1 l2 l3 l4 l5 k0 k1 k2 k3) := by
  subst hl0
  unfold qL_law_726
  refine os_aload_n (i := 3) (q := 3) (v := l3) 3 rfl rfl (hL_law.at 367 rfl rfl) ?_
  refine os_callSH (As := [.ref k3, .int k2, .int k1, .int k0, .ref l3]) (st := []) (st' := (fun r => .int r :: [])) wd1229 wd150 (by decide +kernel) (by decide +kernel) wd1227 wd1228 (sL_distance N k3 k2 k1 k0 l3) rfl rfl (fun _ => rfl) (Nat.le_of_ble_eq_true rfl) (Nat.le_of_ble_eq_true rfl) (Nat.le_of_ble_eq_true rfl) rfl (by show _ ≤ 601024; omega) rfl (by show _ ≤ 7293034; omega) (hL_law.at 368 rfl rfl) (fun x1 => ?_)
  refine os_istore (i := 6) (lv' := [(6, .int x1), (0, .ref l0), (1, .ref l1), (2, .ref l2), (3, .ref l3), (4, .ref l4), (5, .int l5)]) (Nat.le_of_ble_eq_true rfl) rfl (hL_law.at 369 rfl rfl) ?_
  refine os_aload_n (i := 2) (q := 2) (v := l2) 3 rfl rfl (hL_law.at 370 rfl rfl) ?_
  refine os_aload_n (i := 0) (q := 0) (v := l0) 1 rfl rfl (hL_law.at 371 rfl rfl) ?_
  refine os_iload (v := l5) 6 rfl (hL_law.at 372 rfl rfl) ?_
  refine os_iconst (i := 1) (v := (1 : Int32)) rfl (hL_law.at 373 rfl rfl) ?_
  refine os_iadd (hL_law.at 374 rfl rfl) ?_
  refine os_sld (hL_law.at 375 rfl rfl) (fun x2 => ?_)
  refine os_aload_n (i := 0) (q := 0) (v := l0) 1 rfl rfl (hL_law.at 376 rfl rfl) ?_
  refine os_iload (v := l5) 6 rfl (hL_law.at 377 rfl rfl) ?_
  refine os_iconst (i := 2) (v := (2 : Int32)) rfl (hL_law.at 378 rfl rfl) ?_
  refine os_iadd (hL_law.at 379 rfl rfl) ?_
  refine os_sld (hL_law.at 380 rfl rfl) (fun x3 => ?_)
  refine os_aload_n (i := 0) (q := 0) (v := l0) 1 rfl rfl (hL_law.at 381 rfl rfl) ?_
  refine os_iload (v := l5) 6 rfl (hL_law.at 382 rfl rfl) ?_
  refine os_iconst (i := 3) (v := (3 : Int32)) rfl (hL_law.at 383 rfl rfl) ?_
  refine os_iadd (hL_law.at 384 rfl rfl) ?_
  refine os_sld (hL_law.at 385 rfl rfl) (fun x4 => ?_)
  refine os_if_eq (off := 7) (tgt := 758) rfl (hL_law.at 386 rfl rfl) ?_ ?_
  · refine os_iconst (i := 0) (v := (0 : Int32)) rfl (hL_law.at 389 rfl rfl) ?_
    exact osW.widen (k' := k + 2) (n' := n + 12) (by omega) (by omega) (osW.sub [1, 2, 3, 4, 5, 6, 0] rfl (sL_law_759 N L xs hend k n hk hn c28 g28 l0 l1 l2 l3 l4 l5 x1 (0 : Int32) x3 x2 l2 rfl))
  · refine os_iconst (i := 1) (v := (1 : Int32)) rfl (hL_law.at 387 rfl rfl) ?_
    refine os_goto (off := 4) (tgt := 759) rfl (hL_law.at 388 rfl rfl) ?_
    exact osW.widen (k' := k + 2) (n' := n + 12) (by omega) (by omega) (osW.sub [1, 2, 3, 4, 5, 6, 0] rfl (sL_law_759 N L xs hend k n hk hn c28 g28 l0 l1 l2 l3 l4 l5 x1 (1 : Int32) x3 x2 l2 rfl))
set_option maxRecDepth 100000 in
set_option maxHeartbeats 4000000 in
theorem sL_law_860 (N L : Nat) (xs : Nat → Int32) {b : Nat} {Qf : List Frame → State → State → Prop} (hend : ∀ (k n : Nat) (lv : List (Nat × Value)), k ≤ 601024 → n ≤ 7293034 → osW (osFinL b L xs Qf) yL_law cL_law 10 (some .boolean) [] room_1 k n 2044 lv [.int (1 : Int32)] (osret (1 : Int32))) (k n : Nat) (hk : k + 6 ≤ 601024) (hn : n + 60 ≤ 7293034) (c28 : Nat × Nat × Nat × Nat × Nat × Int32 → osM Int32) (g28 : ∀ (l0 : Nat) (l1 : Nat) (l2 : Nat) (l3 : Nat) (l4 : Nat) (l5 : Int32), l0 = b → osW (osFinL b L xs Qf) yL_law cL_law 10 (some .boolean) [] room_1 (k + 6) (n + 60) 28 [(0, .ref l0), (1, .ref l1), (2, .ref l2), (3, .ref l3), (4, .ref l4), (5, .int l5)] [] (c28 (l0, l1, l2, l3, l4, l5))) (l0 : Nat) (l1 : Nat) (l2 : Nat) (l3 : Nat) (l4 : Nat) (l5 : Int32) (hl0 : l0 = b) : osW (osFinL b L xs Qf) yL_law cL_law 10 (some .boolean) [] room_1 (k + 2) (n + 12) 860 [(0, .ref l0), (1, .ref l1), (2, .ref l2), (3, .ref l3), (4, .ref l4), (5, .int l5)] [] (qL_law_860 N L xs c28 l0 l1 l2 l3 l4 l5) := by
  subst hl0
  unfold qL_law_860
  refine os_goto (off := 1177) (tgt := 2037) rfl (hL_law.at 454 rfl rfl) ?_
  exact osW.widen (k' := k + 3) (n' := n + 18) (by omega) (by omega) (osW.sub [0, 1, 2, 3, 4, 5] rfl (sL_law_2037 N L xs hend k n hk hn c28 g28 l0 l1 l2 l3 l4 l5 rfl))
set_option maxRecDepth 100000 in
set_option maxHeartbeats 4000000 in
theorem sL_law_954 (N L : Nat) (xs : Nat → Int32) {b : Nat} {Qf : List Frame → State → State → Prop} (hend : ∀ (k n : Nat) (lv : List (Nat × Value)), k ≤ 601024 → n ≤ 7293034 → osW (osFinL b L xs Qf) yL_law cL_law 10 (some .boolean) [] room_1 k n 2044 lv [.int (1 : Int32)] (osret (1 : Int32))) (k n : Nat) (hk : k + 6 ≤ 601024) (hn : n + 60 ≤ 7293034) (c28 : Nat × Nat × Nat × Nat × Nat × Int32 → osM Int32) (g28 : ∀ (l0 : Nat) (l1 : Nat) (l2 : Nat) (l3 : Nat) (l4 : Nat) (l5 : Int32), l0 = b → osW (osFinL b L xs Qf) yL_law cL_law 10 (some .boolean) [] room_1 (k + 6) (n + 60) 28 [(0, .ref l0), (1, .ref l1), (2, .ref l2), (3, .ref l3), (4, .ref l4), (5, .int l5)] [] (c28 (l0, l1, l2, l3, l4, l5))) (l0 : Nat) (l1 : Nat) (l2 : Nat) (l3 : Nat) (l4 : Nat) (l5 : Int32) (hl0 : l0 = b) : osW (osFinL b L xs Qf) yL_law cL_law 10 (some .boolean) [] room_1 (k + 3) (n + 18) 954 [(0, .ref l0), (1, .ref l1), (2, .ref l2), (3, .ref l3), (4, .ref l4), (5, .int l5)] [] (qL_law_954 N L xs c28 l0 l1 l2 l3 l4 l5) := by
  subst hl0
  unfold qL_law_954
  refine os_goto (off := 1083) (tgt := 2037) rfl (hL_law.at 513 rfl rfl) ?_
  exact osW.widen (k' := k + 3) (n' := n + 18) (by omega) (by omega) (osW.sub [0, 1, 2, 3, 4, 5] rfl (sL_law_2037 N L xs hend k n hk hn c28 g28 l0 l1 l2 l3 l4 l5 rfl))
set_option maxRecDepth 100000 in
set_option maxHeartbeats 4000000 in
theorem sL_law_998 (N L : Nat) (xs : Nat → Int32) {b : Nat} {Qf : List Frame → State → State → Prop} (hend : ∀ (k n : Nat) (lv : List (Nat × Value)), k ≤ 601024 → n ≤ 7293034 → osW (osFinL b L xs Qf) yL_law cL_law 10 (some .boolean) [] room_1 k n 2044 lv [.int (1 : Int32)] (osret (1 : Int32))) (k n : Nat) (hk : k + 6 ≤ 601024) (hn : n + 60 ≤ 7293034) (c28 : Nat × Nat × Nat × Nat × Nat × Int32 → osM Int32) (g28 : ∀ (l0 : Nat) (l1 : Nat) (l2 : Nat) (l3 : Nat) (l4 : Nat) (l5 : Int32), l0 = b → osW (osFinL b L xs Qf) yL_law cL_law 10 (some .boolean) [] room_1 (k + 6) (n + 60) 28 [(0, .ref l0), (1, .ref l1), (2, .ref l2), (3, .ref l3), (4, .ref l4), (5, .int l5)] [] (c28 (l0, l1, l2, l3, l4, l5))) (l0 : Nat) (l1 : Nat) (l2 : Nat) (l3 : Nat) (l4 : Nat) (l5 : Int32) (hl0 : l0 = b) : osW (osFinL b L xs Qf) yL_law cL_law 10 (some .boolean) [] room_1 (k + 1) (n + 6) 998 [(0, .ref l0), (1, .ref l1), (2, .ref l2), (3, .ref l3), (4, .ref l4), (5, .int l5)] [] (qL_law_998 N L xs c28 l0 l1 l2 l3 l4 l5) := by
  subst hl0
  unfold qL_law_998
  refine os_goto (off := 1039) (tgt := 2037) rfl (hL_law.at 538 rfl rfl) ?_
  exact osW.widen (k' := k + 3) (n' := n + 18) (by omega) (by omega) (osW.sub [0, 1, 2, 3, 4, 5] rfl (sL_law_2037 N L xs hend k n hk hn c28 g28 l0 l1 l2 l3 l4 l5 rfl))
set_option maxRecDepth 100000 in
set_option maxHeartbeats 4000000 in
theorem sL_law_1066 (N L : Nat) (xs : Nat → Int32) {b : Nat} {Qf : List Frame → State → State → Prop} (hend : ∀ (k n : Nat) (lv : List (Nat × Value)), k ≤ 601024 → n ≤ 7293034 → osW (osFinL b L xs Qf) yL_law cL_law 10 (some .boolean) [] room_1 k n 2044 lv [.int (1 : Int32)] (osret (1 : Int32))) (k n : Nat) (hk : k + 6 ≤ 601024) (hn : n + 60 ≤ 7293034) (c28 : Nat × Nat × Nat × Nat × Nat × Int32 → osM Int32) (g28 : ∀ (l0 : Nat) (l1 : Nat) (l2 : Nat) (l3 : Nat) (l4 : Nat) (l5 : Int32), l0 = b → osW (osFinL b L xs Qf) yL_law cL_law 10 (some .boolean) [] room_1 (k + 6) (n + 60) 28 [(0, .ref l0), (1, .ref l1), (2, .ref l2), (3, .ref l3), (4, .ref l4), (5, .int l5)] [] (c28 (l0, l1, l2, l3, l4, l5))) (l0 : Nat) (l1 : Nat) (l2 : Nat) (l3 : Nat) (l4 : Nat) (l5 : Int32) (hl0 : l0 = b) : osW (osFinL b L xs Qf) yL_law cL_law 10 (some .boolean) [] room_1 (k + 3) (n + 18) 1066 [(0, .ref l0), (1, .ref l1), (2, .ref l2), (3, .ref l3), (4, .ref l4), (5, .int l5)] [] (qL_law_1066 N L xs c28 l0 l1 l2 l3 l4 l5) := by
  subst hl0
  unfold qL_law_1066
  refine os_goto (off := 971) (tgt := 2037) rfl (hL_law.at 583 rfl rfl) ?_
  exact osW.widen (k' := k + 3) (n' := n + 18) (by omega) (by omega) (osW.sub [0, 1, 2, 3, 4, 5] rfl (sL_law_2037 N L xs hend k n hk hn c28 g28 l0 l1 l2 l3 l4 l5 rfl))
set_option maxRecDepth 100000 in
set_option maxHeartbeats 4000000 in
theorem sL_law_1110 (N L : Nat) (xs : Nat → Int32) {b : Nat} {Qf : List Frame → State → State → Prop} (hend : ∀ (k n : Nat) (lv : List (Nat × Value)), k ≤ 601024 → n ≤ 7293034 → osW (osFinL b L xs Qf) yL_law cL_law 10 (some .boolean) [] room_1 k n 2044 lv [.int (1 : Int32)] (osret (1 : Int32))) (k n : Nat) (hk : k + 6 ≤ 601024) (hn : n + 60 ≤ 7293034) (c28 : Nat × Nat × Nat × Nat × Nat × Int32 → osM Int32) (g28 : ∀ (l0 : Nat) (l1 : Nat) (l2 : Nat) (l3 : Nat) (l4 : Nat) (l5 : Int32), l0 = b → osW (osFinL b L xs Qf) yL_law cL_law 10 (some .boolean) [] room_1 (k + 6) (n + 60) 28 [(0, .ref l0), (1, .ref l1), (2, .ref l2), (3, .ref l3), (4, .ref l4), (5, .int l5)] [] (c28 (l0, l1, l2, l3, l4, l5))) (l0 : Nat) (l1 : Nat) (l2 : Nat) (l3 : Nat) (l4 : Nat) (l5 : Int32) (hl0 : l0 = b) : osW (osFinL b L xs Qf) yL_law cL_law 10 (some .boolean) [] room_1 (k + 1) (n + 6) 1110 [(0, .ref l0), (1, .ref l1), (2, .ref l2), (3, .ref l3), (4, .ref l4), (5, .int l5)] [] (qL_law_1110 N L xs c28 l0 l1 l2 l3 l4 l5) := by
  subst hl0
  unfold qL_law_1110
  refine os_goto (off := 927) (tgt := 2037) rfl (hL_law.at 608 rfl rfl) ?_
  exact osW.widen (k' := k + 3) (n' := n + 18) (by omega) (by omega) (osW.sub [0, 1, 2, 3, 4, 5] rfl (sL_law_2037 N L xs hend k n hk hn c28 g28 l0 l1 l2 l3 l4 l5 rfl))
set_option maxRecDepth 100000 in
set_option maxHeartbeats 4000000 in
theorem sL_law_1173 (N L : Nat) (xs : Nat → Int32) {b : Nat} {Qf : List Frame → State → State → Prop} (hend : ∀ (k n : Nat) (lv : List (Nat × Value)), k ≤ 601024 → n ≤ 7293034 → osW (osFinL b L xs Qf) yL_law cL_law 10 (some .boolean) [] room_1 k n 2044 lv [.int (1 : Int32)] (osret (1 : Int32))) (k n : Nat) (hk : k + 6 ≤ 601024) (hn : n + 60 ≤ 7293034) (c28 : Nat × Nat × Nat × Nat × Nat × Int32 → osM Int32) (g28 : ∀ (l0 : Nat) (l1 : Nat) (l2 : Nat) (l3 : Nat) (l4 : Nat) (l5 : Int32), l0 = b → osW (osFinL b L xs Qf) yL_law cL_law 10 (some .boolean) [] room_1 (k + 6) (n + 60) 28 [(0, .ref l0), (1, .ref l1), (2, .ref l2), (3, .ref l3), (4, .ref l4), (5, .int l5)] [] (c28 (l0, l1, l2, l3, l4, l5))) (l0 : Nat) (l1 : Nat) (l2 : Nat) (l3 : Nat) (l4 : Nat) (l5 : Int32) (hl0 : l0 = b) : osW (osFinL b L xs Qf) yL_law cL_law 10 (some .boolean) [] room_1 (k + 2) (n + 12) 1173 [(0, .ref l0), (1, .ref l1), (2, .ref l2), (3, .ref l3), (4, .ref l4), (5, .int l5)] [] (qL_law_1173 N L xs c28 l0 l1 l2 l3 l4 l5) := by
  subst hl0
  unfold qL_law_1173
  refine os_goto (off := 864) (tgt := 2037) rfl (hL_law.at 646 rfl rfl) ?_
  exact osW.widen (k' := k + 3) (n' := n + 18) (by omega) (by omega) (osW.sub [0, 1, 2, 3, 4, 5] rfl (sL_law_2037 N L xs hend k n hk hn c28 g28 l0 l1 l2 l3 l4 l5 rfl))
set_option maxRecDepth 100000 in
set_option maxHeartbeats 4000000 in
theorem sL_law_1167 (N L : Nat) (xs : Nat → Int32) {b : Nat} {Qf : List Frame → State → State → Prop} (hend : ∀ (k n : Nat) (lv : List (Nat × Value)), k ≤ 601024 → n ≤ 7293034 → osW (osFinL b L xs Qf) yL_law cL_law 10 (some .boolean) [] room_1 k n 2044 lv [.int (1 : Int32)] (osret (1 : Int32))) (k n : Nat) (hk : k + 6 ≤ 601024) (hn : n + 60 ≤ 7293034) (c28 : Nat × Nat × Nat × Nat × Nat × Int32 → osM Int32) (g28 : ∀ (l0 : Nat) (l1 : Nat) (l2 : Nat) (l3 : Nat) (l4 : Nat) (l5 : Int32), l0 = b → osW (osFinL b L xs Qf) yL_law cL_law 10 (some .boolean) [] room_1 (k + 6) (n + 60) 28 [(0, .ref l0), (1, .ref l1), (2, .ref l2), (3, .ref l3), (4, .ref l4), (5, .int l5)] [] (c28 (l0, l1, l2, l3, l4, l5))) (l0 : Nat) (l1 : Nat) (l2 : Nat) (l3 : Nat) (l4 : Nat) (l5 : Int32) (k0 : Int64) (k1 : Int64) (hl0 : l0 = b) : osW (osFinL b L xs Qf) yL_law cL_law 10 (some .boolean) [] room_1 (k + 2) (n + 12) 1167 [(0, .ref l0), (1, .ref l1), (2, .ref l2), (3, .ref l3), (4, .ref l4), (5, .int l5)] [.long k0, .long k1] (qL_law_1167 N L xs c28 l0 l1 l2 l3 l4 l5 k0 k1) := by
  subst hl0
  unfold qL_law_1167
  refine os_lcmp (hL_law.at 642 rfl rfl) ?_
  refine os_if_eq (off := 5) (tgt := 1173) rfl (hL_law.at 643 rfl rfl) ?_ ?_
  · exact osW.widen (k' := k + 2) (n' := n + 12) (by omega) (by omega) (osW.sub [0, 1, 2, 3, 4, 5] rfl (sL_law_1173 N L xs hend k n hk hn c28 g28 l0 l1 l2 l3 l4 l5 rfl))
  · refine os_iconst (i := 0) (v := (0 : Int32)) rfl (hL_law.at 644 rfl rfl) ?_
    exact os_lawno _ (by decide)
set_option maxRecDepth 100000 in
set_option maxHeartbeats 4000000 in
theorem sL_law_1248 (N L : Nat) (xs : Nat → Int32) {b : Nat} {Qf : List Frame → State → State → Prop} (hend : ∀ (k n : Nat) (lv : List (Nat × Value)), k ≤ 601024 → n ≤ 7293034 → osW (osFinL b L xs Qf) yL_law cL_law 10 (some .boolean) [] room_1 k n 2044 lv [.int (1 : Int32)] (osret (1 : Int32))) (k n : Nat) (hk : k + 6 ≤ 601024) (hn : n + 60 ≤ 7293034) (c28 : Nat × Nat × Nat × Nat × Nat × Int32 → osM Int32) (g28 : ∀ (l0 : Nat) (l1 : Nat) (l2 : Nat) (l3 : Nat) (l4 : Nat) (l5 : Int32), l0 = b → osW (osFinL b L xs Qf) yL_law cL_law 10 (some .boolean) [] room_1 (k + 6) (n + 60) 28 [(0, .ref l0), (1, .ref l1), (2, .ref l2), (3, .ref l3), (4, .ref l4), (5, .int l5)] [] (c28 (l0, l1, l2, l3, l4, l5))) (l0 : Nat) (l1 : Nat) (l2 : Nat) (l3 : Nat) (l4 : Nat) (l5 : Int32) (hl0 : l0 = b) : osW (osFinL b L xs Qf) yL_law cL_law 10 (some .boolean) [] room_1 (k + 3) (n + 18) 1248 [(0, .ref l0), (1, .ref l1), (2, .ref l2), (3, .ref l3), (4, .ref l4), (5, .int l5)] [] (qL_law_1248 N L xs c28 l0 l1 l2 l3 l4 l5) := by
  subst hl0
  unfold qL_law_1248
  refine os_goto (off := 789) (tgt := 2037) rfl (hL_law.at 694 rfl rfl) ?_
  exact osW.widen (k' := k + 3) (n' := n + 18) (by omega) (by omega) (osW.sub [0, 1, 2, 3, 4, 5] rfl (sL_law_2037 N L xs hend k n hk hn c28 g28 l0 l1 l2 l3 l4 l5 rfl))
set_option maxRecDepth 100000 in
set_option maxHeartbeats 4000000 in
theorem sL_law_1242 (N L : Nat) (xs : Nat → Int32) {b : Nat} {Qf : List Frame → State → State → Prop} (hend : ∀ (k n : Nat) (lv : List (Nat × Value)), k ≤ 601024 → n ≤ 7293034 → osW (osFinL b L xs Qf) yL_law cL_law 10 (some .boolean) [] room_1 k n 2044 lv [.int (1 : Int32)] (osret (1 : Int32))) (k n : Nat) (hk : k + 6 ≤ 601024) (hn : n + 60 ≤ 7293034) (c28 : Nat × Nat × Nat × Nat × Nat × Int32 → osM Int32) (g28 : ∀ (l0 : Nat) (l1 : Nat) (l2 : Nat) (l3 : Nat) (l4 : Nat) (l5 : Int32), l0 = b → osW (osFinL b L xs Qf) yL_law cL_law 10 (some .boolean) [] room_1 (k + 6) (n + 60) 28 [(0, .ref l0), (1, .ref l1), (2, .ref l2), (3, .ref l3), (4, .ref l4), (5, .int l5)] [] (c28 (l0, l1, l2, l3, l4, l5))) (l0 : Nat) (l1 : Nat) (l2 : Nat) (l3 : Nat) (l4 : Nat) (l5 : Int32) (k0 : Int64) (k1 : Int64) (hl0 : l0 = b) : osW (osFinL b L xs Qf) yL_law cL_law 10 (some .boolean) [] room_1 (k + 3) (n + 18) 1242 [(0, .ref l0), (1, .ref l1), (2, .ref l2), (3, .ref l3), (4, .ref l4), (5, .int l5)] [.long k0, .long k1] (qL_law_1242 N L xs c28 l0 l1 l2 l3 l4 l5 k0 k1) := by
  subst hl0
  unfold qL_law_1242
  refine os_lcmp (hL_law.at 690 rfl rfl) ?_
  refine os_if_eq (off := 5) (tgt := 1248) rfl (hL_law.at 691 rfl rfl) ?_ ?_
  · exact osW.widen (k' := k + 3) (n' := n + 18) (by omega) (by omega) (osW.sub [0, 1, 2, 3, 4, 5] rfl (sL_law_1248 N L xs hend k n hk hn c28 g28 l0 l1 l2 l3 l4 l5 rfl))
  · refine os_iconst (i := 0) (v := (0 : Int32)) rfl (hL_law.at 692 rfl rfl) ?_
    exact os_lawno _ (by decide)
set_option maxRecDepth 100000 in
set_option maxHeartbeats 4000000 in
theorem sL_law_1292 (N L : Nat) (xs : Nat → Int32) {b : Nat} {Qf : List Frame → State → State → Prop} (hend : ∀ (k n : Nat) (lv : List (Nat × Value)), k ≤ 601024 → n ≤ 7293034 → osW (osFinL b L xs Qf) yL_law cL_law 10 (some .boolean) [] room_1 k n 2044 lv [.int (1 : Int32)] (osret (1 : Int32))) (k n : Nat) (hk : k + 6 ≤ 601024) (hn : n + 60 ≤ 7293034) (c28 : Nat × Nat × Nat × Nat × Nat × Int32 → osM Int32) (g28 : ∀ (l0 : Nat) (l1 : Nat) (l2 : Nat) (l3 : Nat) (l4 : Nat) (l5 : Int32), l0 = b → osW (osFinL b L xs Qf) yL_law cL_law 10 (some .boolean) [] room_1 (k + 6) (n + 60) 28 [(0, .ref l0), (1, .ref l1), (2, .ref l2), (3, .ref l3), (4, .ref l4), (5, .int l5)] [] (c28 (l0, l1, l2, l3, l4, l5))) (l0 : Nat) (l1 : Nat) (l2 : Nat) (l3 : Nat) (l4 : Nat) (l5 : Int32) (hl0 : l0 = b) : osW (osFinL b L xs Qf) yL_law cL_law 10 (some .boolean) [] room_1 (k + 1) (n + 6) 1292 [(0, .ref l0), (1, .ref l1), (2, .ref l2), (3, .ref l3), (4, .ref l4), (5, .int l5)] [] (qL_law_1292 N L xs c28 l0 l1 l2 l3 l4 l5) := by
  subst hl0
  unfold qL_law_1292
  refine os_goto (off := 745) (tgt := 2037) rfl (hL_law.at 719 rfl rfl) ?_
  exact osW.widen (k' := k + 3) (n' := n + 18) (by omega) (by omega) (osW.sub [0, 1, 2, 3, 4, 5] rfl (sL_law_2037 N L xs hend k n hk hn c28 g28 l0 l1 l2 l3 l4 l5 rfl))
set_option maxRecDepth 100000 in
set_option maxHeartbeats 4000000 in
theorem sL_law_1336 (N L : Nat) (xs : Nat → Int32) {b : Nat} {Qf : List Frame → State → State → Prop} (hend : ∀ (k n : Nat) (lv : List (Nat × Value)), k ≤ 601024 → n ≤ 7293034 → osW (osFinL b L xs Qf) yL_law cL_law 10 (some .boolean) [] room_1 k n 2044 lv [.int (1 : Int32)] (osret (1 : Int32))) (k n : Nat) (hk : k + 6 ≤ 601024) (hn : n + 60 ≤ 7293034) (c28 : Nat × Nat × Nat × Nat × Nat × Int32 → osM Int32) (g28 : ∀ (l0 : Nat) (l1 : Nat) (l2 : Nat) (l3 : Nat) (l4 : Nat) (l5 : Int32), l0 = b → osW (osFinL b L xs Qf) yL_law cL_law 10 (some .boolean) [] room_1 (k + 6) (n + 60) 28 [(0, .ref l0), (1, .ref l1), (2, .ref l2), (3, .ref l3), (4, .ref l4), (5, .int l5)] [] (c28 (l0, l1, l2, l3, l4, l5))) (l0 : Nat) (l1 : Nat) (l2 : Nat) (l3 : Nat) (l4 : Nat) (l5 : Int32) (hl0 : l0 = b) : osW (osFinL b L xs Qf) yL_law cL_law 10 (some .boolean) [] room_1 (k + 1) (n + 6) 1336 [(0, .ref l0), (1, .ref l1), (2, .ref l2), (3, .ref l3), (4, .ref l4), (5, .int l5)] [] (qL_law_1336 N L xs c28 l0 l1 l2 l3 l4 l5) := by
  subst hl0
  unfold qL_law_1336
  refine os_goto (off := 701) (tgt := 2037) rfl (hL_law.at 744 rfl rfl) ?_
  exact osW.widen (k' := k + 3) (n' := n + 18) (by omega) (by omega) (osW.sub [0, 1, 2, 3, 4, 5] rfl (sL_law_2037 N L xs hend k n hk hn c28 g28 l0 l1 l2 l3 l4 l5 rfl))
set_option maxRecDepth 100000 in
set_option maxHeartbeats 4000000 in
theorem sL_law_1380 (N L : Nat) (xs : Nat → Int32) {b : Nat} {Qf : List Frame → State → State → Prop} (hend : ∀ (k n : Nat) (lv : List (Nat × Value)), k ≤ 601024 → n ≤ 7293034 → osW (osFinL b L xs Qf) yL_law cL_law 10 (some .boolean) [] room_1 k n 2044 lv [.int (1 : Int32)] (osret (1 : Int32))) (k n : Nat) (hk : k + 6 ≤ 601024) (hn : n + 60 ≤ 7293034) (c28 : Nat × Nat × Nat × Nat × Nat × Int32 → osM Int32) (g28 : ∀ (l0 : Nat) (l1 : Nat) (l2 : Nat) (l3 : Nat) (l4 : Nat) (l5 : Int32), l0 = b → osW (osFinL b L xs Qf) yL_law cL_law 10 (some .boolean) [] room_1 (k + 6) (n + 60) 28 [(0, .ref l0), (1, .ref l1), (2, .ref l2), (3, .ref l3), (4, .ref l4), (5, .int l5)] [] (c28 (l0, l1, l2, l3, l4, l5))) (l0 : Nat) (l1 : Nat) (l2 : Nat) (l3 : Nat) (l4 : Nat) (l5 : Int32) (hl0 : l0 = b) : osW (osFinL b L xs Qf) yL_law cL_law 10 (some .boolean) [] room_1 (k + 1) (n + 6) 1380 [(0, .ref l0), (1, .ref l1), (2, .ref l2), (3, .ref l3), (4, .ref l4), (5, .int l5)] [] (qL_law_1380 N L xs c28 l0 l1 l2 l3 l4 l5) := by
  subst hl0
  unfold qL_law_1380
  refine os_goto (off := 657) (tgt := 2037) rfl (hL_law.at 769 rfl rfl) ?_
  exact osW.widen (k' := k + 3) (n' := n + 18) (by omega) (by omega) (osW.sub [0, 1, 2, 3, 4, 5] rfl (sL_law_2037 N L xs hend k n hk hn c28 g28 l0 l1 l2 l3 l4 l5 rfl))
set_option maxRecDepth 100000 in
set_option maxHeartbeats 4000000 in
theorem sL_law_1461 (N L : Nat) (xs : Nat → Int32) {b : Nat} {Qf : List Frame → State → State → Prop} (hend : ∀ (k n : Nat) (lv : List (Nat × Value)), k ≤ 601024 → n ≤ 7293034 → osW (osFinL b L xs Qf) yL_law cL_law 10 (some .boolean) [] room_1 k n 2044 lv [.int (1 : Int32)] (osret (1 : Int32))) (k n : Nat) (hk : k + 6 ≤ 601024) (hn : n + 60 ≤ 7293034) (c28 : Nat × Nat × Nat × Nat × Nat × Int32 → osM Int32) (g28 : ∀ (l0 : Nat) (l1 : Nat) (l2 : Nat) (l3 : Nat) (l4 : Nat) (l5 : Int32), l0 = b → osW (osFinL b L xs Qf) yL_law cL_law 10 (some .boolean) [] room_1 (k + 6) (n + 60) 28 [(0, .ref l0), (1, .ref l1), (2, .ref l2), (3, .ref l3), (4, .ref l4), (5, .int l5)] [] (c28 (l0, l1, l2, l3, l4, l5))) (l0 : Nat) (l1 : Nat) (l2 : Nat) (l3 : Nat) (l4 : Nat) (l5 : Int32) (hl0 : l0 = b) : osW (osFinL b L xs Qf) yL_law cL_law 10 (some .boolean) [] room_1 (k + 3) (n + 18) 1461 [(0, .ref l0), (1, .ref l1), (2, .ref l2), (3, .ref l3), (4, .ref l4), (5, .int l5)] [] (qL_law_1461 N L xs c28 l0 l1 l2 l3 l4 l5) := by
  subst hl0
  unfold qL_law_1461
  refine os_goto (off := 576) (tgt := 2037) rfl (hL_law.at 821 rfl rfl) ?_
  exact osW.widen (k' := k + 3) (n' := n + 18) (by omega) (by omega) (osW.sub [0, 1, 2, 3, 4, 5] rfl (sL_law_2037 N L xs hend k n hk hn c28 g28 l0 l1 l2 l3 l4 l5 rfl))
set_option maxRecDepth 100000 in
set_option maxHeartbeats 4000000 in
theorem sL_law_1529 (N L : Nat) (xs : Nat → Int32) {b : Nat} {Qf : List Frame → State → State → Prop} (hend : ∀ (k n : Nat) (lv : List (Nat × Value)), k ≤ 601024 → n ≤ 7293034 → osW (osFinL b L xs Qf) yL_law cL_law 10 (some .boolean) [] room_1 k n 2044 lv [.int (1 : Int32)] (osret (1 : Int32))) (k n : Nat) (hk : k + 6 ≤ 601024) (hn : n + 60 ≤ 7293034) (c28 : Nat × Nat × Nat × Nat × Nat × Int32 → osM Int32) (g28 : ∀ (l0 : Nat) (l1 : Nat) (l2 : Nat) (l3 : Nat) (l4 : Nat) (l5 : Int32), l0 = b → osW (osFinL b L xs Qf) yL_law cL_law 10 (some .boolean) [] room_1 (k + 6) (n + 60) 28 [(0, .ref l0), (1, .ref l1), (2, .ref l2), (3, .ref l3), (4, .ref l4), (5, .int l5)] [] (c28 (l0, l1, l2, l3, l4, l5))) (l0 : Nat) (l1 : Nat) (l2 : Nat) (l3 : Nat) (l4 : Nat) (l5 : Int32) (hl0 : l0 = b) : osW (osFinL b L xs Qf) yL_law cL_law 10 (some .boolean) [] room_1 (k + 3) (n + 18) 1529 [(0, .ref l0), (1, .ref l1), (2, .ref l2), (3, .ref l3), (4, .ref l4), (5, .int l5)] [] (qL_law_1529 N L xs c28 l0 l1 l2 l3 l4 l5) := by
  subst hl0
  unfold qL_law_1529
  refine os_goto (off := 508) (tgt := 2037) rfl (hL_law.at 866 rfl rfl) ?_
  exact osW.widen (k' := k + 3) (n' := n + 18) (by omega) (by omega) (osW.sub [0, 1, 2, 3, 4, 5] rfl (sL_law_2037 N L xs hend k n hk hn c28 g28 l0 l1 l2 l3 l4 l5 rfl))
set_option maxRecDepth 100000 in
set_option maxHeartbeats 4000000 in
theorem sL_law_1625 (N L : Nat) (xs : Nat → Int32) {b : Nat} {Qf : List Frame → State → State → Prop} (hend : ∀ (k n : Nat) (lv : List (Nat × Value)), k ≤ 601024 → n ≤ 7293034 → osW (osFinL b L xs Qf) yL_law cL_law 10 (some .boolean) [] room_1 k n 2044 lv [.int (1 : Int32)] (osret (1 : Int32))) (k n : Nat) (hk : k + 6 ≤ 601024) (hn : n + 60 ≤ 7293034) (c28 : Nat × Nat × Nat × Nat × Nat × Int32 → osM Int32) (g28 : ∀ (l0 : Nat) (l1 : Nat) (l2 : Nat) (l3 : Nat) (l4 : Nat) (l5 : Int32), l0 = b → osW (osFinL b L xs Qf) yL_law cL_law 10 (some .boolean) [] room_1 (k + 6) (n + 60) 28 [(0, .ref l0), (1, .ref l1), (2, .ref l2), (3, .ref l3), (4, .ref l4), (5, .int l5)] [] (c28 (l0, l1, l2, l3, l4, l5))) (l0 : Nat) (l1 : Nat) (l2 : Nat) (l3 : Nat) (l4 : Nat) (l5 : Int32) (hl0 : l0 = b) : osW (osFinL b L xs Qf) yL_law cL_law 10 (some .boolean) [] room_1 (k + 2) (n + 12) 1625 [(0, .ref l0), (1, .ref l1), (2, .ref l2), (3, .ref l3), (4, .ref l4), (5, .int l5)] [] (qL_law_1625 N L xs c28 l0 l1 l2 l3 l4 l5) := by
  subst hl0
  unfold qL_law_1625
  refine os_goto (off := 412) (tgt := 2037) rfl (hL_law.at 929 rfl rfl) ?_
  exact osW.widen (k' := k + 3) (n' := n + 18) (by omega) (by omega) (osW.sub [0, 1, 2, 3, 4, 5] rfl (sL_law_2037 N L xs hend k n hk hn c28 g28 l0 l1 l2 l3 l4 l5 rfl))
set_option maxRecDepth 100000 in
set_option maxHeartbeats 4000000 in
theorem sL_law_1592 (N L : Nat) (xs : Nat → Int32) {b : Nat} {Qf : List Frame → State → State → Prop} (hend : ∀ (k n : Nat) (lv : List (Nat × Value)), k ≤ 601024 → n ≤ 7293034 → osW (osFinL b L xs Qf) yL_law cL_law 10 (some .boolean) [] room_1 k n 2044 lv [.int (1 : Int32)] (osret (1 : Int32))) (k n : Nat) (hk : k + 6 ≤ 601024) (hn : n + 60 ≤ 7293034) (c28 : Nat × Nat × Nat × Nat × Nat × Int32 → osM Int32) (g28 : ∀ (l0 : Nat) (l1 : Nat) (l2 : Nat) (l3 : Nat) (l4 : Nat) (l5 : Int32), l0 = b → osW (osFinL b L xs Qf) yL_law cL_law 10 (some .boolean) [] room_1 (k + 6) (n + 60) 28 [(0, .ref l0), (1, .ref l1), (2, .ref l2), (3, .ref l3), (4, .ref l4), (5, .int l5)] [] (c28 (l0, l1, l2, l3, l4, l5))) (l0 : Nat) (l1 : Nat) (l2 : Nat) (l3 : Nat) (l4 : Nat) (l5 : Int32) (l6 : Int32) (k0 : Int32) (k1 : Int32) (k2 : Int32) (k3 : Nat) (hl0 : l0 = b) : osW (osFinL b L xs Qf) yL_law cL_law 10 (some .boolean) [] room_1 (k + 2) (n + 12) 1592 [(0, .ref l0), (1, .ref l1), (2, .ref l2), (3, .ref l3), (4, .ref l4), (5, .int l5), (6, .int l6)] [.int k0, .int k1, .int k2, .ref k3] (qL_law_1592 N L xs c28 l0 l1 l2 l3 l4 l5 l6 k0 k1 k2 k3) := by
  subst hl0
  unfold qL_law_1592
  refine os_callV (cis := [8]) (b := k3) (As := [.int k2, .int k1, .int k0]) (st := []) (st' := (fun r => .int r :: [])) sl8_X10_reach_X10_reach mdX10_reach wd2217 wd2218 (sX10_reach N k3 k2 k1 k0) rfl rfl (fun _ => rfl) (Nat.le_of_ble_eq_true rfl) (Nat.le_of_ble_eq_true rfl) (Nat.le_of_ble_eq_true rfl) rfl (by show _ ≤ 601024; omega) rfl (by show _ ≤ 7293034; omega) (hL_law.at 910 rfl rfl) (fun x1 => ?_)
  refine os_istore (i := 7) (lv' := [(7, .int x1), (0, .ref l0), (1, .ref l1), (2, .ref l2), (3, .ref l3), (4, .ref l4), (5, .int l5), (6, .int l6)]) (Nat.le_of_ble_eq_true rfl) rfl (hL_law.at 911 rfl rfl) ?_
  refine os_aload_n (i := 2) (q := 2) (v := l2) 3 rfl rfl (hL_law.at 912 rfl rfl) ?_
  refine os_callV (cis := [8]) (b := l2) (As := []) (st := []) (st' := (fun r => .int r :: [])) sl8_X10_thrown_X10_thrown mdX10_thrown wd1734 wd1735 (sX10_thrown N l2 ) rfl rfl (fun _ => rfl) (Nat.le_of_ble_eq_true rfl) (Nat.le_of_ble_eq_true rfl) (Nat.le_of_ble_eq_true rfl) rfl (by show _ ≤ 601024; omega) rfl (by show _ ≤ 7293034; omega) (hL_law.at 913 rfl rfl) (fun x2 => ?_)
  refine os_iload (v := l6) 7 rfl (hL_law.at 914 rfl rfl) ?_
  refine os_icmp_eq (off := 5) (tgt := 1608) rfl (hL_law.at 915 rfl rfl) ?_ ?_
  · refine os_iload (v := l6) 7 rfl (hL_law.at 918 rfl rfl) ?_
    refine os_if_ne (off := 15) (tgt := 1625) rfl (hL_law.at 919 rfl rfl) ?_ ?_
    · exact osW.widen (k' := k + 2) (n' := n + 12) (by omega) (by omega) (osW.sub [1, 2, 3, 4, 5, 6] rfl (sL_law_1625 N L xs hend k n hk hn c28 g28 l0 l1 l2 l3 l4 l5 rfl))
    · refine os_aload_n (i := 3) (q := 3) (v := l3) 4 rfl rfl (hL_law.at 920 rfl rfl) ?_
      refine os_iconst (i := 0) (v := (0 : Int32)) rfl (hL_law.at 921 rfl rfl) ?_
      refine os_laload (hL_law.at 922 rfl rfl) (fun x3 => ?_)
      refine os_iload (v := x1) 0 rfl (hL_law.at 923 rfl rfl) ?_
      refine os_i2l (hL_law.at 924 rfl rfl) ?_
      refine os_lcmp (hL_law.at 925 rfl rfl) ?_
      refine os_if_eq (off := 5) (tgt := 1625) rfl (hL_law.at 926 rfl rfl) ?_ ?_
      · exact osW.widen (k' := k + 2) (n' := n + 12) (by omega) (by omega) (osW.sub [1, 2, 3, 4, 5, 6] rfl (sL_law_1625 N L xs hend k n hk hn c28 g28 l0 l1 l2 l3 l4 l5 rfl))
      · refine os_iconst (i := 0) (v := (0 : Int32)) rfl (hL_law.at 927 rfl rfl) ?_
        exact os_lawno _ (by decide)
  · refine os_iconst (i := 0) (v := (0 : Int32)) rfl (hL_law.at 916 rfl rfl) ?_
    exact os_lawno _ (by decide)
set_option maxRecDepth 100000 in
set_option maxHeartbeats 4000000 in
theorem sL_law_1559 (N L : Nat) (xs : Nat → Int32) {b : Nat} {Qf : List Frame → State → State → Prop} (hend : ∀ (k n : Nat) (lv : List (Nat × Value)), k ≤ 601024 → n ≤ 7293034 → osW (osFinL b L xs Qf) yL_law cL_law 10 (some .boolean) [] room_1 k n 2044 lv [.int (1 : Int32)] (osret (1 : Int32))) (k n : Nat) (hk : k + 6 ≤ 601024) (hn : n + 60 ≤ 7293034) (c28 : Nat × Nat × Nat × Nat × Nat × Int32 → osM Int32) (g28 : ∀ (l0 : Nat) (l1 : Nat) (l2 : Nat) (l3 : Nat) (l4 : Nat) (l5 : Int32), l0 = b → osW (osFinL b L xs Qf) yL_law cL_law 10 (some .boolean) [] room_1 (k + 6) (n + 60) 28 [(0, .ref l0), (1, .ref l1), (2, .ref l2), (3, .ref l3), (4, .ref l4), (5, .int l5)] [] (c28 (l0, l1, l2, l3, l4, l5))) (l0 : Nat) (l1 : Nat) (l2 : Nat) (l3 : Nat) (l4 : Nat) (l5 : Int32) (k0 : Int32) (k1 : Int32) (k2 : Int32) (k3 : Nat) (hl0 : l0 = b) : osW (osFinL b L xs Qf) yL_law cL_law 10 (some .boolean) [] room_1 (k + 0) (n + 0) 1559 [(0, .ref l0), (1, .ref l1), (2, .ref l2), (3, .ref l3), (4, .ref l4), (5, .int l5)] [.int k0, .int k1, .int k2, .ref k3] (qL_law_1559 N L xs c28 l0 l1 l2 l3 l4 l5 k0 k1 k2 k3) := by
  subst hl0
  unfold qL_law_1559
  refine os_aload_n (i := 3) (q := 3) (v := l3) 3 rfl rfl (hL_law.at 887 rfl rfl) ?_
  refine os_callSH (As := [.ref k3, .int k2, .int k1, .int k0, .ref l3]) (st := []) (st' := (fun r => .int r :: [])) wd1492 wd150 (by decide +kernel) (by decide +kernel) wd1490 wd1491 (sL_reach N k3 k2 k1 k0 l3) rfl rfl (fun _ => rfl) (Nat.le_of_ble_eq_true rfl) (Nat.le_of_ble_eq_true rfl) (Nat.le_of_ble_eq_true rfl) rfl (by show _ ≤ 601024; omega) rfl (by show _ ≤ 7293034; omega) (hL_law.at 888 rfl rfl) (fun x1 => ?_)
  refine os_istore (i := 6) (lv' := [(6, .int x1), (0, .ref l0), (1, .ref l1), (2, .ref l2), (3, .ref l3), (4, .ref l4), (5, .int l5)]) (Nat.le_of_ble_eq_true rfl) rfl (hL_law.at 889 rfl rfl) ?_
  refine os_aload_n (i := 2) (q := 2) (v := l2) 3 rfl rfl (hL_law.at 890 rfl rfl) ?_
  refine os_aload_n (i := 0) (q := 0) (v := l0) 1 rfl rfl (hL_law.at 891 rfl rfl) ?_
  refine os_iload (v := l5) 6 rfl (hL_law.at 892 rfl rfl) ?_
  refine os_iconst (i := 1) (v := (1 : Int32)) rfl (hL_law.at 893 rfl rfl) ?_
  refine os_iadd (hL_law.at 894 rfl rfl) ?_
  refine os_sld (hL_law.at 895 rfl rfl) (fun x2 => ?_)
  refine os_aload_n (i := 0) (q := 0) (v := l0) 1 rfl rfl (hL_law.at 896 rfl rfl) ?_
  refine os_iload (v := l5) 6 rfl (hL_law.at 897 rfl rfl) ?_
  refine os_iconst (i := 2) (v := (2 : Int32)) rfl (hL_law.at 898 rfl rfl) ?_
  refine os_iadd (hL_law.at 899 rfl rfl) ?_
  refine os_sld (hL_law.at 900 rfl rfl) (fun x3 => ?_)
  refine os_aload_n (i := 0) (q := 0) (v := l0) 1 rfl rfl (hL_law.at 901 rfl rfl) ?_
  refine os_iload (v := l5) 6 rfl (hL_law.at 902 rfl rfl) ?_
  refine os_iconst (i := 3) (v := (3 : Int32)) rfl (hL_law.at 903 rfl rfl) ?_
  refine os_iadd (hL_law.at 904 rfl rfl) ?_
  refine os_sld (hL_law.at 905 rfl rfl) (fun x4 => ?_)
  refine os_if_eq (off := 7) (tgt := 1591) rfl (hL_law.at 906 rfl rfl) ?_ ?_
  · refine os_iconst (i := 0) (v := (0 : Int32)) rfl (hL_law.at 909 rfl rfl) ?_
    exact osW.widen (k' := k + 2) (n' := n + 12) (by omega) (by omega) (osW.sub [1, 2, 3, 4, 5, 6, 0] rfl (sL_law_1592 N L xs hend k n hk hn c28 g28 l0 l1 l2 l3 l4 l5 x1 (0 : Int32) x3 x2 l2 rfl))
  · refine os_iconst (i := 1) (v := (1 : Int32)) rfl (hL_law.at 907 rfl rfl) ?_
    refine os_goto (off := 4) (tgt := 1592) rfl (hL_law.at 908 rfl rfl) ?_
    exact osW.widen (k' := k + 2) (n' := n + 12) (by omega) (by omega) (osW.sub [1, 2, 3, 4, 5, 6, 0] rfl (sL_law_1592 N L xs hend k n hk hn c28 g28 l0 l1 l2 l3 l4 l5 x1 (1 : Int32) x3 x2 l2 rfl))
set_option maxRecDepth 100000 in
set_option maxHeartbeats 4000000 in
theorem sL_law_1688 (N L : Nat) (xs : Nat → Int32) {b : Nat} {Qf : List Frame → State → State → Prop} (hend : ∀ (k n : Nat) (lv : List (Nat × Value)), k ≤ 601024 → n ≤ 7293034 → osW (osFinL b L xs Qf) yL_law cL_law 10 (some .boolean) [] room_1 k n 2044 lv [.int (1 : Int32)] (osret (1 : Int32))) (k n : Nat) (hk : k + 6 ≤ 601024) (hn : n + 60 ≤ 7293034) (c28 : Nat × Nat × Nat × Nat × Nat × Int32 → osM Int32) (g28 : ∀ (l0 : Nat) (l1 : Nat) (l2 : Nat) (l3 : Nat) (l4 : Nat) (l5 : Int32), l0 = b → osW (osFinL b L xs Qf) yL_law cL_law 10 (some .boolean) [] room_1 (k + 6) (n + 60) 28 [(0, .ref l0), (1, .ref l1), (2, .ref l2), (3, .ref l3), (4, .ref l4), (5, .int l5)] [] (c28 (l0, l1, l2, l3, l4, l5))) (l0 : Nat) (l1 : Nat) (l2 : Nat) (l3 : Nat) (l4 : Nat) (l5 : Int32) (hl0 : l0 = b) : osW (osFinL b L xs Qf) yL_law cL_law 10 (some .boolean) [] room_1 (k + 1) (n + 6) 1688 [(0, .ref l0), (1, .ref l1), (2, .ref l2), (3, .ref l3), (4, .ref l4), (5, .int l5)] [] (qL_law_1688 N L xs c28 l0 l1 l2 l3 l4 l5) := by
  subst hl0
  unfold qL_law_1688
  refine os_goto (off := 349) (tgt := 2037) rfl (hL_law.at 967 rfl rfl) ?_
  exact osW.widen (k' := k + 3) (n' := n + 18) (by omega) (by omega) (osW.sub [0, 1, 2, 3, 4, 5] rfl (sL_law_2037 N L xs hend k n hk hn c28 g28 l0 l1 l2 l3 l4 l5 rfl))
set_option maxRecDepth 100000 in
set_option maxHeartbeats 4000000 in
theorem sL_law_1682 (N L : Nat) (xs : Nat → Int32) {b : Nat} {Qf : List Frame → State → State → Prop} (hend : ∀ (k n : Nat) (lv : List (Nat × Value)), k ≤ 601024 → n ≤ 7293034 → osW (osFinL b L xs Qf) yL_law cL_law 10 (some .boolean) [] room_1 k n 2044 lv [.int (1 : Int32)] (osret (1 : Int32))) (k n : Nat) (hk : k + 6 ≤ 601024) (hn : n + 60 ≤ 7293034) (c28 : Nat × Nat × Nat × Nat × Nat × Int32 → osM Int32) (g28 : ∀ (l0 : Nat) (l1 : Nat) (l2 : Nat) (l3 : Nat) (l4 : Nat) (l5 : Int32), l0 = b → osW (osFinL b L xs Qf) yL_law cL_law 10 (some .boolean) [] room_1 (k + 6) (n + 60) 28 [(0, .ref l0), (1, .ref l1), (2, .ref l2), (3, .ref l3), (4, .ref l4), (5, .int l5)] [] (c28 (l0, l1, l2, l3, l4, l5))) (l0 : Nat) (l1 : Nat) (l2 : Nat) (l3 : Nat) (l4 : Nat) (l5 : Int32) (k0 : Int64) (k1 : Int64) (hl0 : l0 = b) : osW (osFinL b L xs Qf) yL_law cL_law 10 (some .boolean) [] room_1 (k + 1) (n + 6) 1682 [(0, .ref l0), (1, .ref l1), (2, .ref l2), (3, .ref l3), (4, .ref l4), (5, .int l5)] [.long k0, .long k1] (qL_law_1682 N L xs c28 l0 l1 l2 l3 l4 l5 k0 k1) := by
  subst hl0
  unfold qL_law_1682
  refine os_lcmp (hL_law.at 963 rfl rfl) ?_
  refine os_if_eq (off := 5) (tgt := 1688) rfl (hL_law.at 964 rfl rfl) ?_ ?_
  · exact osW.widen (k' := k + 1) (n' := n + 6) (by omega) (by omega) (osW.sub [0, 1, 2, 3, 4, 5] rfl (sL_law_1688 N L xs hend k n hk hn c28 g28 l0 l1 l2 l3 l4 l5 rfl))
  · refine os_iconst (i := 0) (v := (0 : Int32)) rfl (hL_law.at 965 rfl rfl) ?_
    exact os_lawno _ (by decide)
set_option maxRecDepth 100000 in
set_option maxHeartbeats 4000000 in
theorem sL_law_1766 (N L : Nat) (xs : Nat → Int32) {b : Nat} {Qf : List Frame → State → State → Prop} (hend : ∀ (k n : Nat) (lv : List (Nat × Value)), k ≤ 601024 → n ≤ 7293034 → osW (osFinL b L xs Qf) yL_law cL_law 10 (some .boolean) [] room_1 k n 2044 lv [.int (1 : Int32)] (osret (1 : Int32))) (k n : Nat) (hk : k + 6 ≤ 601024) (hn : n + 60 ≤ 7293034) (c28 : Nat × Nat × Nat × Nat × Nat × Int32 → osM Int32) (g28 : ∀ (l0 : Nat) (l1 : Nat) (l2 : Nat) (l3 : Nat) (l4 : Nat) (l5 : Int32), l0 = b → osW (osFinL b L xs Qf) yL_law cL_law 10 (some .boolean) [] room_1 (k + 6) (n + 60) 28 [(0, .ref l0), (1, .ref l1), (2, .ref l2), (3, .ref l3), (4, .ref l4), (5, .int l5)] [] (c28 (l0, l1, l2, l3, l4, l5))) (l0 : Nat) (l1 : Nat) (l2 : Nat) (l3 : Nat) (l4 : Nat) (l5 : Int32) (hl0 : l0 = b) : osW (osFinL b L xs Qf) yL_law cL_law 10 (some .boolean) [] room_1 (k + 1) (n + 6) 1766 [(0, .ref l0), (1, .ref l1), (2, .ref l2), (3, .ref l3), (4, .ref l4), (5, .int l5)] [] (qL_law_1766 N L xs c28 l0 l1 l2 l3 l4 l5) := by
  subst hl0
  unfold qL_law_1766
  refine os_goto (off := 271) (tgt := 2037) rfl (hL_law.at 1014 rfl rfl) ?_
  exact osW.widen (k' := k + 3) (n' := n + 18) (by omega) (by omega) (osW.sub [0, 1, 2, 3, 4, 5] rfl (sL_law_2037 N L xs hend k n hk hn c28 g28 l0 l1 l2 l3 l4 l5 rfl))
set_option maxRecDepth 100000 in
set_option maxHeartbeats 4000000 in
theorem sL_law_1764 (N L : Nat) (xs : Nat → Int32) {b : Nat} {Qf : List Frame → State → State → Prop} (hend : ∀ (k n : Nat) (lv : List (Nat × Value)), k ≤ 601024 → n ≤ 7293034 → osW (osFinL b L xs Qf) yL_law cL_law 10 (some .boolean) [] room_1 k n 2044 lv [.int (1 : Int32)] (osret (1 : Int32))) (k n : Nat) (hk : k + 6 ≤ 601024) (hn : n + 60 ≤ 7293034) (c28 : Nat × Nat × Nat × Nat × Nat × Int32 → osM Int32) (g28 : ∀ (l0 : Nat) (l1 : Nat) (l2 : Nat) (l3 : Nat) (l4 : Nat) (l5 : Int32), l0 = b → osW (osFinL b L xs Qf) yL_law cL_law 10 (some .boolean) [] room_1 (k + 6) (n + 60) 28 [(0, .ref l0), (1, .ref l1), (2, .ref l2), (3, .ref l3), (4, .ref l4), (5, .int l5)] [] (c28 (l0, l1, l2, l3, l4, l5))) : osW (osFinL b L xs Qf) yL_law cL_law 10 (some .boolean) [] room_1 (k + 1) (n + 6) 1764 [] [] (qL_law_1764 N L xs c28) := by
  unfold qL_law_1764
  refine os_iconst (i := 0) (v := (0 : Int32)) rfl (hL_law.at 1012 rfl rfl) ?_
  exact os_lawno _ (by decide)
set_option maxRecDepth 100000 in
set_option maxHeartbeats 4000000 in
theorem sL_law_1822 (N L : Nat) (xs : Nat → Int32) {b : Nat} {Qf : List Frame → State → State → Prop} (hend : ∀ (k n : Nat) (lv : List (Nat × Value)), k ≤ 601024 → n ≤ 7293034 → osW (osFinL b L xs Qf) yL_law cL_law 10 (some .boolean) [] room_1 k n 2044 lv [.int (1 : Int32)] (osret (1 : Int32))) (k n : Nat) (hk : k + 6 ≤ 601024) (hn : n + 60 ≤ 7293034) (c28 : Nat × Nat × Nat × Nat × Nat × Int32 → osM Int32) (g28 : ∀ (l0 : Nat) (l1 : Nat) (l2 : Nat) (l3 : Nat) (l4 : Nat) (l5 : Int32), l0 = b → osW (osFinL b L xs Qf) yL_law cL_law 10 (some .boolean) [] room_1 (k + 6) (n + 60) 28 [(0, .ref l0), (1, .ref l1), (2, .ref l2), (3, .ref l3), (4, .ref l4), (5, .int l5)] [] (c28 (l0, l1, l2, l3, l4, l5))) (l0 : Nat) (l1 : Nat) (l2 : Nat) (l3 : Nat) (l4 : Nat) (l5 : Int32) (hl0 : l0 = b) : osW (osFinL b L xs Qf) yL_law cL_law 10 (some .boolean) [] room_1 (k + 1) (n + 6) 1822 [(0, .ref l0), (1, .ref l1), (2, .ref l2), (3, .ref l3), (4, .ref l4), (5, .int l5)] [] (qL_law_1822 N L xs c28 l0 l1 l2 l3 l4 l5) := by
  subst hl0
  unfold qL_law_1822
  refine os_goto (off := 215) (tgt := 2037) rfl (hL_law.at 1049 rfl rfl) ?_
  exact osW.widen (k' := k + 3) (n' := n + 18) (by omega) (by omega) (osW.sub [0, 1, 2, 3, 4, 5] rfl (sL_law_2037 N L xs hend k n hk hn c28 g28 l0 l1 l2 l3 l4 l5 rfl))
set_option maxRecDepth 100000 in
set_option maxHeartbeats 4000000 in
theorem sL_law_1863 (N L : Nat) (xs : Nat → Int32) {b : Nat} {Qf : List Frame → State → State → Prop} (hend : ∀ (k n : Nat) (lv : List (Nat × Value)), k ≤ 601024 → n ≤ 7293034 → osW (osFinL b L xs Qf) yL_law cL_law 10 (some .boolean) [] room_1 k n 2044 lv [.int (1 : Int32)] (osret (1 : Int32))) (k n : Nat) (hk : k + 6 ≤ 601024) (hn : n + 60 ≤ 7293034) (c28 : Nat × Nat × Nat × Nat × Nat × Int32 → osM Int32) (g28 : ∀ (l0 : Nat) (l1 : Nat) (l2 : Nat) (l3 : Nat) (l4 : Nat) (l5 : Int32), l0 = b → osW (osFinL b L xs Qf) yL_law cL_law 10 (some .boolean) [] room_1 (k + 6) (n + 60) 28 [(0, .ref l0), (1, .ref l1), (2, .ref l2), (3, .ref l3), (4, .ref l4), (5, .int l5)] [] (c28 (l0, l1, l2, l3, l4, l5))) (l0 : Nat) (l1 : Nat) (l2 : Nat) (l3 : Nat) (l4 : Nat) (l5 : Int32) (hl0 : l0 = b) : osW (osFinL b L xs Qf) yL_law cL_law 10 (some .boolean) [] room_1 (k + 0) (n + 0) 1863 [(0, .ref l0), (1, .ref l1), (2, .ref l2), (3, .ref l3), (4, .ref l4), (5, .int l5)] [] (qL_law_1863 N L xs c28 l0 l1 l2 l3 l4 l5) := by
  subst hl0
  unfold qL_law_1863
  refine os_goto (off := 174) (tgt := 2037) rfl (hL_law.at 1070 rfl rfl) ?_
  exact osW.widen (k' := k + 3) (n' := n + 18) (by omega) (by omega) (osW.sub [0, 1, 2, 3, 4, 5] rfl (sL_law_2037 N L xs hend k n hk hn c28 g28 l0 l1 l2 l3 l4 l5 rfl))
set_option maxRecDepth 100000 in
set_option maxHeartbeats 4000000 in
theorem sL_law_1861 (N L : Nat) (xs : Nat → Int32) {b : Nat} {Qf : List Frame → State → State → Prop} (hend : ∀ (k n : Nat) (lv : List (Nat × Value)), k ≤ 601024 → n ≤ 7293034 → osW (osFinL b L xs Qf) yL_law cL_law 10 (some .boolean) [] room_1 k n 2044 lv [.int (1 : Int32)] (osret (1 : Int32))) (k n : Nat) (hk : k + 6 ≤ 601024) (hn : n + 60 ≤ 7293034) (c28 : Nat × Nat × Nat × Nat × Nat × Int32 → osM Int32) (g28 : ∀ (l0 : Nat) (l1 : Nat) (l2 : Nat) (l3 : Nat) (l4 : Nat) (l5 : Int32), l0 = b → osW (osFinL b L xs Qf) yL_law cL_law 10 (some .boolean) [] room_1 (k + 6) (n + 60) 28 [(0, .ref l0), (1, .ref l1), (2, .ref l2), (3, .ref l3), (4, .ref l4), (5, .int l5)] [] (c28 (l0, l1, l2, l3, l4, l5))) : osW (osFinL b L xs Qf) yL_law cL_law 10 (some .boolean) [] room_1 (k + 0) (n + 0) 1861 [] [] (qL_law_1861 N L xs c28) := by
  unfold qL_law_1861
  refine os_iconst (i := 0) (v := (0 : Int32)) rfl (hL_law.at 1068 rfl rfl) ?_
  exact os_lawno _ (by decide)
set_option maxRecDepth 100000 in
set_option maxHeartbeats 4000000 in
theorem sL_law_1921 (N L : Nat) (xs : Nat → Int32) {b : Nat} {Qf : List Frame → State → State → Prop} (hend : ∀ (k n : Nat) (lv : List (Nat × Value)), k ≤ 601024 → n ≤ 7293034 → osW (osFinL b L xs Qf) yL_law cL_law 10 (some .boolean) [] room_1 k n 2044 lv [.int (1 : Int32)] (osret (1 : Int32))) (k n : Nat) (hk : k + 6 ≤ 601024) (hn : n + 60 ≤ 7293034) (c28 : Nat × Nat × Nat × Nat × Nat × Int32 → osM Int32) (g28 : ∀ (l0 : Nat) (l1 : Nat) (l2 : Nat) (l3 : Nat) (l4 : Nat) (l5 : Int32), l0 = b → osW (osFinL b L xs Qf) yL_law cL_law 10 (some .boolean) [] room_1 (k + 6) (n + 60) 28 [(0, .ref l0), (1, .ref l1), (2, .ref l2), (3, .ref l3), (4, .ref l4), (5, .int l5)] [] (c28 (l0, l1, l2, l3, l4, l5))) (l0 : Nat) (l1 : Nat) (l2 : Nat) (l3 : Nat) (l4 : Nat) (l5 : Int32) (hl0 : l0 = b) : osW (osFinL b L xs Qf) yL_law cL_law 10 (some .boolean) [] room_1 (k + 1) (n + 6) 1921 [(0, .ref l0), (1, .ref l1), (2, .ref l2), (3, .ref l3), (4, .ref l4), (5, .int l5)] [] (qL_law_1921 N L xs c28 l0 l1 l2 l3 l4 l5) := by
  subst hl0
  unfold qL_law_1921
  refine os_goto (off := 116) (tgt := 2037) rfl (hL_law.at 1103 rfl rfl) ?_
  exact osW.widen (k' := k + 3) (n' := n + 18) (by omega) (by omega) (osW.sub [0, 1, 2, 3, 4, 5] rfl (sL_law_2037 N L xs hend k n hk hn c28 g28 l0 l1 l2 l3 l4 l5 rfl))
set_option maxRecDepth 100000 in
set_option maxHeartbeats 4000000 in
theorem sL_law_1978 (N L : Nat) (xs : Nat → Int32) {b : Nat} {Qf : List Frame → State → State → Prop} (hend : ∀ (k n : Nat) (lv : List (Nat × Value)), k ≤ 601024 → n ≤ 7293034 → osW (osFinL b L xs Qf) yL_law cL_law 10 (some .boolean) [] room_1 k n 2044 lv [.int (1 : Int32)] (osret (1 : Int32))) (k n : Nat) (hk : k + 6 ≤ 601024) (hn : n + 60 ≤ 7293034) (c28 : Nat × Nat × Nat × Nat × Nat × Int32 → osM Int32) (g28 : ∀ (l0 : Nat) (l1 : Nat) (l2 : Nat) (l3 : Nat) (l4 : Nat) (l5 : Int32), l0 = b → osW (osFinL b L xs Qf) yL_law cL_law 10 (some .boolean) [] room_1 (k + 6) (n + 60) 28 [(0, .ref l0), (1, .ref l1), (2, .ref l2), (3, .ref l3), (4, .ref l4), (5, .int l5)] [] (c28 (l0, l1, l2, l3, l4, l5))) (l0 : Nat) (l1 : Nat) (l2 : Nat) (l3 : Nat) (l4 : Nat) (l5 : Int32) (hl0 : l0 = b) : osW (osFinL b L xs Qf) yL_law cL_law 10 (some .boolean) [] room_1 (k + 1) (n + 6) 1978 [(0, .ref l0), (1, .ref l1), (2, .ref l2), (3, .ref l3), (4, .ref l4), (5, .int l5)] [] (qL_law_1978 N L xs c28 l0 l1 l2 l3 l4 l5) := by
  subst hl0
  unfold qL_law_1978
  refine os_goto (off := 59) (tgt := 2037) rfl (hL_law.at 1135 rfl rfl) ?_
  exact osW.widen (k' := k + 3) (n' := n + 18) (by omega) (by omega) (osW.sub [0, 1, 2, 3, 4, 5] rfl (sL_law_2037 N L xs hend k n hk hn c28 g28 l0 l1 l2 l3 l4 l5 rfl))
set_option maxRecDepth 100000 in
set_option maxHeartbeats 4000000 in
theorem sL_law_2034 (N L : Nat) (xs : Nat → Int32) {b : Nat} {Qf : List Frame → State → State → Prop} (hend : ∀ (k n : Nat) (lv : List (Nat × Value)), k ≤ 601024 → n ≤ 7293034 → osW (osFinL b L xs Qf) yL_law cL_law 10 (some .boolean) [] room_1 k n 2044 lv [.int (1 : Int32)] (osret (1 : Int32))) (k n : Nat) (hk : k + 6 ≤ 601024) (hn : n + 60 ≤ 7293034) (c28 : Nat × Nat × Nat × Nat × Nat × Int32 → osM Int32) (g28 : ∀ (l0 : Nat) (l1 : Nat) (l2 : Nat) (l3 : Nat) (l4 : Nat) (l5 : Int32), l0 = b → osW (osFinL b L xs Qf) yL_law cL_law 10 (some .boolean) [] room_1 (k + 6) (n + 60) 28 [(0, .ref l0), (1, .ref l1), (2, .ref l2), (3, .ref l3), (4, .ref l4), (5, .int l5)] [] (c28 (l0, l1, l2, l3, l4, l5))) (l0 : Nat) (l1 : Nat) (l2 : Nat) (l3 : Nat) (l4 : Nat) (l5 : Int32) (hl0 : l0 = b) : osW (osFinL b L xs Qf) yL_law cL_law 10 (some .boolean) [] room_1 (k + 1) (n + 6) 2034 [(0, .ref l0), (1, .ref l1), (2, .ref l2), (3, .ref l3), (4, .ref l4), (5, .int l5)] [] (qL_law_2034 N L xs c28 l0 l1 l2 l3 l4 l5) := by
  subst hl0
  unfold qL_law_2034
  refine os_goto (off := 3) (tgt := 2037) rfl (hL_law.at 1170 rfl rfl) ?_
  exact osW.widen (k' := k + 3) (n' := n + 18) (by omega) (by omega) (osW.sub [0, 1, 2, 3, 4, 5] rfl (sL_law_2037 N L xs hend k n hk hn c28 g28 l0 l1 l2 l3 l4 l5 rfl))
set_option maxRecDepth 100000 in
set_option maxHeartbeats 4000000 in
theorem tL_law_28 (N L : Nat) (xs : Nat → Int32) {b : Nat} {Qf : List Frame → State → State → Prop} (hend : ∀ (k n : Nat) (lv : List (Nat × Value)), k ≤ 601024 → n ≤ 7293034 → osW (osFinL b L xs Qf) yL_law cL_law 10 (some .boolean) [] room_1 k n 2044 lv [.int (1 : Int32)] (osret (1 : Int32))) (k n : Nat) (hk : k + 6 ≤ 601024) (hn : n + 60 ≤ 7293034) (c28 : Nat × Nat × Nat × Nat × Nat × Int32 → osM Int32) (g28 : ∀ (l0 : Nat) (l1 : Nat) (l2 : Nat) (l3 : Nat) (l4 : Nat) (l5 : Int32), l0 = b → osW (osFinL b L xs Qf) yL_law cL_law 10 (some .boolean) [] room_1 (k + 6) (n + 60) 28 [(0, .ref l0), (1, .ref l1), (2, .ref l2), (3, .ref l3), (4, .ref l4), (5, .int l5)] [] (c28 (l0, l1, l2, l3, l4, l5))) (l0 : Nat) (l1 : Nat) (l2 : Nat) (l3 : Nat) (l4 : Nat) (l5 : Int32) (hl0 : l0 = b) : osW (osFinL b L xs Qf) yL_law cL_law 10 (some .boolean) [] room_1 k n 28 [(0, .ref l0), (1, .ref l1), (2, .ref l2), (3, .ref l3), (4, .ref l4), (5, .int l5)] [] (bL_law_28 N L xs c28 l0 l1 l2 l3 l4 l5) := by
  subst hl0
  unfold bL_law_28
  refine os_iload (v := l5) 5 rfl (hL_law.at 16 rfl rfl) ?_
  refine os_aload_n (i := 0) (q := 0) (v := l0) 0 rfl rfl (hL_law.at 17 rfl rfl) ?_
  refine os_slen (hL_law.at 18 rfl rfl) (fun x1 => ?_)
  refine os_bipush (i := 6) (v := (6 : Int32)) rfl (hL_law.at 19 rfl rfl) ?_
  refine os_isub (hL_law.at 20 rfl rfl) ?_
  refine os_icmp_gt (off := 2008) (tgt := 2043) rfl (hL_law.at 21 rfl rfl) ?_ ?_
  · refine os_iconst (i := 1) (v := (1 : Int32)) rfl (hL_law.at 1173 rfl rfl) ?_
    exact hend _ _ _ (by omega) (by omega)
  · refine os_aload_n (i := 0) (q := 0) (v := l0) 0 rfl rfl (hL_law.at 22 rfl rfl) ?_
    refine os_iload (v := l5) 5 rfl (hL_law.at 23 rfl rfl) ?_
    refine os_sld (hL_law.at 24 rfl rfl) (fun x2 => ?_)
    refine os_bipush (i := 63) (v := (63 : Int32)) rfl (hL_law.at 25 rfl rfl) ?_
    refine os_iand (hL_law.at 26 rfl rfl) ?_
    refine os_tableswitch (dflt := 1992) (lo := 0) (hi := 35) (offs := #[159, 263, 319, 375, 388, 401, 414, 427, 495, 551, 654, 750, 818, 831, 844, 912, 956, 1024, 1068, 1131, 1206, 1250, 1294, 1338, 1351, 1419, 1487, 1583, 1646, 1724, 1780, 1821, 1835, 1879, 1892, 1936]) (tgt := 2037) rfl rfl (hL_law.at 27 rfl rfl) ?_ ?_
    · refine ⟨⟨204, rfl, ?_⟩, ⟨308, rfl, ?_⟩, ⟨364, rfl, ?_⟩, ⟨420, rfl, ?_⟩, ⟨433, rfl, ?_⟩, ⟨446, rfl, ?_⟩, ⟨459, rfl, ?_⟩, ⟨472, rfl, ?_⟩, ⟨540, rfl, ?_⟩, ⟨596, rfl, ?_⟩, ⟨699, rfl, ?_⟩, ⟨795, rfl, ?_⟩, ⟨863, rfl, ?_⟩, ⟨876, rfl, ?_⟩, ⟨889, rfl, ?_⟩, ⟨957, rfl, ?_⟩, ⟨1001, rfl, ?_⟩, ⟨1069, rfl, ?_⟩, ⟨1113, rfl, ?_⟩, ⟨1176, rfl, ?_⟩, ⟨1251, rfl, ?_⟩, ⟨1295, rfl, ?_⟩, ⟨1339, rfl, ?_⟩, ⟨1383, rfl, ?_⟩, ⟨1396, rfl, ?_⟩, ⟨1464, rfl, ?_⟩, ⟨1532, rfl, ?_⟩, ⟨1628, rfl, ?_⟩, ⟨1691, rfl, ?_⟩, ⟨1769, rfl, ?_⟩, ⟨1825, rfl, ?_⟩, ⟨1866, rfl, ?_⟩, ⟨1880, rfl, ?_⟩, ⟨1924, rfl, ?_⟩, ⟨1937, rfl, ?_⟩, ⟨1981, rfl, ?_⟩, trivial⟩
      · refine os_aload_n (i := 1) (q := 1) (v := l1) 1 rfl rfl (hL_law.at 28 rfl rfl) ?_
        refine os_aload_n (i := 0) (q := 0) (v := l0) 0 rfl rfl (hL_law.at 29 rfl rfl) ?_
        refine os_iload (v := l5) 5 rfl (hL_law.at 30 rfl rfl) ?_
        refine os_iconst (i := 1) (v := (1 : Int32)) rfl (hL_law.at 31 rfl rfl) ?_
        refine os_iadd (hL_law.at 32 rfl rfl) ?_
        refine os_sld (hL_law.at 33 rfl rfl) (fun x3 => ?_)
        refine os_aload_n (i := 0) (q := 0) (v := l0) 0 rfl rfl (hL_law.at 34 rfl rfl) ?_
        refine os_iload (v := l5) 5 rfl (hL_law.at 35 rfl rfl) ?_
        refine os_iconst (i := 2) (v := (2 : Int32)) rfl (hL_law.at 36 rfl rfl) ?_
        refine os_iadd (hL_law.at 37 rfl rfl) ?_
        refine os_sld (hL_law.at 38 rfl rfl) (fun x4 => ?_)
        refine os_aload_n (i := 0) (q := 0) (v := l0) 0 rfl rfl (hL_law.at 39 rfl rfl) ?_
        refine os_iload (v := l5) 5 rfl (hL_law.at 40 rfl rfl) ?_
        refine os_iconst (i := 3) (v := (3 : Int32)) rfl (hL_law.at 41 rfl rfl) ?_
        refine os_iadd (hL_law.at 42 rfl rfl) ?_
        refine os_sld (hL_law.at 43 rfl rfl) (fun x5 => ?_)
        refine os_aload_n (i := 0) (q := 0) (v := l0) 0 rfl rfl (hL_law.at 44 rfl rfl) ?_
        refine os_iload (v := l5) 5 rfl (hL_law.at 45 rfl rfl) ?_
        refine os_iconst (i := 4) (v := (4 : Int32)) rfl (hL_law.at 46 rfl rfl) ?_
        refine os_iadd (hL_law.at 47 rfl rfl) ?_
        refine os_sld (hL_law.at 48 rfl rfl) (fun x6 => ?_)
        refine os_aload_n (i := 0) (q := 0) (v := l0) 0 rfl rfl (hL_law.at 49 rfl rfl) ?_
        refine os_iload (v := l5) 5 rfl (hL_law.at 50 rfl rfl) ?_
        refine os_iconst (i := 5) (v := (5 : Int32)) rfl (hL_law.at 51 rfl rfl) ?_
        refine os_iadd (hL_law.at 52 rfl rfl) ?_
        refine os_sld (hL_law.at 53 rfl rfl) (fun x7 => ?_)
        refine os_aload_n (i := 3) (q := 3) (v := l3) 3 rfl rfl (hL_law.at 54 rfl rfl) ?_
        refine os_callSH (As := [.ref l1, .int x3, .int x4, .int x5, .int x6, .int x7, .ref l3]) (st := []) (st' := (fun r => .int r :: [])) wd708 wd150 (by decide +kernel) (by decide +kernel) wd706 wd707 (sL_feed N l1 x3 x4 x5 x6 x7 l3) rfl rfl (fun _ => rfl) (Nat.le_of_ble_eq_true rfl) (Nat.le_of_ble_eq_true rfl) (Nat.le_of_ble_eq_true rfl) rfl (by show _ ≤ 601024; omega) rfl (by show _ ≤ 7293034; omega) (hL_law.at 55 rfl rfl) (fun x8 => ?_)
        refine os_istore (i := 6) (lv' := [(6, .int x8), (0, .ref l0), (1, .ref l1), (2, .ref l2), (3, .ref l3), (4, .ref l4), (5, .int l5)]) (Nat.le_of_ble_eq_true rfl) rfl (hL_law.at 56 rfl rfl) ?_
        refine os_aload_n (i := 2) (q := 2) (v := l2) 3 rfl rfl (hL_law.at 57 rfl rfl) ?_
        refine os_aload_n (i := 0) (q := 0) (v := l0) 1 rfl rfl (hL_law.at 58 rfl rfl) ?_
        refine os_iload (v := l5) 6 rfl (hL_law.at 59 rfl rfl) ?_
        refine os_iconst (i := 1) (v := (1 : Int32)) rfl (hL_law.at 60 rfl rfl) ?_
        refine os_iadd (hL_law.at 61 rfl rfl) ?_
        refine os_sld (hL_law.at 62 rfl rfl) (fun x9 => ?_)
        refine os_aload_n (i := 0) (q := 0) (v := l0) 1 rfl rfl (hL_law.at 63 rfl rfl) ?_
        refine os_iload (v := l5) 6 rfl (hL_law.at 64 rfl rfl) ?_
        refine os_iconst (i := 2) (v := (2 : Int32)) rfl (hL_law.at 65 rfl rfl) ?_
        refine os_iadd (hL_law.at 66 rfl rfl) ?_
        refine os_sld (hL_law.at 67 rfl rfl) (fun x10 => ?_)
        refine os_aload_n (i := 0) (q := 0) (v := l0) 1 rfl rfl (hL_law.at 68 rfl rfl) ?_
        refine os_iload (v := l5) 6 rfl (hL_law.at 69 rfl rfl) ?_
        refine os_iconst (i := 3) (v := (3 : Int32)) rfl (hL_law.at 70 rfl rfl) ?_
        refine os_iadd (hL_law.at 71 rfl rfl) ?_
        refine os_sld (hL_law.at 72 rfl rfl) (fun x11 => ?_)
        refine os_aload_n (i := 0) (q := 0) (v := l0) 1 rfl rfl (hL_law.at 73 rfl rfl) ?_
        refine os_iload (v := l5) 6 rfl (hL_law.at 74 rfl rfl) ?_
        refine os_iconst (i := 4) (v := (4 : Int32)) rfl (hL_law.at 75 rfl rfl) ?_
        refine os_iadd (hL_law.at 76 rfl rfl) ?_
        refine os_sld (hL_law.at 77 rfl rfl) (fun x12 => ?_)
        refine os_aload_n (i := 0) (q := 0) (v := l0) 1 rfl rfl (hL_law.at 78 rfl rfl) ?_
        refine os_iload (v := l5) 6 rfl (hL_law.at 79 rfl rfl) ?_
        refine os_iconst (i := 5) (v := (5 : Int32)) rfl (hL_law.at 80 rfl rfl) ?_
        refine os_iadd (hL_law.at 81 rfl rfl) ?_
        refine os_sld (hL_law.at 82 rfl rfl) (fun x13 => ?_)
        refine os_callV (cis := [8]) (b := l2) (As := [.int x9, .int x10, .int x11, .int x12, .int x13]) (st := []) (st' := (fun r => .int r :: [])) sl8_X10_feed_X10_feed mdX10_feed wd1738 wd1739 (sX10_feed N l2 x9 x10 x11 x12 x13) rfl rfl (fun _ => rfl) (Nat.le_of_ble_eq_true rfl) (Nat.le_of_ble_eq_true rfl) (Nat.le_of_ble_eq_true rfl) rfl (by show _ ≤ 601024; omega) rfl (by show _ ≤ 7293034; omega) (hL_law.at 83 rfl rfl) (fun x14 => ?_)
        refine os_istore (i := 7) (lv' := [(7, .int x14), (6, .int x8), (0, .ref l0), (1, .ref l1), (2, .ref l2), (3, .ref l3), (4, .ref l4), (5, .int l5)]) (Nat.le_of_ble_eq_true rfl) rfl (hL_law.at 84 rfl rfl) ?_
        refine os_aload_n (i := 2) (q := 2) (v := l2) 4 rfl rfl (hL_law.at 85 rfl rfl) ?_
        refine os_callV (cis := [8]) (b := l2) (As := []) (st := []) (st' := (fun r => .int r :: [])) sl8_X10_thrown_X10_thrown mdX10_thrown wd1734 wd1735 (sX10_thrown N l2 ) rfl rfl (fun _ => rfl) (Nat.le_of_ble_eq_true rfl) (Nat.le_of_ble_eq_true rfl) (Nat.le_of_ble_eq_true rfl) rfl (by show _ ≤ 601024; omega) rfl (by show _ ≤ 7293034; omega) (hL_law.at 86 rfl rfl) (fun x15 => ?_)
        refine os_iload (v := x8) 1 rfl (hL_law.at 87 rfl rfl) ?_
        refine os_icmp_eq (off := 5) (tgt := 288) rfl (hL_law.at 88 rfl rfl) ?_ ?_
        · refine os_iload (v := x8) 1 rfl (hL_law.at 91 rfl rfl) ?_
          refine os_if_ne (off := 15) (tgt := 305) rfl (hL_law.at 92 rfl rfl) ?_ ?_
          · exact osW.widen (k' := k + 1) (n' := n + 6) (by omega) (by omega) (osW.sub [2, 3, 4, 5, 6, 7] rfl (sL_law_305 N L xs hend k n hk hn c28 g28 l0 l1 l2 l3 l4 l5 rfl))
          · refine os_aload_n (i := 3) (q := 3) (v := l3) 5 rfl rfl (hL_law.at 93 rfl rfl) ?_
            refine os_iconst (i := 0) (v := (0 : Int32)) rfl (hL_law.at 94 rfl rfl) ?_
            refine os_laload (hL_law.at 95 rfl rfl) (fun x16 => ?_)
            refine os_iload (v := x14) 0 rfl (hL_law.at 96 rfl rfl) ?_
            refine os_i2l (hL_law.at 97 rfl rfl) ?_
            refine os_lcmp (hL_law.at 98 rfl rfl) ?_
            refine os_if_eq (off := 5) (tgt := 305) rfl (hL_law.at 99 rfl rfl) ?_ ?_
            · exact osW.widen (k' := k + 1) (n' := n + 6) (by omega) (by omega) (osW.sub [2, 3, 4, 5, 6, 7] rfl (sL_law_305 N L xs hend k n hk hn c28 g28 l0 l1 l2 l3 l4 l5 rfl))
            · refine os_iconst (i := 0) (v := (0 : Int32)) rfl (hL_law.at 100 rfl rfl) ?_
              exact os_lawno _ (by decide)
        · refine os_iconst (i := 0) (v := (0 : Int32)) rfl (hL_law.at 89 rfl rfl) ?_
          exact os_lawno _ (by decide)
      · refine os_aload_n (i := 1) (q := 1) (v := l1) 1 rfl rfl (hL_law.at 103 rfl rfl) ?_
        refine os_aload_n (i := 0) (q := 0) (v := l0) 0 rfl rfl (hL_law.at 104 rfl rfl) ?_
        refine os_iload (v := l5) 5 rfl (hL_law.at 105 rfl rfl) ?_
        refine os_iconst (i := 1) (v := (1 : Int32)) rfl (hL_law.at 106 rfl rfl) ?_
        refine os_iadd (hL_law.at 107 rfl rfl) ?_
        refine os_sld (hL_law.at 108 rfl rfl) (fun x17 => ?_)
        refine os_aload_n (i := 3) (q := 3) (v := l3) 3 rfl rfl (hL_law.at 109 rfl rfl) ?_
        refine os_callSH (As := [.ref l1, .int x17, .ref l3]) (st := []) (st' := (fun r => .int r :: [])) wd788 wd150 (by decide +kernel) (by decide +kernel) wd786 wd787 (sL_load N l1 x17 l3) rfl rfl (fun _ => rfl) (Nat.le_of_ble_eq_true rfl) (Nat.le_of_ble_eq_true rfl) (Nat.le_of_ble_eq_true rfl) rfl (by show _ ≤ 601024; omega) rfl (by show _ ≤ 7293034; omega) (hL_law.at 110 rfl rfl) (fun x18 => ?_)
        refine os_istore (i := 6) (lv' := [(6, .int x18), (0, .ref l0), (1, .ref l1), (2, .ref l2), (3, .ref l3), (4, .ref l4), (5, .int l5)]) (Nat.le_of_ble_eq_true rfl) rfl (hL_law.at 111 rfl rfl) ?_
        refine os_aload_n (i := 2) (q := 2) (v := l2) 3 rfl rfl (hL_law.at 112 rfl rfl) ?_
        refine os_aload_n (i := 0) (q := 0) (v := l0) 1 rfl rfl (hL_law.at 113 rfl rfl) ?_
        refine os_iload (v := l5) 6 rfl (hL_law.at 114 rfl rfl) ?_
        refine os_iconst (i := 1) (v := (1 : Int32)) rfl (hL_law.at 115 rfl rfl) ?_
        refine os_iadd (hL_law.at 116 rfl rfl) ?_
        refine os_sld (hL_law.at 117 rfl rfl) (fun x19 => ?_)
        refine os_callV (cis := [8]) (b := l2) (As := [.int x19]) (st := []) (st' := (fun r => .int r :: [])) sl8_X10_load_X10_load mdX10_load wd1762 wd1763 (sX10_load N l2 x19) rfl rfl (fun _ => rfl) (Nat.le_of_ble_eq_true rfl) (Nat.le_of_ble_eq_true rfl) (Nat.le_of_ble_eq_true rfl) rfl (by show _ ≤ 601024; omega) rfl (by show _ ≤ 7293034; omega) (hL_law.at 118 rfl rfl) (fun x20 => ?_)
        refine os_istore (i := 7) (lv' := [(7, .int x20), (6, .int x18), (0, .ref l0), (1, .ref l1), (2, .ref l2), (3, .ref l3), (4, .ref l4), (5, .int l5)]) (Nat.le_of_ble_eq_true rfl) rfl (hL_law.at 119 rfl rfl) ?_
        refine os_aload_n (i := 2) (q := 2) (v := l2) 4 rfl rfl (hL_law.at 120 rfl rfl) ?_
        refine os_callV (cis := [8]) (b := l2) (As := []) (st := []) (st' := (fun r => .int r :: [])) sl8_X10_thrown_X10_thrown mdX10_thrown wd1734 wd1735 (sX10_thrown N l2 ) rfl rfl (fun _ => rfl) (Nat.le_of_ble_eq_true rfl) (Nat.le_of_ble_eq_true rfl) (Nat.le_of_ble_eq_true rfl) rfl (by show _ ≤ 601024; omega) rfl (by show _ ≤ 7293034; omega) (hL_law.at 121 rfl rfl) (fun x21 => ?_)
        refine os_iload (v := x18) 1 rfl (hL_law.at 122 rfl rfl) ?_
        refine os_icmp_eq (off := 5) (tgt := 344) rfl (hL_law.at 123 rfl rfl) ?_ ?_
        · refine os_iload (v := x18) 1 rfl (hL_law.at 126 rfl rfl) ?_
          refine os_if_ne (off := 15) (tgt := 361) rfl (hL_law.at 127 rfl rfl) ?_ ?_
          · exact osW.widen (k' := k + 2) (n' := n + 12) (by omega) (by omega) (osW.sub [2, 3, 4, 5, 6, 7] rfl (sL_law_361 N L xs hend k n hk hn c28 g28 l0 l1 l2 l3 l4 l5 rfl))
          · refine os_aload_n (i := 3) (q := 3) (v := l3) 5 rfl rfl (hL_law.at 128 rfl rfl) ?_
            refine os_iconst (i := 0) (v := (0 : Int32)) rfl (hL_law.at 129 rfl rfl) ?_
            refine os_laload (hL_law.at 130 rfl rfl) (fun x22 => ?_)
            refine os_iload (v := x20) 0 rfl (hL_law.at 131 rfl rfl) ?_
            refine os_i2l (hL_law.at 132 rfl rfl) ?_
            refine os_lcmp (hL_law.at 133 rfl rfl) ?_
            refine os_if_eq (off := 5) (tgt := 361) rfl (hL_law.at 134 rfl rfl) ?_ ?_
            · exact osW.widen (k' := k + 2) (n' := n + 12) (by omega) (by omega) (osW.sub [2, 3, 4, 5, 6, 7] rfl (sL_law_361 N L xs hend k n hk hn c28 g28 l0 l1 l2 l3 l4 l5 rfl))
            · refine os_iconst (i := 0) (v := (0 : Int32)) rfl (hL_law.at 135 rfl rfl) ?_
              exact os_lawno _ (by decide)
        · refine os_iconst (i := 0) (v := (0 : Int32)) rfl (hL_law.at 124 rfl rfl) ?_
          exact os_lawno _ (by decide)
      · refine os_aload_n (i := 1) (q := 1) (v := l1) 1 rfl rfl (hL_law.at 138 rfl rfl) ?_
        refine os_aload_n (i := 0) (q := 0) (v := l0) 0 rfl rfl (hL_law.at 139 rfl rfl) ?_
        refine os_iload (v := l5) 5 rfl (hL_law.at 140 rfl rfl) ?_
        refine os_iconst (i := 1) (v := (1 : Int32)) rfl (hL_law.at 141 rfl rfl) ?_
        refine os_iadd (hL_law.at 142 rfl rfl) ?_
        refine os_sld (hL_law.at 143 rfl rfl) (fun x23 => ?_)
        refine os_aload_n (i := 3) (q := 3) (v := l3) 3 rfl rfl (hL_law.at 144 rfl rfl) ?_
        refine os_callSH (As := [.ref l1, .int x23, .ref l3]) (st := []) (st' := (fun r => .int r :: [])) wd996 wd150 (by decide +kernel) (by decide +kernel) wd994 wd995 (sL_tell N l1 x23 l3) rfl rfl (fun _ => rfl) (Nat.le_of_ble_eq_true rfl) (Nat.le_of_ble_eq_true rfl) (Nat.le_of_ble_eq_true rfl) rfl (by show _ ≤ 601024; omega) rfl (by show _ ≤ 7293034; omega) (hL_law.at 145 rfl rfl) (fun x24 => ?_)
        refine os_istore (i := 6) (lv' := [(6, .int x24), (0, .ref l0), (1, .ref l1), (2, .ref l2), (3, .ref l3), (4, .ref l4), (5, .int l5)]) (Nat.le_of_ble_eq_true rfl) rfl (hL_law.at 146 rfl rfl) ?_
        refine os_aload_n (i := 2) (q := 2) (v := l2) 3 rfl rfl (hL_law.at 147 rfl rfl) ?_
        refine os_aload_n (i := 0) (q := 0) (v := l0) 1 rfl rfl (hL_law.at 148 rfl rfl) ?_
        refine os_iload (v := l5) 6 rfl (hL_law.at 149 rfl rfl) ?_
        refine os_iconst (i := 1) (v := (1 : Int32)) rfl (hL_law.at 150 rfl rfl) ?_
        refine os_iadd (hL_law.at 151 rfl rfl) ?_
        refine os_sld (hL_law.at 152 rfl rfl) (fun x25 => ?_)
        refine os_callV (cis := [8]) (b := l2) (As := [.int x25]) (st := []) (st' := (fun r => .int r :: [])) sl8_X10_tell_X10_tell mdX10_tell wd1894 wd1895 (sX10_tell N l2 x25) rfl rfl (fun _ => rfl) (Nat.le_of_ble_eq_true rfl) (Nat.le_of_ble_eq_true rfl) (Nat.le_of_ble_eq_true rfl) rfl (by show _ ≤ 601024; omega) rfl (by show _ ≤ 7293034; omega) (hL_law.at 153 rfl rfl) (fun x26 => ?_)
        refine os_istore (i := 7) (lv' := [(7, .int x26), (6, .int x24), (0, .ref l0), (1, .ref l1), (2, .ref l2), (3, .ref l3), (4, .ref l4), (5, .int l5)]) (Nat.le_of_ble_eq_true rfl) rfl (hL_law.at 154 rfl rfl) ?_
        refine os_aload_n (i := 2) (q := 2) (v := l2) 4 rfl rfl (hL_law.at 155 rfl rfl) ?_
        refine os_callV (cis := [8]) (b := l2) (As := []) (st := []) (st' := (fun r => .int r :: [])) sl8_X10_thrown_X10_thrown mdX10_thrown wd1734 wd1735 (sX10_thrown N l2 ) rfl rfl (fun _ => rfl) (Nat.le_of_ble_eq_true rfl) (Nat.le_of_ble_eq_true rfl) (Nat.le_of_ble_eq_true rfl) rfl (by show _ ≤ 601024; omega) rfl (by show _ ≤ 7293034; omega) (hL_law.at 156 rfl rfl) (fun x27 => ?_)
        refine os_iload (v := x24) 1 rfl (hL_law.at 157 rfl rfl) ?_
        refine os_icmp_eq (off := 5) (tgt := 400) rfl (hL_law.at 158 rfl rfl) ?_ ?_
        · refine os_iload (v := x24) 1 rfl (hL_law.at 161 rfl rfl) ?_
          refine os_if_ne (off := 15) (tgt := 417) rfl (hL_law.at 162 rfl rfl) ?_ ?_
          · exact osW.widen (k' := k + 2) (n' := n + 12) (by omega) (by omega) (osW.sub [2, 3, 4, 5, 6, 7] rfl (sL_law_417 N L xs hend k n hk hn c28 g28 l0 l1 l2 l3 l4 l5 rfl))
          · refine os_aload_n (i := 3) (q := 3) (v := l3) 5 rfl rfl (hL_law.at 163 rfl rfl) ?_
            refine os_iconst (i := 0) (v := (0 : Int32)) rfl (hL_law.at 164 rfl rfl) ?_
            refine os_laload (hL_law.at 165 rfl rfl) (fun x28 => ?_)
            refine os_iload (v := x26) 0 rfl (hL_law.at 166 rfl rfl) ?_
            refine os_i2l (hL_law.at 167 rfl rfl) ?_
            refine os_lcmp (hL_law.at 168 rfl rfl) ?_
            refine os_if_eq (off := 5) (tgt := 417) rfl (hL_law.at 169 rfl rfl) ?_ ?_
            · exact osW.widen (k' := k + 2) (n' := n + 12) (by omega) (by omega) (osW.sub [2, 3, 4, 5, 6, 7] rfl (sL_law_417 N L xs hend k n hk hn c28 g28 l0 l1 l2 l3 l4 l5 rfl))
            · refine os_iconst (i := 0) (v := (0 : Int32)) rfl (hL_law.at 170 rfl rfl) ?_
              exact os_lawno _ (by decide)
        · refine os_iconst (i := 0) (v := (0 : Int32)) rfl (hL_law.at 159 rfl rfl) ?_
          exact os_lawno _ (by decide)
      · refine os_aload_n (i := 1) (q := 1) (v := l1) 1 rfl rfl (hL_law.at 173 rfl rfl) ?_
        refine os_callV (cis := [7]) (b := l1) (As := []) (st := []) (st' := (fun r => .int r :: [])) sl7_X9_errorCode_X9_errorCode mdX9_errorCode wd572 wd573 (sX9_errorCode N l1 ) rfl rfl (fun _ => rfl) (Nat.le_of_ble_eq_true rfl) (Nat.le_of_ble_eq_true rfl) (Nat.le_of_ble_eq_true rfl) rfl (by show _ ≤ 601024; omega) rfl (by show _ ≤ 7293034; omega) (hL_law.at 174 rfl rfl) (fun x29 => ?_)
        refine os_aload_n (i := 2) (q := 2) (v := l2) 2 rfl rfl (hL_law.at 175 rfl rfl) ?_
        refine os_callV (cis := [8]) (b := l2) (As := []) (st := [.int x29]) (st' := (fun r => .int r :: [.int x29])) sl8_X10_errorCode_X10_errorCode mdX10_errorCode wd1750 wd1751 (sX10_errorCode N l2 ) rfl rfl (fun _ => rfl) (Nat.le_of_ble_eq_true rfl) (Nat.le_of_ble_eq_true rfl) (Nat.le_of_ble_eq_true rfl) rfl (by show _ ≤ 601024; omega) rfl (by show _ ≤ 7293034; omega) (hL_law.at 176 rfl rfl) (fun x30 => ?_)
        refine os_icmp_eq (off := 1609) (tgt := 2037) rfl (hL_law.at 177 rfl rfl) ?_ ?_
        · exact osW.widen (k' := k + 3) (n' := n + 18) (by omega) (by omega) (osW.sub [0, 1, 2, 3, 4, 5] rfl (sL_law_2037 N L xs hend k n hk hn c28 g28 l0 l1 l2 l3 l4 l5 rfl))
        · refine os_iconst (i := 0) (v := (0 : Int32)) rfl (hL_law.at 178 rfl rfl) ?_
          exact os_lawno _ (by decide)
      · refine os_aload_n (i := 1) (q := 1) (v := l1) 1 rfl rfl (hL_law.at 180 rfl rfl) ?_
        refine os_callV (cis := [7]) (b := l1) (As := []) (st := []) (st' := (fun r => .int r :: [])) sl7_X9_errorPosition_X9_errorPosition mdX9_errorPosition wd576 wd577 (sX9_errorPosition N l1 ) rfl rfl (fun _ => rfl) (Nat.le_of_ble_eq_true rfl) (Nat.le_of_ble_eq_true rfl) (Nat.le_of_ble_eq_true rfl) rfl (by show _ ≤ 601024; omega) rfl (by show _ ≤ 7293034; omega) (hL_law.at 181 rfl rfl) (fun x31 => ?_)
        refine os_aload_n (i := 2) (q := 2) (v := l2) 2 rfl rfl (hL_law.at 182 rfl rfl) ?_
        refine os_callV (cis := [8]) (b := l2) (As := []) (st := [.int x31]) (st' := (fun r => .int r :: [.int x31])) sl8_X10_errorPosition_X10_errorPosition mdX10_errorPosition wd1758 wd1759 (sX10_errorPosition N l2 ) rfl rfl (fun _ => rfl) (Nat.le_of_ble_eq_true rfl) (Nat.le_of_ble_eq_true rfl) (Nat.le_of_ble_eq_true rfl) rfl (by show _ ≤ 601024; omega) rfl (by show _ ≤ 7293034; omega) (hL_law.at 183 rfl rfl) (fun x32 => ?_)
        refine os_icmp_eq (off := 1596) (tgt := 2037) rfl (hL_law.at 184 rfl rfl) ?_ ?_
        · exact osW.widen (k' := k + 3) (n' := n + 18) (by omega) (by omega) (osW.sub [0, 1, 2, 3, 4, 5] rfl (sL_law_2037 N L xs hend k n hk hn c28 g28 l0 l1 l2 l3 l4 l5 rfl))
        · refine os_iconst (i := 0) (v := (0 : Int32)) rfl (hL_law.at 185 rfl rfl) ?_
          exact os_lawno _ (by decide)
      · refine os_aload_n (i := 1) (q := 1) (v := l1) 1 rfl rfl (hL_law.at 187 rfl rfl) ?_
        refine os_callV (cis := [7]) (b := l1) (As := []) (st := []) (st' := (fun r => .int r :: [])) sl7_X9_areas_X9_areas mdX9_areas wd580 wd581 (sX9_areas N l1 ) rfl rfl (fun _ => rfl) (Nat.le_of_ble_eq_true rfl) (Nat.le_of_ble_eq_true rfl) (Nat.le_of_ble_eq_true rfl) rfl (by show _ ≤ 601024; omega) rfl (by show _ ≤ 7293034; omega) (hL_law.at 188 rfl rfl) (fun x33 => ?_)
        refine os_aload_n (i := 2) (q := 2) (v := l2) 2 rfl rfl (hL_law.at 189 rfl rfl) ?_
        refine os_callV (cis := [8]) (b := l2) (As := []) (st := [.int x33]) (st' := (fun r => .int r :: [.int x33])) sl8_X10_areas_X10_areas mdX10_areas wd2001 wd2002 (sX10_areas N l2 ) rfl rfl (fun _ => rfl) (Nat.le_of_ble_eq_true rfl) (Nat.le_of_ble_eq_true rfl) (Nat.le_of_ble_eq_true rfl) rfl (by show _ ≤ 601024; omega) rfl (by show _ ≤ 7293034; omega) (hL_law.at 190 rfl rfl) (fun x34 => ?_)
        refine os_icmp_eq (off := 1583) (tgt := 2037) rfl (hL_law.at 191 rfl rfl) ?_ ?_
        · exact osW.widen (k' := k + 3) (n' := n + 18) (by omega) (by omega) (osW.sub [0, 1, 2, 3, 4, 5] rfl (sL_law_2037 N L xs hend k n hk hn c28 g28 l0 l1 l2 l3 l4 l5 rfl))
        · refine os_iconst (i := 0) (v := (0 : Int32)) rfl (hL_law.at 192 rfl rfl) ?_
          exact os_lawno _ (by decide)
      · refine os_aload_n (i := 1) (q := 1) (v := l1) 1 rfl rfl (hL_law.at 194 rfl rfl) ?_
        refine os_callV (cis := [7]) (b := l1) (As := []) (st := []) (st' := (fun r => .int r :: [])) sl7_X9_powers_X9_powers mdX9_powers wd584 wd585 (sX9_powers N l1 ) rfl rfl (fun _ => rfl) (Nat.le_of_ble_eq_true rfl) (Nat.le_of_ble_eq_true rfl) (Nat.le_of_ble_eq_true rfl) rfl (by show _ ≤ 601024; omega) rfl (by show _ ≤ 7293034; omega) (hL_law.at 195 rfl rfl) (fun x35 => ?_)
        refine os_aload_n (i := 2) (q := 2) (v := l2) 2 rfl rfl (hL_law.at 196 rfl rfl) ?_
        refine os_callV (cis := [8]) (b := l2) (As := []) (st := [.int x35]) (st' := (fun r => .int r :: [.int x35])) sl8_X10_powers_X10_powers mdX10_powers wd2005 wd2006 (sX10_powers N l2 ) rfl rfl (fun _ => rfl) (Nat.le_of_ble_eq_true rfl) (Nat.le_of_ble_eq_true rfl) (Nat.le_of_ble_eq_true rfl) rfl (by show _ ≤ 601024; omega) rfl (by show _ ≤ 7293034; omega) (hL_law.at 197 rfl rfl) (fun x36 => ?_)
        refine os_icmp_eq (off := 1570) (tgt := 2037) rfl (hL_law.at 198 rfl rfl) ?_ ?_
        · exact osW.widen (k' := k + 3) (n' := n + 18) (by omega) (by omega) (osW.sub [0, 1, 2, 3, 4, 5] rfl (sL_law_2037 N L xs hend k n hk hn c28 g28 l0 l1 l2 l3 l4 l5 rfl))
        · refine os_iconst (i := 0) (v := (0 : Int32)) rfl (hL_law.at 199 rfl rfl) ?_
          exact os_lawno _ (by decide)
      · refine os_aload_n (i := 1) (q := 1) (v := l1) 1 rfl rfl (hL_law.at 201 rfl rfl) ?_
        refine os_aload_n (i := 0) (q := 0) (v := l0) 0 rfl rfl (hL_law.at 202 rfl rfl) ?_
        refine os_iload (v := l5) 5 rfl (hL_law.at 203 rfl rfl) ?_
        refine os_iconst (i := 1) (v := (1 : Int32)) rfl (hL_law.at 204 rfl rfl) ?_
        refine os_iadd (hL_law.at 205 rfl rfl) ?_
        refine os_sld (hL_law.at 206 rfl rfl) (fun x37 => ?_)
        refine os_aload_n (i := 0) (q := 0) (v := l0) 0 rfl rfl (hL_law.at 207 rfl rfl) ?_
        refine os_iload (v := l5) 5 rfl (hL_law.at 208 rfl rfl) ?_
        refine os_iconst (i := 2) (v := (2 : Int32)) rfl (hL_law.at 209 rfl rfl) ?_
        refine os_iadd (hL_law.at 210 rfl rfl) ?_
        refine os_sld (hL_law.at 211 rfl rfl) (fun x38 => ?_)
        refine os_aload_n (i := 3) (q := 3) (v := l3) 3 rfl rfl (hL_law.at 212 rfl rfl) ?_
        refine os_callSH (As := [.ref l1, .int x37, .int x38, .ref l3]) (st := []) (st' := (fun r => .int r :: [])) wd1163 wd150 (by decide +kernel) (by decide +kernel) wd1161 wd1162 (sL_area N l1 x37 x38 l3) rfl rfl (fun _ => rfl) (Nat.le_of_ble_eq_true rfl) (Nat.le_of_ble_eq_true rfl) (Nat.le_of_ble_eq_true rfl) rfl (by show _ ≤ 601024; omega) rfl (by show _ ≤ 7293034; omega) (hL_law.at 213 rfl rfl) (fun x39 => ?_)
        refine os_istore (i := 6) (lv' := [(6, .int x39), (0, .ref l0), (1, .ref l1), (2, .ref l2), (3, .ref l3), (4, .ref l4), (5, .int l5)]) (Nat.le_of_ble_eq_true rfl) rfl (hL_law.at 214 rfl rfl) ?_
        refine os_aload_n (i := 2) (q := 2) (v := l2) 3 rfl rfl (hL_law.at 215 rfl rfl) ?_
        refine os_aload_n (i := 0) (q := 0) (v := l0) 1 rfl rfl (hL_law.at 216 rfl rfl) ?_
        refine os_iload (v := l5) 6 rfl (hL_law.at 217 rfl rfl) ?_
        refine os_iconst (i := 1) (v := (1 : Int32)) rfl (hL_law.at 218 rfl rfl) ?_
        refine os_iadd (hL_law.at 219 rfl rfl) ?_
        refine os_sld (hL_law.at 220 rfl rfl) (fun x40 => ?_)
        refine os_aload_n (i := 0) (q := 0) (v := l0) 1 rfl rfl (hL_law.at 221 rfl rfl) ?_
        refine os_iload (v := l5) 6 rfl (hL_law.at 222 rfl rfl) ?_
        refine os_iconst (i := 2) (v := (2 : Int32)) rfl (hL_law.at 223 rfl rfl) ?_
        refine os_iadd (hL_law.at 224 rfl rfl) ?_
        refine os_sld (hL_law.at 225 rfl rfl) (fun x41 => ?_)
        refine os_callV (cis := [8]) (b := l2) (As := [.int x40, .int x41]) (st := []) (st' := (fun r => .int r :: [])) sl8_X10_area_X10_area mdX10_area wd2009 wd2010 (sX10_area N l2 x40 x41) rfl rfl (fun _ => rfl) (Nat.le_of_ble_eq_true rfl) (Nat.le_of_ble_eq_true rfl) (Nat.le_of_ble_eq_true rfl) rfl (by show _ ≤ 601024; omega) rfl (by show _ ≤ 7293034; omega) (hL_law.at 226 rfl rfl) (fun x42 => ?_)
        refine os_istore (i := 7) (lv' := [(7, .int x42), (6, .int x39), (0, .ref l0), (1, .ref l1), (2, .ref l2), (3, .ref l3), (4, .ref l4), (5, .int l5)]) (Nat.le_of_ble_eq_true rfl) rfl (hL_law.at 227 rfl rfl) ?_
        refine os_aload_n (i := 2) (q := 2) (v := l2) 4 rfl rfl (hL_law.at 228 rfl rfl) ?_
        refine os_callV (cis := [8]) (b := l2) (As := []) (st := []) (st' := (fun r => .int r :: [])) sl8_X10_thrown_X10_thrown mdX10_thrown wd1734 wd1735 (sX10_thrown N l2 ) rfl rfl (fun _ => rfl) (Nat.le_of_ble_eq_true rfl) (Nat.le_of_ble_eq_true rfl) (Nat.le_of_ble_eq_true rfl) rfl (by show _ ≤ 601024; omega) rfl (by show _ ≤ 7293034; omega) (hL_law.at 229 rfl rfl) (fun x43 => ?_)
        refine os_iload (v := x39) 1 rfl (hL_law.at 230 rfl rfl) ?_
        refine os_icmp_eq (off := 5) (tgt := 520) rfl (hL_law.at 231 rfl rfl) ?_ ?_
        · refine os_iload (v := x39) 1 rfl (hL_law.at 234 rfl rfl) ?_
          refine os_if_ne (off := 15) (tgt := 537) rfl (hL_law.at 235 rfl rfl) ?_ ?_
          · exact osW.widen (k' := k + 2) (n' := n + 12) (by omega) (by omega) (osW.sub [2, 3, 4, 5, 6, 7] rfl (sL_law_537 N L xs hend k n hk hn c28 g28 l0 l1 l2 l3 l4 l5 rfl))
          · refine os_aload_n (i := 3) (q := 3) (v := l3) 5 rfl rfl (hL_law.at 236 rfl rfl) ?_
            refine os_iconst (i := 0) (v := (0 : Int32)) rfl (hL_law.at 237 rfl rfl) ?_
            refine os_laload (hL_law.at 238 rfl rfl) (fun x44 => ?_)
            refine os_iload (v := x42) 0 rfl (hL_law.at 239 rfl rfl) ?_
            refine os_i2l (hL_law.at 240 rfl rfl) ?_
            refine os_lcmp (hL_law.at 241 rfl rfl) ?_
            refine os_if_eq (off := 5) (tgt := 537) rfl (hL_law.at 242 rfl rfl) ?_ ?_
            · exact osW.widen (k' := k + 2) (n' := n + 12) (by omega) (by omega) (osW.sub [2, 3, 4, 5, 6, 7] rfl (sL_law_537 N L xs hend k n hk hn c28 g28 l0 l1 l2 l3 l4 l5 rfl))
            · refine os_iconst (i := 0) (v := (0 : Int32)) rfl (hL_law.at 243 rfl rfl) ?_
              exact os_lawno _ (by decide)
        · refine os_iconst (i := 0) (v := (0 : Int32)) rfl (hL_law.at 232 rfl rfl) ?_
          exact os_lawno _ (by decide)
      · refine os_aload_n (i := 1) (q := 1) (v := l1) 1 rfl rfl (hL_law.at 246 rfl rfl) ?_
        refine os_aload_n (i := 0) (q := 0) (v := l0) 0 rfl rfl (hL_law.at 247 rfl rfl) ?_
        refine os_iload (v := l5) 5 rfl (hL_law.at 248 rfl rfl) ?_
        refine os_iconst (i := 1) (v := (1 : Int32)) rfl (hL_law.at 249 rfl rfl) ?_
        refine os_iadd (hL_law.at 250 rfl rfl) ?_
        refine os_sld (hL_law.at 251 rfl rfl) (fun x45 => ?_)
        refine os_aload_n (i := 3) (q := 3) (v := l3) 3 rfl rfl (hL_law.at 252 rfl rfl) ?_
        refine os_callSH (As := [.ref l1, .int x45, .ref l3]) (st := []) (st' := (fun r => .int r :: [])) wd1202 wd150 (by decide +kernel) (by decide +kernel) wd1200 wd1201 (sL_named N l1 x45 l3) rfl rfl (fun _ => rfl) (Nat.le_of_ble_eq_true rfl) (Nat.le_of_ble_eq_true rfl) (Nat.le_of_ble_eq_true rfl) rfl (by show _ ≤ 601024; omega) rfl (by show _ ≤ 7293034; omega) (hL_law.at 253 rfl rfl) (fun x46 => ?_)
        refine os_istore (i := 6) (lv' := [(6, .int x46), (0, .ref l0), (1, .ref l1), (2, .ref l2), (3, .ref l3), (4, .ref l4), (5, .int l5)]) (Nat.le_of_ble_eq_true rfl) rfl (hL_law.at 254 rfl rfl) ?_
        refine os_aload_n (i := 2) (q := 2) (v := l2) 3 rfl rfl (hL_law.at 255 rfl rfl) ?_
        refine os_aload_n (i := 0) (q := 0) (v := l0) 1 rfl rfl (hL_law.at 256 rfl rfl) ?_
        refine os_iload (v := l5) 6 rfl (hL_law.at 257 rfl rfl) ?_
        refine os_iconst (i := 1) (v := (1 : Int32)) rfl (hL_law.at 258 rfl rfl) ?_
        refine os_iadd (hL_law.at 259 rfl rfl) ?_
        refine os_sld (hL_law.at 260 rfl rfl) (fun x47 => ?_)
        refine os_callV (cis := [8]) (b := l2) (As := [.int x47]) (st := []) (st' := (fun r => .int r :: [])) sl8_X10_named_X10_named mdX10_named wd2021 wd2022 (sX10_named N l2 x47) rfl rfl (fun _ => rfl) (Nat.le_of_ble_eq_true rfl) (Nat.le_of_ble_eq_true rfl) (Nat.le_of_ble_eq_true rfl) rfl (by show _ ≤ 601024; omega) rfl (by show _ ≤ 7293034; omega) (hL_law.at 261 rfl rfl) (fun x48 => ?_)
        refine os_istore (i := 7) (lv' := [(7, .int x48), (6, .int x46), (0, .ref l0), (1, .ref l1), (2, .ref l2), (3, .ref l3), (4, .ref l4), (5, .int l5)]) (Nat.le_of_ble_eq_true rfl) rfl (hL_law.at 262 rfl rfl) ?_
        refine os_aload_n (i := 2) (q := 2) (v := l2) 4 rfl rfl (hL_law.at 263 rfl rfl) ?_
        refine os_callV (cis := [8]) (b := l2) (As := []) (st := []) (st' := (fun r => .int r :: [])) sl8_X10_thrown_X10_thrown mdX10_thrown wd1734 wd1735 (sX10_thrown N l2 ) rfl rfl (fun _ => rfl) (Nat.le_of_ble_eq_true rfl) (Nat.le_of_ble_eq_true rfl) (Nat.le_of_ble_eq_true rfl) rfl (by show _ ≤ 601024; omega) rfl (by show _ ≤ 7293034; omega) (hL_law.at 264 rfl rfl) (fun x49 => ?_)
        refine os_iload (v := x46) 1 rfl (hL_law.at 265 rfl rfl) ?_
        refine os_icmp_eq (off := 5) (tgt := 576) rfl (hL_law.at 266 rfl rfl) ?_ ?_
        · refine os_iload (v := x46) 1 rfl (hL_law.at 269 rfl rfl) ?_
          refine os_if_ne (off := 15) (tgt := 593) rfl (hL_law.at 270 rfl rfl) ?_ ?_
          · exact osW.widen (k' := k + 2) (n' := n + 12) (by omega) (by omega) (osW.sub [2, 3, 4, 5, 6, 7] rfl (sL_law_593 N L xs hend k n hk hn c28 g28 l0 l1 l2 l3 l4 l5 rfl))
          · refine os_aload_n (i := 3) (q := 3) (v := l3) 5 rfl rfl (hL_law.at 271 rfl rfl) ?_
            refine os_iconst (i := 0) (v := (0 : Int32)) rfl (hL_law.at 272 rfl rfl) ?_
            refine os_laload (hL_law.at 273 rfl rfl) (fun x50 => ?_)
            refine os_iload (v := x48) 0 rfl (hL_law.at 274 rfl rfl) ?_
            refine os_i2l (hL_law.at 275 rfl rfl) ?_
            refine os_lcmp (hL_law.at 276 rfl rfl) ?_
            refine os_if_eq (off := 5) (tgt := 593) rfl (hL_law.at 277 rfl rfl) ?_ ?_
            · exact osW.widen (k' := k + 2) (n' := n + 12) (by omega) (by omega) (osW.sub [2, 3, 4, 5, 6, 7] rfl (sL_law_593 N L xs hend k n hk hn c28 g28 l0 l1 l2 l3 l4 l5 rfl))
            · refine os_iconst (i := 0) (v := (0 : Int32)) rfl (hL_law.at 278 rfl rfl) ?_
              exact os_lawno _ (by decide)
        · refine os_iconst (i := 0) (v := (0 : Int32)) rfl (hL_law.at 267 rfl rfl) ?_
          exact os_lawno _ (by decide)
      · refine os_aload_n (i := 1) (q := 1) (v := l1) 1 rfl rfl (hL_law.at 281 rfl rfl) ?_
        refine os_aload_n (i := 0) (q := 0) (v := l0) 0 rfl rfl (hL_law.at 282 rfl rfl) ?_
        refine os_iload (v := l5) 5 rfl (hL_law.at 283 rfl rfl) ?_
        refine os_iconst (i := 1) (v := (1 : Int32)) rfl (hL_law.at 284 rfl rfl) ?_
        refine os_iadd (hL_law.at 285 rfl rfl) ?_
        refine os_sld (hL_law.at 286 rfl rfl) (fun x51 => ?_)
        refine os_aload_n (i := 0) (q := 0) (v := l0) 0 rfl rfl (hL_law.at 287 rfl rfl) ?_
        refine os_iload (v := l5) 5 rfl (hL_law.at 288 rfl rfl) ?_
        refine os_iconst (i := 2) (v := (2 : Int32)) rfl (hL_law.at 289 rfl rfl) ?_
        refine os_iadd (hL_law.at 290 rfl rfl) ?_
        refine os_sld (hL_law.at 291 rfl rfl) (fun x52 => ?_)
        refine os_aload_n (i := 0) (q := 0) (v := l0) 0 rfl rfl (hL_law.at 292 rfl rfl) ?_
        refine os_iload (v := l5) 5 rfl (hL_law.at 293 rfl rfl) ?_
        refine os_iconst (i := 3) (v := (3 : Int32)) rfl (hL_law.at 294 rfl rfl) ?_
        refine os_iadd (hL_law.at 295 rfl rfl) ?_
        refine os_sld (hL_law.at 296 rfl rfl) (fun x53 => ?_)
        refine os_if_eq (off := 7) (tgt := 622) rfl (hL_law.at 297 rfl rfl) ?_ ?_
        · refine os_iconst (i := 0) (v := (0 : Int32)) rfl (hL_law.at 300 rfl rfl) ?_
          exact osW.widen (k' := k + 0) (n' := n + 0) (by omega) (by omega) (osW.sub [0, 1, 2, 3, 4, 5] rfl (sL_law_623 N L xs hend k n hk hn c28 g28 l0 l1 l2 l3 l4 l5 (0 : Int32) x52 x51 l1 rfl))
        · refine os_iconst (i := 1) (v := (1 : Int32)) rfl (hL_law.at 298 rfl rfl) ?_
          refine os_goto (off := 4) (tgt := 623) rfl (hL_law.at 299 rfl rfl) ?_
          exact osW.widen (k' := k + 0) (n' := n + 0) (by omega) (by omega) (osW.sub [0, 1, 2, 3, 4, 5] rfl (sL_law_623 N L xs hend k n hk hn c28 g28 l0 l1 l2 l3 l4 l5 (1 : Int32) x52 x51 l1 rfl))
      · refine os_aload_n (i := 1) (q := 1) (v := l1) 1 rfl rfl (hL_law.at 347 rfl rfl) ?_
        refine os_aload_n (i := 0) (q := 0) (v := l0) 0 rfl rfl (hL_law.at 348 rfl rfl) ?_
        refine os_iload (v := l5) 5 rfl (hL_law.at 349 rfl rfl) ?_
        refine os_iconst (i := 1) (v := (1 : Int32)) rfl (hL_law.at 350 rfl rfl) ?_
        refine os_iadd (hL_law.at 351 rfl rfl) ?_
        refine os_sld (hL_law.at 352 rfl rfl) (fun x54 => ?_)
        refine os_aload_n (i := 0) (q := 0) (v := l0) 0 rfl rfl (hL_law.at 353 rfl rfl) ?_
        refine os_iload (v := l5) 5 rfl (hL_law.at 354 rfl rfl) ?_
        refine os_iconst (i := 2) (v := (2 : Int32)) rfl (hL_law.at 355 rfl rfl) ?_
        refine os_iadd (hL_law.at 356 rfl rfl) ?_
        refine os_sld (hL_law.at 357 rfl rfl) (fun x55 => ?_)
        refine os_aload_n (i := 0) (q := 0) (v := l0) 0 rfl rfl (hL_law.at 358 rfl rfl) ?_
        refine os_iload (v := l5) 5 rfl (hL_law.at 359 rfl rfl) ?_
        refine os_iconst (i := 3) (v := (3 : Int32)) rfl (hL_law.at 360 rfl rfl) ?_
        refine os_iadd (hL_law.at 361 rfl rfl) ?_
        refine os_sld (hL_law.at 362 rfl rfl) (fun x56 => ?_)
        refine os_if_eq (off := 7) (tgt := 725) rfl (hL_law.at 363 rfl rfl) ?_ ?_
        · refine os_iconst (i := 0) (v := (0 : Int32)) rfl (hL_law.at 366 rfl rfl) ?_
          exact osW.widen (k' := k + 0) (n' := n + 0) (by omega) (by omega) (osW.sub [0, 1, 2, 3, 4, 5] rfl (sL_law_726 N L xs hend k n hk hn c28 g28 l0 l1 l2 l3 l4 l5 (0 : Int32) x55 x54 l1 rfl))
        · refine os_iconst (i := 1) (v := (1 : Int32)) rfl (hL_law.at 364 rfl rfl) ?_
          refine os_goto (off := 4) (tgt := 726) rfl (hL_law.at 365 rfl rfl) ?_
          exact osW.widen (k' := k + 0) (n' := n + 0) (by omega) (by omega) (osW.sub [0, 1, 2, 3, 4, 5] rfl (sL_law_726 N L xs hend k n hk hn c28 g28 l0 l1 l2 l3 l4 l5 (1 : Int32) x55 x54 l1 rfl))
      · refine os_aload_n (i := 1) (q := 1) (v := l1) 1 rfl rfl (hL_law.at 410 rfl rfl) ?_
        refine os_aload_n (i := 0) (q := 0) (v := l0) 0 rfl rfl (hL_law.at 411 rfl rfl) ?_
        refine os_iload (v := l5) 5 rfl (hL_law.at 412 rfl rfl) ?_
        refine os_iconst (i := 1) (v := (1 : Int32)) rfl (hL_law.at 413 rfl rfl) ?_
        refine os_iadd (hL_law.at 414 rfl rfl) ?_
        refine os_sld (hL_law.at 415 rfl rfl) (fun x57 => ?_)
        refine os_aload_n (i := 0) (q := 0) (v := l0) 0 rfl rfl (hL_law.at 416 rfl rfl) ?_
        refine os_iload (v := l5) 5 rfl (hL_law.at 417 rfl rfl) ?_
        refine os_iconst (i := 2) (v := (2 : Int32)) rfl (hL_law.at 418 rfl rfl) ?_
        refine os_iadd (hL_law.at 419 rfl rfl) ?_
        refine os_sld (hL_law.at 420 rfl rfl) (fun x58 => ?_)
        refine os_aload_n (i := 3) (q := 3) (v := l3) 3 rfl rfl (hL_law.at 421 rfl rfl) ?_
        refine os_callSH (As := [.ref l1, .int x57, .int x58, .ref l3]) (st := []) (st' := (fun r => .int r :: [])) wd1244 wd150 (by decide +kernel) (by decide +kernel) wd1242 wd1243 (sL_power N l1 x57 x58 l3) rfl rfl (fun _ => rfl) (Nat.le_of_ble_eq_true rfl) (Nat.le_of_ble_eq_true rfl) (Nat.le_of_ble_eq_true rfl) rfl (by show _ ≤ 601024; omega) rfl (by show _ ≤ 7293034; omega) (hL_law.at 422 rfl rfl) (fun x59 => ?_)
        refine os_istore (i := 6) (lv' := [(6, .int x59), (0, .ref l0), (1, .ref l1), (2, .ref l2), (3, .ref l3), (4, .ref l4), (5, .int l5)]) (Nat.le_of_ble_eq_true rfl) rfl (hL_law.at 423 rfl rfl) ?_
        refine os_aload_n (i := 2) (q := 2) (v := l2) 3 rfl rfl (hL_law.at 424 rfl rfl) ?_
        refine os_aload_n (i := 0) (q := 0) (v := l0) 1 rfl rfl (hL_law.at 425 rfl rfl) ?_
        refine os_iload (v := l5) 6 rfl (hL_law.at 426 rfl rfl) ?_
        refine os_iconst (i := 1) (v := (1 : Int32)) rfl (hL_law.at 427 rfl rfl) ?_
        refine os_iadd (hL_law.at 428 rfl rfl) ?_
        refine os_sld (hL_law.at 429 rfl rfl) (fun x60 => ?_)
        refine os_aload_n (i := 0) (q := 0) (v := l0) 1 rfl rfl (hL_law.at 430 rfl rfl) ?_
        refine os_iload (v := l5) 6 rfl (hL_law.at 431 rfl rfl) ?_
        refine os_iconst (i := 2) (v := (2 : Int32)) rfl (hL_law.at 432 rfl rfl) ?_
        refine os_iadd (hL_law.at 433 rfl rfl) ?_
        refine os_sld (hL_law.at 434 rfl rfl) (fun x61 => ?_)
        refine os_callV (cis := [8]) (b := l2) (As := [.int x60, .int x61]) (st := []) (st' := (fun r => .int r :: [])) sl8_X10_power_X10_power mdX10_power wd2038 wd2039 (sX10_power N l2 x60 x61) rfl rfl (fun _ => rfl) (Nat.le_of_ble_eq_true rfl) (Nat.le_of_ble_eq_true rfl) (Nat.le_of_ble_eq_true rfl) rfl (by show _ ≤ 601024; omega) rfl (by show _ ≤ 7293034; omega) (hL_law.at 435 rfl rfl) (fun x62 => ?_)
        refine os_istore (i := 7) (lv' := [(7, .int x62), (6, .int x59), (0, .ref l0), (1, .ref l1), (2, .ref l2), (3, .ref l3), (4, .ref l4), (5, .int l5)]) (Nat.le_of_ble_eq_true rfl) rfl (hL_law.at 436 rfl rfl) ?_
        refine os_aload_n (i := 2) (q := 2) (v := l2) 4 rfl rfl (hL_law.at 437 rfl rfl) ?_
        refine os_callV (cis := [8]) (b := l2) (As := []) (st := []) (st' := (fun r => .int r :: [])) sl8_X10_thrown_X10_thrown mdX10_thrown wd1734 wd1735 (sX10_thrown N l2 ) rfl rfl (fun _ => rfl) (Nat.le_of_ble_eq_true rfl) (Nat.le_of_ble_eq_true rfl) (Nat.le_of_ble_eq_true rfl) rfl (by show _ ≤ 601024; omega) rfl (by show _ ≤ 7293034; omega) (hL_law.at 438 rfl rfl) (fun x63 => ?_)
        refine os_iload (v := x59) 1 rfl (hL_law.at 439 rfl rfl) ?_
        refine os_icmp_eq (off := 5) (tgt := 843) rfl (hL_law.at 440 rfl rfl) ?_ ?_
        · refine os_iload (v := x59) 1 rfl (hL_law.at 443 rfl rfl) ?_
          refine os_if_ne (off := 15) (tgt := 860) rfl (hL_law.at 444 rfl rfl) ?_ ?_
          · exact osW.widen (k' := k + 2) (n' := n + 12) (by omega) (by omega) (osW.sub [2, 3, 4, 5, 6, 7] rfl (sL_law_860 N L xs hend k n hk hn c28 g28 l0 l1 l2 l3 l4 l5 rfl))
          · refine os_aload_n (i := 3) (q := 3) (v := l3) 5 rfl rfl (hL_law.at 445 rfl rfl) ?_
            refine os_iconst (i := 0) (v := (0 : Int32)) rfl (hL_law.at 446 rfl rfl) ?_
            refine os_laload (hL_law.at 447 rfl rfl) (fun x64 => ?_)
            refine os_iload (v := x62) 0 rfl (hL_law.at 448 rfl rfl) ?_
            refine os_i2l (hL_law.at 449 rfl rfl) ?_
            refine os_lcmp (hL_law.at 450 rfl rfl) ?_
            refine os_if_eq (off := 5) (tgt := 860) rfl (hL_law.at 451 rfl rfl) ?_ ?_
            · exact osW.widen (k' := k + 2) (n' := n + 12) (by omega) (by omega) (osW.sub [2, 3, 4, 5, 6, 7] rfl (sL_law_860 N L xs hend k n hk hn c28 g28 l0 l1 l2 l3 l4 l5 rfl))
            · refine os_iconst (i := 0) (v := (0 : Int32)) rfl (hL_law.at 452 rfl rfl) ?_
              exact os_lawno _ (by decide)
        · refine os_iconst (i := 0) (v := (0 : Int32)) rfl (hL_law.at 441 rfl rfl) ?_
          exact os_lawno _ (by decide)
      · refine os_aload_n (i := 1) (q := 1) (v := l1) 1 rfl rfl (hL_law.at 455 rfl rfl) ?_
        refine os_callV (cis := [7]) (b := l1) (As := []) (st := []) (st' := (fun r => .int r :: [])) sl7_X9_phase_X9_phase mdX9_phase wd588 wd589 (sX9_phase N l1 ) rfl rfl (fun _ => rfl) (Nat.le_of_ble_eq_true rfl) (Nat.le_of_ble_eq_true rfl) (Nat.le_of_ble_eq_true rfl) rfl (by show _ ≤ 601024; omega) rfl (by show _ ≤ 7293034; omega) (hL_law.at 456 rfl rfl) (fun x65 => ?_)
        refine os_aload_n (i := 2) (q := 2) (v := l2) 2 rfl rfl (hL_law.at 457 rfl rfl) ?_
        refine os_callV (cis := [8]) (b := l2) (As := []) (st := [.int x65]) (st' := (fun r => .int r :: [.int x65])) sl8_X10_phase_X10_phase mdX10_phase wd2050 wd2051 (sX10_phase N l2 ) rfl rfl (fun _ => rfl) (Nat.le_of_ble_eq_true rfl) (Nat.le_of_ble_eq_true rfl) (Nat.le_of_ble_eq_true rfl) rfl (by show _ ≤ 601024; omega) rfl (by show _ ≤ 7293034; omega) (hL_law.at 458 rfl rfl) (fun x66 => ?_)
        refine os_icmp_eq (off := 1166) (tgt := 2037) rfl (hL_law.at 459 rfl rfl) ?_ ?_
        · exact osW.widen (k' := k + 3) (n' := n + 18) (by omega) (by omega) (osW.sub [0, 1, 2, 3, 4, 5] rfl (sL_law_2037 N L xs hend k n hk hn c28 g28 l0 l1 l2 l3 l4 l5 rfl))
        · refine os_iconst (i := 0) (v := (0 : Int32)) rfl (hL_law.at 460 rfl rfl) ?_
          exact os_lawno _ (by decide)
      · refine os_aload_n (i := 1) (q := 1) (v := l1) 1 rfl rfl (hL_law.at 462 rfl rfl) ?_
        refine os_callV (cis := [7]) (b := l1) (As := []) (st := []) (st' := (fun r => .int r :: [])) sl7_X9_turn_X9_turn mdX9_turn wd592 wd593 (sX9_turn N l1 ) rfl rfl (fun _ => rfl) (Nat.le_of_ble_eq_true rfl) (Nat.le_of_ble_eq_true rfl) (Nat.le_of_ble_eq_true rfl) rfl (by show _ ≤ 601024; omega) rfl (by show _ ≤ 7293034; omega) (hL_law.at 463 rfl rfl) (fun x67 => ?_)
        refine os_aload_n (i := 2) (q := 2) (v := l2) 2 rfl rfl (hL_law.at 464 rfl rfl) ?_
        refine os_callV (cis := [8]) (b := l2) (As := []) (st := [.int x67]) (st' := (fun r => .int r :: [.int x67])) sl8_X10_turn_X10_turn mdX10_turn wd2054 wd2055 (sX10_turn N l2 ) rfl rfl (fun _ => rfl) (Nat.le_of_ble_eq_true rfl) (Nat.le_of_ble_eq_true rfl) (Nat.le_of_ble_eq_true rfl) rfl (by show _ ≤ 601024; omega) rfl (by show _ ≤ 7293034; omega) (hL_law.at 465 rfl rfl) (fun x68 => ?_)
        refine os_icmp_eq (off := 1153) (tgt := 2037) rfl (hL_law.at 466 rfl rfl) ?_ ?_
        · exact osW.widen (k' := k + 3) (n' := n + 18) (by omega) (by omega) (osW.sub [0, 1, 2, 3, 4, 5] rfl (sL_law_2037 N L xs hend k n hk hn c28 g28 l0 l1 l2 l3 l4 l5 rfl))
        · refine os_iconst (i := 0) (v := (0 : Int32)) rfl (hL_law.at 467 rfl rfl) ?_
          exact os_lawno _ (by decide)
      · refine os_aload_n (i := 1) (q := 1) (v := l1) 1 rfl rfl (hL_law.at 469 rfl rfl) ?_
        refine os_aload_n (i := 0) (q := 0) (v := l0) 0 rfl rfl (hL_law.at 470 rfl rfl) ?_
        refine os_iload (v := l5) 5 rfl (hL_law.at 471 rfl rfl) ?_
        refine os_iconst (i := 1) (v := (1 : Int32)) rfl (hL_law.at 472 rfl rfl) ?_
        refine os_iadd (hL_law.at 473 rfl rfl) ?_
        refine os_sld (hL_law.at 474 rfl rfl) (fun x69 => ?_)
        refine os_aload_n (i := 0) (q := 0) (v := l0) 0 rfl rfl (hL_law.at 475 rfl rfl) ?_
        refine os_iload (v := l5) 5 rfl (hL_law.at 476 rfl rfl) ?_
        refine os_iconst (i := 2) (v := (2 : Int32)) rfl (hL_law.at 477 rfl rfl) ?_
        refine os_iadd (hL_law.at 478 rfl rfl) ?_
        refine os_sld (hL_law.at 479 rfl rfl) (fun x70 => ?_)
        refine os_aload_n (i := 3) (q := 3) (v := l3) 3 rfl rfl (hL_law.at 480 rfl rfl) ?_
        refine os_callSH (As := [.ref l1, .int x69, .int x70, .ref l3]) (st := []) (st' := (fun r => .int r :: [])) wd1262 wd150 (by decide +kernel) (by decide +kernel) wd1260 wd1261 (sL_order N l1 x69 x70 l3) rfl rfl (fun _ => rfl) (Nat.le_of_ble_eq_true rfl) (Nat.le_of_ble_eq_true rfl) (Nat.le_of_ble_eq_true rfl) rfl (by show _ ≤ 601024; omega) rfl (by show _ ≤ 7293034; omega) (hL_law.at 481 rfl rfl) (fun x71 => ?_)
        refine os_istore (i := 6) (lv' := [(6, .int x71), (0, .ref l0), (1, .ref l1), (2, .ref l2), (3, .ref l3), (4, .ref l4), (5, .int l5)]) (Nat.le_of_ble_eq_true rfl) rfl (hL_law.at 482 rfl rfl) ?_
        refine os_aload_n (i := 2) (q := 2) (v := l2) 3 rfl rfl (hL_law.at 483 rfl rfl) ?_
        refine os_aload_n (i := 0) (q := 0) (v := l0) 1 rfl rfl (hL_law.at 484 rfl rfl) ?_
        refine os_iload (v := l5) 6 rfl (hL_law.at 485 rfl rfl) ?_
        refine os_iconst (i := 1) (v := (1 : Int32)) rfl (hL_law.at 486 rfl rfl) ?_
        refine os_iadd (hL_law.at 487 rfl rfl) ?_
        refine os_sld (hL_law.at 488 rfl rfl) (fun x72 => ?_)
        refine os_aload_n (i := 0) (q := 0) (v := l0) 1 rfl rfl (hL_law.at 489 rfl rfl) ?_
        refine os_iload (v := l5) 6 rfl (hL_law.at 490 rfl rfl) ?_
        refine os_iconst (i := 2) (v := (2 : Int32)) rfl (hL_law.at 491 rfl rfl) ?_
        refine os_iadd (hL_law.at 492 rfl rfl) ?_
        refine os_sld (hL_law.at 493 rfl rfl) (fun x73 => ?_)
        refine os_callV (cis := [8]) (b := l2) (As := [.int x72, .int x73]) (st := []) (st' := (fun r => .int r :: [])) sl8_X10_order_X10_order mdX10_order wd2058 wd2059 (sX10_order N l2 x72 x73) rfl rfl (fun _ => rfl) (Nat.le_of_ble_eq_true rfl) (Nat.le_of_ble_eq_true rfl) (Nat.le_of_ble_eq_true rfl) rfl (by show _ ≤ 601024; omega) rfl (by show _ ≤ 7293034; omega) (hL_law.at 494 rfl rfl) (fun x74 => ?_)
        refine os_istore (i := 7) (lv' := [(7, .int x74), (6, .int x71), (0, .ref l0), (1, .ref l1), (2, .ref l2), (3, .ref l3), (4, .ref l4), (5, .int l5)]) (Nat.le_of_ble_eq_true rfl) rfl (hL_law.at 495 rfl rfl) ?_
        refine os_aload_n (i := 2) (q := 2) (v := l2) 4 rfl rfl (hL_law.at 496 rfl rfl) ?_
        refine os_callV (cis := [8]) (b := l2) (As := []) (st := []) (st' := (fun r => .int r :: [])) sl8_X10_thrown_X10_thrown mdX10_thrown wd1734 wd1735 (sX10_thrown N l2 ) rfl rfl (fun _ => rfl) (Nat.le_of_ble_eq_true rfl) (Nat.le_of_ble_eq_true rfl) (Nat.le_of_ble_eq_true rfl) rfl (by show _ ≤ 601024; omega) rfl (by show _ ≤ 7293034; omega) (hL_law.at 497 rfl rfl) (fun x75 => ?_)
        refine os_iload (v := x71) 1 rfl (hL_law.at 498 rfl rfl) ?_
        refine os_icmp_eq (off := 5) (tgt := 937) rfl (hL_law.at 499 rfl rfl) ?_ ?_
        · refine os_iload (v := x71) 1 rfl (hL_law.at 502 rfl rfl) ?_
          refine os_if_ne (off := 15) (tgt := 954) rfl (hL_law.at 503 rfl rfl) ?_ ?_
          · exact osW.widen (k' := k + 3) (n' := n + 18) (by omega) (by omega) (osW.sub [2, 3, 4, 5, 6, 7] rfl (sL_law_954 N L xs hend k n hk hn c28 g28 l0 l1 l2 l3 l4 l5 rfl))
          · refine os_aload_n (i := 3) (q := 3) (v := l3) 5 rfl rfl (hL_law.at 504 rfl rfl) ?_
            refine os_iconst (i := 0) (v := (0 : Int32)) rfl (hL_law.at 505 rfl rfl) ?_
            refine os_laload (hL_law.at 506 rfl rfl) (fun x76 => ?_)
            refine os_iload (v := x74) 0 rfl (hL_law.at 507 rfl rfl) ?_
            refine os_i2l (hL_law.at 508 rfl rfl) ?_
            refine os_lcmp (hL_law.at 509 rfl rfl) ?_
            refine os_if_eq (off := 5) (tgt := 954) rfl (hL_law.at 510 rfl rfl) ?_ ?_
            · exact osW.widen (k' := k + 3) (n' := n + 18) (by omega) (by omega) (osW.sub [2, 3, 4, 5, 6, 7] rfl (sL_law_954 N L xs hend k n hk hn c28 g28 l0 l1 l2 l3 l4 l5 rfl))
            · refine os_iconst (i := 0) (v := (0 : Int32)) rfl (hL_law.at 511 rfl rfl) ?_
              exact os_lawno _ (by decide)
        · refine os_iconst (i := 0) (v := (0 : Int32)) rfl (hL_law.at 500 rfl rfl) ?_
          exact os_lawno _ (by decide)
      · refine os_aload_n (i := 1) (q := 1) (v := l1) 1 rfl rfl (hL_law.at 514 rfl rfl) ?_
        refine os_aload_n (i := 3) (q := 3) (v := l3) 3 rfl rfl (hL_law.at 515 rfl rfl) ?_
        refine os_callSH (As := [.ref l1, .ref l3]) (st := []) (st' := (fun r => .int r :: [])) wd1279 wd150 (by decide +kernel) (by decide +kernel) wd1277 wd1278 (sL_settle N l1 l3) rfl rfl (fun _ => rfl) (Nat.le_of_ble_eq_true rfl) (Nat.le_of_ble_eq_true rfl) (Nat.le_of_ble_eq_true rfl) rfl (by show _ ≤ 601024; omega) rfl (by show _ ≤ 7293034; omega) (hL_law.at 516 rfl rfl) (fun x77 => ?_)
        refine os_istore (i := 6) (lv' := [(6, .int x77), (0, .ref l0), (1, .ref l1), (2, .ref l2), (3, .ref l3), (4, .ref l4), (5, .int l5)]) (Nat.le_of_ble_eq_true rfl) rfl (hL_law.at 517 rfl rfl) ?_
        refine os_aload_n (i := 2) (q := 2) (v := l2) 3 rfl rfl (hL_law.at 518 rfl rfl) ?_
        refine os_callV (cis := [8]) (b := l2) (As := []) (st := []) (st' := (fun r => .int r :: [])) sl8_X10_settle_X10_settle mdX10_settle wd2074 wd2075 (sX10_settle N l2 ) rfl rfl (fun _ => rfl) (Nat.le_of_ble_eq_true rfl) (Nat.le_of_ble_eq_true rfl) (Nat.le_of_ble_eq_true rfl) rfl (by show _ ≤ 601024; omega) rfl (by show _ ≤ 7293034; omega) (hL_law.at 519 rfl rfl) (fun x78 => ?_)
        refine os_istore (i := 7) (lv' := [(7, .int x78), (6, .int x77), (0, .ref l0), (1, .ref l1), (2, .ref l2), (3, .ref l3), (4, .ref l4), (5, .int l5)]) (Nat.le_of_ble_eq_true rfl) rfl (hL_law.at 520 rfl rfl) ?_
        refine os_aload_n (i := 2) (q := 2) (v := l2) 4 rfl rfl (hL_law.at 521 rfl rfl) ?_
        refine os_callV (cis := [8]) (b := l2) (As := []) (st := []) (st' := (fun r => .int r :: [])) sl8_X10_thrown_X10_thrown mdX10_thrown wd1734 wd1735 (sX10_thrown N l2 ) rfl rfl (fun _ => rfl) (Nat.le_of_ble_eq_true rfl) (Nat.le_of_ble_eq_true rfl) (Nat.le_of_ble_eq_true rfl) rfl (by show _ ≤ 601024; omega) rfl (by show _ ≤ 7293034; omega) (hL_law.at 522 rfl rfl) (fun x79 => ?_)
        refine os_iload (v := x77) 1 rfl (hL_law.at 523 rfl rfl) ?_
        refine os_icmp_eq (off := 5) (tgt := 981) rfl (hL_law.at 524 rfl rfl) ?_ ?_
        · refine os_iload (v := x77) 1 rfl (hL_law.at 527 rfl rfl) ?_
          refine os_if_ne (off := 15) (tgt := 998) rfl (hL_law.at 528 rfl rfl) ?_ ?_
          · exact osW.widen (k' := k + 1) (n' := n + 6) (by omega) (by omega) (osW.sub [2, 3, 4, 5, 6, 7] rfl (sL_law_998 N L xs hend k n hk hn c28 g28 l0 l1 l2 l3 l4 l5 rfl))
          · refine os_aload_n (i := 3) (q := 3) (v := l3) 5 rfl rfl (hL_law.at 529 rfl rfl) ?_
            refine os_iconst (i := 0) (v := (0 : Int32)) rfl (hL_law.at 530 rfl rfl) ?_
            refine os_laload (hL_law.at 531 rfl rfl) (fun x80 => ?_)
            refine os_iload (v := x78) 0 rfl (hL_law.at 532 rfl rfl) ?_
            refine os_i2l (hL_law.at 533 rfl rfl) ?_
            refine os_lcmp (hL_law.at 534 rfl rfl) ?_
            refine os_if_eq (off := 5) (tgt := 998) rfl (hL_law.at 535 rfl rfl) ?_ ?_
            · exact osW.widen (k' := k + 1) (n' := n + 6) (by omega) (by omega) (osW.sub [2, 3, 4, 5, 6, 7] rfl (sL_law_998 N L xs hend k n hk hn c28 g28 l0 l1 l2 l3 l4 l5 rfl))
            · refine os_iconst (i := 0) (v := (0 : Int32)) rfl (hL_law.at 536 rfl rfl) ?_
              exact os_lawno _ (by decide)
        · refine os_iconst (i := 0) (v := (0 : Int32)) rfl (hL_law.at 525 rfl rfl) ?_
          exact os_lawno _ (by decide)
      · refine os_aload_n (i := 1) (q := 1) (v := l1) 1 rfl rfl (hL_law.at 539 rfl rfl) ?_
        refine os_aload_n (i := 0) (q := 0) (v := l0) 0 rfl rfl (hL_law.at 540 rfl rfl) ?_
        refine os_iload (v := l5) 5 rfl (hL_law.at 541 rfl rfl) ?_
        refine os_iconst (i := 1) (v := (1 : Int32)) rfl (hL_law.at 542 rfl rfl) ?_
        refine os_iadd (hL_law.at 543 rfl rfl) ?_
        refine os_sld (hL_law.at 544 rfl rfl) (fun x81 => ?_)
        refine os_aload_n (i := 0) (q := 0) (v := l0) 0 rfl rfl (hL_law.at 545 rfl rfl) ?_
        refine os_iload (v := l5) 5 rfl (hL_law.at 546 rfl rfl) ?_
        refine os_iconst (i := 2) (v := (2 : Int32)) rfl (hL_law.at 547 rfl rfl) ?_
        refine os_iadd (hL_law.at 548 rfl rfl) ?_
        refine os_sld (hL_law.at 549 rfl rfl) (fun x82 => ?_)
        refine os_aload_n (i := 3) (q := 3) (v := l3) 3 rfl rfl (hL_law.at 550 rfl rfl) ?_
        refine os_callSH (As := [.ref l1, .int x81, .int x82, .ref l3]) (st := []) (st' := (fun r => .int r :: [])) wd1406 wd150 (by decide +kernel) (by decide +kernel) wd1404 wd1405 (sL_result N l1 x81 x82 l3) rfl rfl (fun _ => rfl) (Nat.le_of_ble_eq_true rfl) (Nat.le_of_ble_eq_true rfl) (Nat.le_of_ble_eq_true rfl) rfl (by show _ ≤ 601024; omega) rfl (by show _ ≤ 7293034; omega) (hL_law.at 551 rfl rfl) (fun x83 => ?_)
        refine os_istore (i := 6) (lv' := [(6, .int x83), (0, .ref l0), (1, .ref l1), (2, .ref l2), (3, .ref l3), (4, .ref l4), (5, .int l5)]) (Nat.le_of_ble_eq_true rfl) rfl (hL_law.at 552 rfl rfl) ?_
        refine os_aload_n (i := 2) (q := 2) (v := l2) 3 rfl rfl (hL_law.at 553 rfl rfl) ?_
        refine os_aload_n (i := 0) (q := 0) (v := l0) 1 rfl rfl (hL_law.at 554 rfl rfl) ?_
        refine os_iload (v := l5) 6 rfl (hL_law.at 555 rfl rfl) ?_
        refine os_iconst (i := 1) (v := (1 : Int32)) rfl (hL_law.at 556 rfl rfl) ?_
        refine os_iadd (hL_law.at 557 rfl rfl) ?_
        refine os_sld (hL_law.at 558 rfl rfl) (fun x84 => ?_)
        refine os_aload_n (i := 0) (q := 0) (v := l0) 1 rfl rfl (hL_law.at 559 rfl rfl) ?_
        refine os_iload (v := l5) 6 rfl (hL_law.at 560 rfl rfl) ?_
        refine os_iconst (i := 2) (v := (2 : Int32)) rfl (hL_law.at 561 rfl rfl) ?_
        refine os_iadd (hL_law.at 562 rfl rfl) ?_
        refine os_sld (hL_law.at 563 rfl rfl) (fun x85 => ?_)
        refine os_callV (cis := [8]) (b := l2) (As := [.int x84, .int x85]) (st := []) (st' := (fun r => .int r :: [])) sl8_X10_result_X10_result mdX10_result wd2181 wd2182 (sX10_result N l2 x84 x85) rfl rfl (fun _ => rfl) (Nat.le_of_ble_eq_true rfl) (Nat.le_of_ble_eq_true rfl) (Nat.le_of_ble_eq_true rfl) rfl (by show _ ≤ 601024; omega) rfl (by show _ ≤ 7293034; omega) (hL_law.at 564 rfl rfl) (fun x86 => ?_)
        refine os_istore (i := 7) (lv' := [(7, .int x86), (6, .int x83), (0, .ref l0), (1, .ref l1), (2, .ref l2), (3, .ref l3), (4, .ref l4), (5, .int l5)]) (Nat.le_of_ble_eq_true rfl) rfl (hL_law.at 565 rfl rfl) ?_
        refine os_aload_n (i := 2) (q := 2) (v := l2) 4 rfl rfl (hL_law.at 566 rfl rfl) ?_
        refine os_callV (cis := [8]) (b := l2) (As := []) (st := []) (st' := (fun r => .int r :: [])) sl8_X10_thrown_X10_thrown mdX10_thrown wd1734 wd1735 (sX10_thrown N l2 ) rfl rfl (fun _ => rfl) (Nat.le_of_ble_eq_true rfl) (Nat.le_of_ble_eq_true rfl) (Nat.le_of_ble_eq_true rfl) rfl (by show _ ≤ 601024; omega) rfl (by show _ ≤ 7293034; omega) (hL_law.at 567 rfl rfl) (fun x87 => ?_)
        refine os_iload (v := x83) 1 rfl (hL_law.at 568 rfl rfl) ?_
        refine os_icmp_eq (off := 5) (tgt := 1049) rfl (hL_law.at 569 rfl rfl) ?_ ?_
        · refine os_iload (v := x83) 1 rfl (hL_law.at 572 rfl rfl) ?_
          refine os_if_ne (off := 15) (tgt := 1066) rfl (hL_law.at 573 rfl rfl) ?_ ?_
          · exact osW.widen (k' := k + 3) (n' := n + 18) (by omega) (by omega) (osW.sub [2, 3, 4, 5, 6, 7] rfl (sL_law_1066 N L xs hend k n hk hn c28 g28 l0 l1 l2 l3 l4 l5 rfl))
          · refine os_aload_n (i := 3) (q := 3) (v := l3) 5 rfl rfl (hL_law.at 574 rfl rfl) ?_
            refine os_iconst (i := 0) (v := (0 : Int32)) rfl (hL_law.at 575 rfl rfl) ?_
            refine os_laload (hL_law.at 576 rfl rfl) (fun x88 => ?_)
            refine os_iload (v := x86) 0 rfl (hL_law.at 577 rfl rfl) ?_
            refine os_i2l (hL_law.at 578 rfl rfl) ?_
            refine os_lcmp (hL_law.at 579 rfl rfl) ?_
            refine os_if_eq (off := 5) (tgt := 1066) rfl (hL_law.at 580 rfl rfl) ?_ ?_
            · exact osW.widen (k' := k + 3) (n' := n + 18) (by omega) (by omega) (osW.sub [2, 3, 4, 5, 6, 7] rfl (sL_law_1066 N L xs hend k n hk hn c28 g28 l0 l1 l2 l3 l4 l5 rfl))
            · refine os_iconst (i := 0) (v := (0 : Int32)) rfl (hL_law.at 581 rfl rfl) ?_
              exact os_lawno _ (by decide)
        · refine os_iconst (i := 0) (v := (0 : Int32)) rfl (hL_law.at 570 rfl rfl) ?_
          exact os_lawno _ (by decide)
      · refine os_aload_n (i := 1) (q := 1) (v := l1) 1 rfl rfl (hL_law.at 584 rfl rfl) ?_
        refine os_aload_n (i := 3) (q := 3) (v := l3) 3 rfl rfl (hL_law.at 585 rfl rfl) ?_
        refine os_callSH (As := [.ref l1, .ref l3]) (st := []) (st' := (fun r => .int r :: [])) wd1418 wd150 (by decide +kernel) (by decide +kernel) wd1416 wd1417 (sL_outcomes N l1 l3) rfl rfl (fun _ => rfl) (Nat.le_of_ble_eq_true rfl) (Nat.le_of_ble_eq_true rfl) (Nat.le_of_ble_eq_true rfl) rfl (by show _ ≤ 601024; omega) rfl (by show _ ≤ 7293034; omega) (hL_law.at 586 rfl rfl) (fun x89 => ?_)
        refine os_istore (i := 6) (lv' := [(6, .int x89), (0, .ref l0), (1, .ref l1), (2, .ref l2), (3, .ref l3), (4, .ref l4), (5, .int l5)]) (Nat.le_of_ble_eq_true rfl) rfl (hL_law.at 587 rfl rfl) ?_
        refine os_aload_n (i := 2) (q := 2) (v := l2) 3 rfl rfl (hL_law.at 588 rfl rfl) ?_
        refine os_callV (cis := [8]) (b := l2) (As := []) (st := []) (st' := (fun r => .int r :: [])) sl8_X10_outcomes_X10_outcomes mdX10_outcomes wd2185 wd2186 (sX10_outcomes N l2 ) rfl rfl (fun _ => rfl) (Nat.le_of_ble_eq_true rfl) (Nat.le_of_ble_eq_true rfl) (Nat.le_of_ble_eq_true rfl) rfl (by show _ ≤ 601024; omega) rfl (by show _ ≤ 7293034; omega) (hL_law.at 589 rfl rfl) (fun x90 => ?_)
        refine os_istore (i := 7) (lv' := [(7, .int x90), (6, .int x89), (0, .ref l0), (1, .ref l1), (2, .ref l2), (3, .ref l3), (4, .ref l4), (5, .int l5)]) (Nat.le_of_ble_eq_true rfl) rfl (hL_law.at 590 rfl rfl) ?_
        refine os_aload_n (i := 2) (q := 2) (v := l2) 4 rfl rfl (hL_law.at 591 rfl rfl) ?_
        refine os_callV (cis := [8]) (b := l2) (As := []) (st := []) (st' := (fun r => .int r :: [])) sl8_X10_thrown_X10_thrown mdX10_thrown wd1734 wd1735 (sX10_thrown N l2 ) rfl rfl (fun _ => rfl) (Nat.le_of_ble_eq_true rfl) (Nat.le_of_ble_eq_true rfl) (Nat.le_of_ble_eq_true rfl) rfl (by show _ ≤ 601024; omega) rfl (by show _ ≤ 7293034; omega) (hL_law.at 592 rfl rfl) (fun x91 => ?_)
        refine os_iload (v := x89) 1 rfl (hL_law.at 593 rfl rfl) ?_
        refine os_icmp_eq (off := 5) (tgt := 1093) rfl (hL_law.at 594 rfl rfl) ?_ ?_
        · refine os_iload (v := x89) 1 rfl (hL_law.at 597 rfl rfl) ?_
          refine os_if_ne (off := 15) (tgt := 1110) rfl (hL_law.at 598 rfl rfl) ?_ ?_
          · exact osW.widen (k' := k + 1) (n' := n + 6) (by omega) (by omega) (osW.sub [2, 3, 4, 5, 6, 7] rfl (sL_law_1110 N L xs hend k n hk hn c28 g28 l0 l1 l2 l3 l4 l5 rfl))
          · refine os_aload_n (i := 3) (q := 3) (v := l3) 5 rfl rfl (hL_law.at 599 rfl rfl) ?_
            refine os_iconst (i := 0) (v := (0 : Int32)) rfl (hL_law.at 600 rfl rfl) ?_
            refine os_laload (hL_law.at 601 rfl rfl) (fun x92 => ?_)
            refine os_iload (v := x90) 0 rfl (hL_law.at 602 rfl rfl) ?_
            refine os_i2l (hL_law.at 603 rfl rfl) ?_
            refine os_lcmp (hL_law.at 604 rfl rfl) ?_
            refine os_if_eq (off := 5) (tgt := 1110) rfl (hL_law.at 605 rfl rfl) ?_ ?_
            · exact osW.widen (k' := k + 1) (n' := n + 6) (by omega) (by omega) (osW.sub [2, 3, 4, 5, 6, 7] rfl (sL_law_1110 N L xs hend k n hk hn c28 g28 l0 l1 l2 l3 l4 l5 rfl))
            · refine os_iconst (i := 0) (v := (0 : Int32)) rfl (hL_law.at 606 rfl rfl) ?_
              exact os_lawno _ (by decide)
        · refine os_iconst (i := 0) (v := (0 : Int32)) rfl (hL_law.at 595 rfl rfl) ?_
          exact os_lawno _ (by decide)
      · refine os_aload_n (i := 1) (q := 1) (v := l1) 1 rfl rfl (hL_law.at 609 rfl rfl) ?_
        refine os_aload_n (i := 0) (q := 0) (v := l0) 0 rfl rfl (hL_law.at 610 rfl rfl) ?_
        refine os_iload (v := l5) 5 rfl (hL_law.at 611 rfl rfl) ?_
        refine os_iconst (i := 1) (v := (1 : Int32)) rfl (hL_law.at 612 rfl rfl) ?_
        refine os_iadd (hL_law.at 613 rfl rfl) ?_
        refine os_sld (hL_law.at 614 rfl rfl) (fun x93 => ?_)
        refine os_aload_n (i := 3) (q := 3) (v := l3) 3 rfl rfl (hL_law.at 615 rfl rfl) ?_
        refine os_callSH (As := [.ref l1, .int x93, .ref l3]) (st := []) (st' := (fun r => .int r :: [])) wd1425 wd150 (by decide +kernel) (by decide +kernel) wd1423 wd1424 (sL_isContested N l1 x93 l3) rfl rfl (fun _ => rfl) (Nat.le_of_ble_eq_true rfl) (Nat.le_of_ble_eq_true rfl) (Nat.le_of_ble_eq_true rfl) rfl (by show _ ≤ 601024; omega) rfl (by show _ ≤ 7293034; omega) (hL_law.at 616 rfl rfl) (fun x94 => ?_)
        refine os_istore (i := 6) (lv' := [(6, .int x94), (0, .ref l0), (1, .ref l1), (2, .ref l2), (3, .ref l3), (4, .ref l4), (5, .int l5)]) (Nat.le_of_ble_eq_true rfl) rfl (hL_law.at 617 rfl rfl) ?_
        refine os_aload_n (i := 2) (q := 2) (v := l2) 3 rfl rfl (hL_law.at 618 rfl rfl) ?_
        refine os_aload_n (i := 0) (q := 0) (v := l0) 1 rfl rfl (hL_law.at 619 rfl rfl) ?_
        refine os_iload (v := l5) 6 rfl (hL_law.at 620 rfl rfl) ?_
        refine os_iconst (i := 1) (v := (1 : Int32)) rfl (hL_law.at 621 rfl rfl) ?_
        refine os_iadd (hL_law.at 622 rfl rfl) ?_
        refine os_sld (hL_law.at 623 rfl rfl) (fun x95 => ?_)
        refine os_callV (cis := [8]) (b := l2) (As := [.int x95]) (st := []) (st' := (fun r => .int r :: [])) sl8_X10_isContested_X10_isContested mdX10_isContested wd2189 wd2190 (sX10_isContested N l2 x95) rfl rfl (fun _ => rfl) (Nat.le_of_ble_eq_true rfl) (Nat.le_of_ble_eq_true rfl) (Nat.le_of_ble_eq_true rfl) rfl (by show _ ≤ 601024; omega) rfl (by show _ ≤ 7293034; omega) (hL_law.at 624 rfl rfl) (fun x96 => ?_)
        refine os_istore (i := 7) (lv' := [(7, .int x96), (6, .int x94), (0, .ref l0), (1, .ref l1), (2, .ref l2), (3, .ref l3), (4, .ref l4), (5, .int l5)]) (Nat.le_of_ble_eq_true rfl) rfl (hL_law.at 625 rfl rfl) ?_
        refine os_aload_n (i := 2) (q := 2) (v := l2) 4 rfl rfl (hL_law.at 626 rfl rfl) ?_
        refine os_callV (cis := [8]) (b := l2) (As := []) (st := []) (st' := (fun r => .int r :: [])) sl8_X10_thrown_X10_thrown mdX10_thrown wd1734 wd1735 (sX10_thrown N l2 ) rfl rfl (fun _ => rfl) (Nat.le_of_ble_eq_true rfl) (Nat.le_of_ble_eq_true rfl) (Nat.le_of_ble_eq_true rfl) rfl (by show _ ≤ 601024; omega) rfl (by show _ ≤ 7293034; omega) (hL_law.at 627 rfl rfl) (fun x97 => ?_)
        refine os_iload (v := x94) 1 rfl (hL_law.at 628 rfl rfl) ?_
        refine os_icmp_eq (off := 5) (tgt := 1149) rfl (hL_law.at 629 rfl rfl) ?_ ?_
        · refine os_iload (v := x94) 1 rfl (hL_law.at 632 rfl rfl) ?_
          refine os_if_ne (off := 22) (tgt := 1173) rfl (hL_law.at 633 rfl rfl) ?_ ?_
          · exact osW.widen (k' := k + 2) (n' := n + 12) (by omega) (by omega) (osW.sub [2, 3, 4, 5, 6, 7] rfl (sL_law_1173 N L xs hend k n hk hn c28 g28 l0 l1 l2 l3 l4 l5 rfl))
          · refine os_aload_n (i := 3) (q := 3) (v := l3) 5 rfl rfl (hL_law.at 634 rfl rfl) ?_
            refine os_iconst (i := 0) (v := (0 : Int32)) rfl (hL_law.at 635 rfl rfl) ?_
            refine os_laload (hL_law.at 636 rfl rfl) (fun x98 => ?_)
            refine os_iload (v := x96) 0 rfl (hL_law.at 637 rfl rfl) ?_
            refine os_if_eq (off := 7) (tgt := 1166) rfl (hL_law.at 638 rfl rfl) ?_ ?_
            · refine os_lconst (i := 0) (v := 0) rfl (hL_law.at 641 rfl rfl) ?_
              exact osW.widen (k' := k + 2) (n' := n + 12) (by omega) (by omega) (osW.sub [2, 3, 4, 5, 6, 7] rfl (sL_law_1167 N L xs hend k n hk hn c28 g28 l0 l1 l2 l3 l4 l5 (0 : Int64) x98 rfl))
            · refine os_lconst (i := 1) (v := 1) rfl (hL_law.at 639 rfl rfl) ?_
              refine os_goto (off := 4) (tgt := 1167) rfl (hL_law.at 640 rfl rfl) ?_
              exact osW.widen (k' := k + 2) (n' := n + 12) (by omega) (by omega) (osW.sub [2, 3, 4, 5, 6, 7] rfl (sL_law_1167 N L xs hend k n hk hn c28 g28 l0 l1 l2 l3 l4 l5 (1 : Int64) x98 rfl))
        · refine os_iconst (i := 0) (v := (0 : Int32)) rfl (hL_law.at 630 rfl rfl) ?_
          exact os_lawno _ (by decide)
      · refine os_aload_n (i := 1) (q := 1) (v := l1) 1 rfl rfl (hL_law.at 647 rfl rfl) ?_
        refine os_aload_n (i := 0) (q := 0) (v := l0) 0 rfl rfl (hL_law.at 648 rfl rfl) ?_
        refine os_iload (v := l5) 5 rfl (hL_law.at 649 rfl rfl) ?_
        refine os_iconst (i := 1) (v := (1 : Int32)) rfl (hL_law.at 650 rfl rfl) ?_
        refine os_iadd (hL_law.at 651 rfl rfl) ?_
        refine os_sld (hL_law.at 652 rfl rfl) (fun x99 => ?_)
        refine os_aload_n (i := 0) (q := 0) (v := l0) 0 rfl rfl (hL_law.at 653 rfl rfl) ?_
        refine os_iload (v := l5) 5 rfl (hL_law.at 654 rfl rfl) ?_
        refine os_iconst (i := 2) (v := (2 : Int32)) rfl (hL_law.at 655 rfl rfl) ?_
        refine os_iadd (hL_law.at 656 rfl rfl) ?_
        refine os_sld (hL_law.at 657 rfl rfl) (fun x100 => ?_)
        refine os_aload_n (i := 3) (q := 3) (v := l3) 3 rfl rfl (hL_law.at 658 rfl rfl) ?_
        refine os_callSH (As := [.ref l1, .int x99, .int x100, .ref l3]) (st := []) (st' := (fun r => .int r :: [])) wd1432 wd150 (by decide +kernel) (by decide +kernel) wd1430 wd1431 (sL_mayRetreat N l1 x99 x100 l3) rfl rfl (fun _ => rfl) (Nat.le_of_ble_eq_true rfl) (Nat.le_of_ble_eq_true rfl) (Nat.le_of_ble_eq_true rfl) rfl (by show _ ≤ 601024; omega) rfl (by show _ ≤ 7293034; omega) (hL_law.at 659 rfl rfl) (fun x101 => ?_)
        refine os_istore (i := 6) (lv' := [(6, .int x101), (0, .ref l0), (1, .ref l1), (2, .ref l2), (3, .ref l3), (4, .ref l4), (5, .int l5)]) (Nat.le_of_ble_eq_true rfl) rfl (hL_law.at 660 rfl rfl) ?_
        refine os_aload_n (i := 2) (q := 2) (v := l2) 3 rfl rfl (hL_law.at 661 rfl rfl) ?_
        refine os_aload_n (i := 0) (q := 0) (v := l0) 1 rfl rfl (hL_law.at 662 rfl rfl) ?_
        refine os_iload (v := l5) 6 rfl (hL_law.at 663 rfl rfl) ?_
        refine os_iconst (i := 1) (v := (1 : Int32)) rfl (hL_law.at 664 rfl rfl) ?_
        refine os_iadd (hL_law.at 665 rfl rfl) ?_
        refine os_sld (hL_law.at 666 rfl rfl) (fun x102 => ?_)
        refine os_aload_n (i := 0) (q := 0) (v := l0) 1 rfl rfl (hL_law.at 667 rfl rfl) ?_
        refine os_iload (v := l5) 6 rfl (hL_law.at 668 rfl rfl) ?_
        refine os_iconst (i := 2) (v := (2 : Int32)) rfl (hL_law.at 669 rfl rfl) ?_
        refine os_iadd (hL_law.at 670 rfl rfl) ?_
        refine os_sld (hL_law.at 671 rfl rfl) (fun x103 => ?_)
        refine os_callV (cis := [8]) (b := l2) (As := [.int x102, .int x103]) (st := []) (st' := (fun r => .int r :: [])) sl8_X10_mayRetreat_X10_mayRetreat mdX10_mayRetreat wd2193 wd2194 (sX10_mayRetreat N l2 x102 x103) rfl rfl (fun _ => rfl) (Nat.le_of_ble_eq_true rfl) (Nat.le_of_ble_eq_true rfl) (Nat.le_of_ble_eq_true rfl) rfl (by show _ ≤ 601024; omega) rfl (by show _ ≤ 7293034; omega) (hL_law.at 672 rfl rfl) (fun x104 => ?_)
        refine os_istore (i := 7) (lv' := [(7, .int x104), (6, .int x101), (0, .ref l0), (1, .ref l1), (2, .ref l2), (3, .ref l3), (4, .ref l4), (5, .int l5)]) (Nat.le_of_ble_eq_true rfl) rfl (hL_law.at 673 rfl rfl) ?_
        refine os_aload_n (i := 2) (q := 2) (v := l2) 4 rfl rfl (hL_law.at 674 rfl rfl) ?_
        refine os_callV (cis := [8]) (b := l2) (As := []) (st := []) (st' := (fun r => .int r :: [])) sl8_X10_thrown_X10_thrown mdX10_thrown wd1734 wd1735 (sX10_thrown N l2 ) rfl rfl (fun _ => rfl) (Nat.le_of_ble_eq_true rfl) (Nat.le_of_ble_eq_true rfl) (Nat.le_of_ble_eq_true rfl) rfl (by show _ ≤ 601024; omega) rfl (by show _ ≤ 7293034; omega) (hL_law.at 675 rfl rfl) (fun x105 => ?_)
        refine os_iload (v := x101) 1 rfl (hL_law.at 676 rfl rfl) ?_
        refine os_icmp_eq (off := 5) (tgt := 1224) rfl (hL_law.at 677 rfl rfl) ?_ ?_
        · refine os_iload (v := x101) 1 rfl (hL_law.at 680 rfl rfl) ?_
          refine os_if_ne (off := 22) (tgt := 1248) rfl (hL_law.at 681 rfl rfl) ?_ ?_
          · exact osW.widen (k' := k + 3) (n' := n + 18) (by omega) (by omega) (osW.sub [2, 3, 4, 5, 6, 7] rfl (sL_law_1248 N L xs hend k n hk hn c28 g28 l0 l1 l2 l3 l4 l5 rfl))
          · refine os_aload_n (i := 3) (q := 3) (v := l3) 5 rfl rfl (hL_law.at 682 rfl rfl) ?_
            refine os_iconst (i := 0) (v := (0 : Int32)) rfl (hL_law.at 683 rfl rfl) ?_
            refine os_laload (hL_law.at 684 rfl rfl) (fun x106 => ?_)
            refine os_iload (v := x104) 0 rfl (hL_law.at 685 rfl rfl) ?_
            refine os_if_eq (off := 7) (tgt := 1241) rfl (hL_law.at 686 rfl rfl) ?_ ?_
            · refine os_lconst (i := 0) (v := 0) rfl (hL_law.at 689 rfl rfl) ?_
              exact osW.widen (k' := k + 3) (n' := n + 18) (by omega) (by omega) (osW.sub [2, 3, 4, 5, 6, 7] rfl (sL_law_1242 N L xs hend k n hk hn c28 g28 l0 l1 l2 l3 l4 l5 (0 : Int64) x106 rfl))
            · refine os_lconst (i := 1) (v := 1) rfl (hL_law.at 687 rfl rfl) ?_
              refine os_goto (off := 4) (tgt := 1242) rfl (hL_law.at 688 rfl rfl) ?_
              exact osW.widen (k' := k + 3) (n' := n + 18) (by omega) (by omega) (osW.sub [2, 3, 4, 5, 6, 7] rfl (sL_law_1242 N L xs hend k n hk hn c28 g28 l0 l1 l2 l3 l4 l5 (1 : Int64) x106 rfl))
        · refine os_iconst (i := 0) (v := (0 : Int32)) rfl (hL_law.at 678 rfl rfl) ?_
          exact os_lawno _ (by decide)
      · refine os_aload_n (i := 1) (q := 1) (v := l1) 1 rfl rfl (hL_law.at 695 rfl rfl) ?_
        refine os_aload_n (i := 3) (q := 3) (v := l3) 3 rfl rfl (hL_law.at 696 rfl rfl) ?_
        refine os_callSH (As := [.ref l1, .ref l3]) (st := []) (st' := (fun r => .int r :: [])) wd1442 wd150 (by decide +kernel) (by decide +kernel) wd1440 wd1441 (sL_endRetreats N l1 l3) rfl rfl (fun _ => rfl) (Nat.le_of_ble_eq_true rfl) (Nat.le_of_ble_eq_true rfl) (Nat.le_of_ble_eq_true rfl) rfl (by show _ ≤ 601024; omega) rfl (by show _ ≤ 7293034; omega) (hL_law.at 697 rfl rfl) (fun x107 => ?_)
        refine os_istore (i := 6) (lv' := [(6, .int x107), (0, .ref l0), (1, .ref l1), (2, .ref l2), (3, .ref l3), (4, .ref l4), (5, .int l5)]) (Nat.le_of_ble_eq_true rfl) rfl (hL_law.at 698 rfl rfl) ?_
        refine os_aload_n (i := 2) (q := 2) (v := l2) 3 rfl rfl (hL_law.at 699 rfl rfl) ?_
        refine os_callV (cis := [8]) (b := l2) (As := []) (st := []) (st' := (fun r => .int r :: [])) sl8_X10_endRetreats_X10_endRetreats mdX10_endRetreats wd2197 wd2198 (sX10_endRetreats N l2 ) rfl rfl (fun _ => rfl) (Nat.le_of_ble_eq_true rfl) (Nat.le_of_ble_eq_true rfl) (Nat.le_of_ble_eq_true rfl) rfl (by show _ ≤ 601024; omega) rfl (by show _ ≤ 7293034; omega) (hL_law.at 700 rfl rfl) (fun x108 => ?_)
        refine os_istore (i := 7) (lv' := [(7, .int x108), (6, .int x107), (0, .ref l0), (1, .ref l1), (2, .ref l2), (3, .ref l3), (4, .ref l4), (5, .int l5)]) (Nat.le_of_ble_eq_true rfl) rfl (hL_law.at 701 rfl rfl) ?_
        refine os_aload_n (i := 2) (q := 2) (v := l2) 4 rfl rfl (hL_law.at 702 rfl rfl) ?_
        refine os_callV (cis := [8]) (b := l2) (As := []) (st := []) (st' := (fun r => .int r :: [])) sl8_X10_thrown_X10_thrown mdX10_thrown wd1734 wd1735 (sX10_thrown N l2 ) rfl rfl (fun _ => rfl) (Nat.le_of_ble_eq_true rfl) (Nat.le_of_ble_eq_true rfl) (Nat.le_of_ble_eq_true rfl) rfl (by show _ ≤ 601024; omega) rfl (by show _ ≤ 7293034; omega) (hL_law.at 703 rfl rfl) (fun x109 => ?_)
        refine os_iload (v := x107) 1 rfl (hL_law.at 704 rfl rfl) ?_
        refine os_icmp_eq (off := 5) (tgt := 1275) rfl (hL_law.at 705 rfl rfl) ?_ ?_
        · refine os_iload (v := x107) 1 rfl (hL_law.at 708 rfl rfl) ?_
          refine os_if_ne (off := 15) (tgt := 1292) rfl (hL_law.at 709 rfl rfl) ?_ ?_
          · exact osW.widen (k' := k + 1) (n' := n + 6) (by omega) (by omega) (osW.sub [2, 3, 4, 5, 6, 7] rfl (sL_law_1292 N L xs hend k n hk hn c28 g28 l0 l1 l2 l3 l4 l5 rfl))
          · refine os_aload_n (i := 3) (q := 3) (v := l3) 5 rfl rfl (hL_law.at 710 rfl rfl) ?_
            refine os_iconst (i := 0) (v := (0 : Int32)) rfl (hL_law.at 711 rfl rfl) ?_
            refine os_laload (hL_law.at 712 rfl rfl) (fun x110 => ?_)
            refine os_iload (v := x108) 0 rfl (hL_law.at 713 rfl rfl) ?_
            refine os_i2l (hL_law.at 714 rfl rfl) ?_
            refine os_lcmp (hL_law.at 715 rfl rfl) ?_
            refine os_if_eq (off := 5) (tgt := 1292) rfl (hL_law.at 716 rfl rfl) ?_ ?_
            · exact osW.widen (k' := k + 1) (n' := n + 6) (by omega) (by omega) (osW.sub [2, 3, 4, 5, 6, 7] rfl (sL_law_1292 N L xs hend k n hk hn c28 g28 l0 l1 l2 l3 l4 l5 rfl))
            · refine os_iconst (i := 0) (v := (0 : Int32)) rfl (hL_law.at 717 rfl rfl) ?_
              exact os_lawno _ (by decide)
        · refine os_iconst (i := 0) (v := (0 : Int32)) rfl (hL_law.at 706 rfl rfl) ?_
          exact os_lawno _ (by decide)
      · refine os_aload_n (i := 1) (q := 1) (v := l1) 1 rfl rfl (hL_law.at 720 rfl rfl) ?_
        refine os_aload_n (i := 3) (q := 3) (v := l3) 3 rfl rfl (hL_law.at 721 rfl rfl) ?_
        refine os_callSH (As := [.ref l1, .ref l3]) (st := []) (st' := (fun r => .int r :: [])) wd1453 wd150 (by decide +kernel) (by decide +kernel) wd1451 wd1452 (sL_endBuilds N l1 l3) rfl rfl (fun _ => rfl) (Nat.le_of_ble_eq_true rfl) (Nat.le_of_ble_eq_true rfl) (Nat.le_of_ble_eq_true rfl) rfl (by show _ ≤ 601024; omega) rfl (by show _ ≤ 7293034; omega) (hL_law.at 722 rfl rfl) (fun x111 => ?_)
        refine os_istore (i := 6) (lv' := [(6, .int x111), (0, .ref l0), (1, .ref l1), (2, .ref l2), (3, .ref l3), (4, .ref l4), (5, .int l5)]) (Nat.le_of_ble_eq_true rfl) rfl (hL_law.at 723 rfl rfl) ?_
        refine os_aload_n (i := 2) (q := 2) (v := l2) 3 rfl rfl (hL_law.at 724 rfl rfl) ?_
        refine os_callV (cis := [8]) (b := l2) (As := []) (st := []) (st' := (fun r => .int r :: [])) sl8_X10_endBuilds_X10_endBuilds mdX10_endBuilds wd2205 wd2206 (sX10_endBuilds N l2 ) rfl rfl (fun _ => rfl) (Nat.le_of_ble_eq_true rfl) (Nat.le_of_ble_eq_true rfl) (Nat.le_of_ble_eq_true rfl) rfl (by show _ ≤ 601024; omega) rfl (by show _ ≤ 7293034; omega) (hL_law.at 725 rfl rfl) (fun x112 => ?_)
        refine os_istore (i := 7) (lv' := [(7, .int x112), (6, .int x111), (0, .ref l0), (1, .ref l1), (2, .ref l2), (3, .ref l3), (4, .ref l4), (5, .int l5)]) (Nat.le_of_ble_eq_true rfl) rfl (hL_law.at 726 rfl rfl) ?_
        refine os_aload_n (i := 2) (q := 2) (v := l2) 4 rfl rfl (hL_law.at 727 rfl rfl) ?_
        refine os_callV (cis := [8]) (b := l2) (As := []) (st := []) (st' := (fun r => .int r :: [])) sl8_X10_thrown_X10_thrown mdX10_thrown wd1734 wd1735 (sX10_thrown N l2 ) rfl rfl (fun _ => rfl) (Nat.le_of_ble_eq_true rfl) (Nat.le_of_ble_eq_true rfl) (Nat.le_of_ble_eq_true rfl) rfl (by show _ ≤ 601024; omega) rfl (by show _ ≤ 7293034; omega) (hL_law.at 728 rfl rfl) (fun x113 => ?_)
        refine os_iload (v := x111) 1 rfl (hL_law.at 729 rfl rfl) ?_
        refine os_icmp_eq (off := 5) (tgt := 1319) rfl (hL_law.at 730 rfl rfl) ?_ ?_
        · refine os_iload (v := x111) 1 rfl (hL_law.at 733 rfl rfl) ?_
          refine os_if_ne (off := 15) (tgt := 1336) rfl (hL_law.at 734 rfl rfl) ?_ ?_
          · exact osW.widen (k' := k + 1) (n' := n + 6) (by omega) (by omega) (osW.sub [2, 3, 4, 5, 6, 7] rfl (sL_law_1336 N L xs hend k n hk hn c28 g28 l0 l1 l2 l3 l4 l5 rfl))
          · refine os_aload_n (i := 3) (q := 3) (v := l3) 5 rfl rfl (hL_law.at 735 rfl rfl) ?_
            refine os_iconst (i := 0) (v := (0 : Int32)) rfl (hL_law.at 736 rfl rfl) ?_
            refine os_laload (hL_law.at 737 rfl rfl) (fun x114 => ?_)
            refine os_iload (v := x112) 0 rfl (hL_law.at 738 rfl rfl) ?_
            refine os_i2l (hL_law.at 739 rfl rfl) ?_
            refine os_lcmp (hL_law.at 740 rfl rfl) ?_
            refine os_if_eq (off := 5) (tgt := 1336) rfl (hL_law.at 741 rfl rfl) ?_ ?_
            · exact osW.widen (k' := k + 1) (n' := n + 6) (by omega) (by omega) (osW.sub [2, 3, 4, 5, 6, 7] rfl (sL_law_1336 N L xs hend k n hk hn c28 g28 l0 l1 l2 l3 l4 l5 rfl))
            · refine os_iconst (i := 0) (v := (0 : Int32)) rfl (hL_law.at 742 rfl rfl) ?_
              exact os_lawno _ (by decide)
        · refine os_iconst (i := 0) (v := (0 : Int32)) rfl (hL_law.at 731 rfl rfl) ?_
          exact os_lawno _ (by decide)
      · refine os_aload_n (i := 1) (q := 1) (v := l1) 1 rfl rfl (hL_law.at 745 rfl rfl) ?_
        refine os_aload_n (i := 3) (q := 3) (v := l3) 3 rfl rfl (hL_law.at 746 rfl rfl) ?_
        refine os_callSH (As := [.ref l1, .ref l3]) (st := []) (st' := (fun r => .int r :: [])) wd1466 wd150 (by decide +kernel) (by decide +kernel) wd1464 wd1465 (sL_undo N l1 l3) rfl rfl (fun _ => rfl) (Nat.le_of_ble_eq_true rfl) (Nat.le_of_ble_eq_true rfl) (Nat.le_of_ble_eq_true rfl) rfl (by show _ ≤ 601024; omega) rfl (by show _ ≤ 7293034; omega) (hL_law.at 747 rfl rfl) (fun x115 => ?_)
        refine os_istore (i := 6) (lv' := [(6, .int x115), (0, .ref l0), (1, .ref l1), (2, .ref l2), (3, .ref l3), (4, .ref l4), (5, .int l5)]) (Nat.le_of_ble_eq_true rfl) rfl (hL_law.at 748 rfl rfl) ?_
        refine os_aload_n (i := 2) (q := 2) (v := l2) 3 rfl rfl (hL_law.at 749 rfl rfl) ?_
        refine os_callV (cis := [8]) (b := l2) (As := []) (st := []) (st' := (fun r => .int r :: [])) sl8_X10_undo_X10_undo mdX10_undo wd2066 wd2067 (sX10_undo N l2 ) rfl rfl (fun _ => rfl) (Nat.le_of_ble_eq_true rfl) (Nat.le_of_ble_eq_true rfl) (Nat.le_of_ble_eq_true rfl) rfl (by show _ ≤ 601024; omega) rfl (by show _ ≤ 7293034; omega) (hL_law.at 750 rfl rfl) (fun x116 => ?_)
        refine os_istore (i := 7) (lv' := [(7, .int x116), (6, .int x115), (0, .ref l0), (1, .ref l1), (2, .ref l2), (3, .ref l3), (4, .ref l4), (5, .int l5)]) (Nat.le_of_ble_eq_true rfl) rfl (hL_law.at 751 rfl rfl) ?_
        refine os_aload_n (i := 2) (q := 2) (v := l2) 4 rfl rfl (hL_law.at 752 rfl rfl) ?_
        refine os_callV (cis := [8]) (b := l2) (As := []) (st := []) (st' := (fun r => .int r :: [])) sl8_X10_thrown_X10_thrown mdX10_thrown wd1734 wd1735 (sX10_thrown N l2 ) rfl rfl (fun _ => rfl) (Nat.le_of_ble_eq_true rfl) (Nat.le_of_ble_eq_true rfl) (Nat.le_of_ble_eq_true rfl) rfl (by show _ ≤ 601024; omega) rfl (by show _ ≤ 7293034; omega) (hL_law.at 753 rfl rfl) (fun x117 => ?_)
        refine os_iload (v := x115) 1 rfl (hL_law.at 754 rfl rfl) ?_
        refine os_icmp_eq (off := 5) (tgt := 1363) rfl (hL_law.at 755 rfl rfl) ?_ ?_
        · refine os_iload (v := x115) 1 rfl (hL_law.at 758 rfl rfl) ?_
          refine os_if_ne (off := 15) (tgt := 1380) rfl (hL_law.at 759 rfl rfl) ?_ ?_
          · exact osW.widen (k' := k + 1) (n' := n + 6) (by omega) (by omega) (osW.sub [2, 3, 4, 5, 6, 7] rfl (sL_law_1380 N L xs hend k n hk hn c28 g28 l0 l1 l2 l3 l4 l5 rfl))
          · refine os_aload_n (i := 3) (q := 3) (v := l3) 5 rfl rfl (hL_law.at 760 rfl rfl) ?_
            refine os_iconst (i := 0) (v := (0 : Int32)) rfl (hL_law.at 761 rfl rfl) ?_
            refine os_laload (hL_law.at 762 rfl rfl) (fun x118 => ?_)
            refine os_iload (v := x116) 0 rfl (hL_law.at 763 rfl rfl) ?_
            refine os_i2l (hL_law.at 764 rfl rfl) ?_
            refine os_lcmp (hL_law.at 765 rfl rfl) ?_
            refine os_if_eq (off := 5) (tgt := 1380) rfl (hL_law.at 766 rfl rfl) ?_ ?_
            · exact osW.widen (k' := k + 1) (n' := n + 6) (by omega) (by omega) (osW.sub [2, 3, 4, 5, 6, 7] rfl (sL_law_1380 N L xs hend k n hk hn c28 g28 l0 l1 l2 l3 l4 l5 rfl))
            · refine os_iconst (i := 0) (v := (0 : Int32)) rfl (hL_law.at 767 rfl rfl) ?_
              exact os_lawno _ (by decide)
        · refine os_iconst (i := 0) (v := (0 : Int32)) rfl (hL_law.at 756 rfl rfl) ?_
          exact os_lawno _ (by decide)
      · refine os_aload_n (i := 1) (q := 1) (v := l1) 1 rfl rfl (hL_law.at 770 rfl rfl) ?_
        refine os_callV (cis := [7]) (b := l1) (As := []) (st := []) (st' := (fun r => .int r :: [])) sl7_X9_undoCount_X9_undoCount mdX9_undoCount wd596 wd597 (sX9_undoCount N l1 ) rfl rfl (fun _ => rfl) (Nat.le_of_ble_eq_true rfl) (Nat.le_of_ble_eq_true rfl) (Nat.le_of_ble_eq_true rfl) rfl (by show _ ≤ 601024; omega) rfl (by show _ ≤ 7293034; omega) (hL_law.at 771 rfl rfl) (fun x119 => ?_)
        refine os_aload_n (i := 2) (q := 2) (v := l2) 2 rfl rfl (hL_law.at 772 rfl rfl) ?_
        refine os_callV (cis := [8]) (b := l2) (As := []) (st := [.int x119]) (st' := (fun r => .int r :: [.int x119])) sl8_X10_undoCount_X10_undoCount mdX10_undoCount wd2070 wd2071 (sX10_undoCount N l2 ) rfl rfl (fun _ => rfl) (Nat.le_of_ble_eq_true rfl) (Nat.le_of_ble_eq_true rfl) (Nat.le_of_ble_eq_true rfl) rfl (by show _ ≤ 601024; omega) rfl (by show _ ≤ 7293034; omega) (hL_law.at 773 rfl rfl) (fun x120 => ?_)
        refine os_icmp_eq (off := 646) (tgt := 2037) rfl (hL_law.at 774 rfl rfl) ?_ ?_
        · exact osW.widen (k' := k + 3) (n' := n + 18) (by omega) (by omega) (osW.sub [0, 1, 2, 3, 4, 5] rfl (sL_law_2037 N L xs hend k n hk hn c28 g28 l0 l1 l2 l3 l4 l5 rfl))
        · refine os_iconst (i := 0) (v := (0 : Int32)) rfl (hL_law.at 775 rfl rfl) ?_
          exact os_lawno _ (by decide)
      · refine os_aload_n (i := 1) (q := 1) (v := l1) 1 rfl rfl (hL_law.at 777 rfl rfl) ?_
        refine os_aload_n (i := 0) (q := 0) (v := l0) 0 rfl rfl (hL_law.at 778 rfl rfl) ?_
        refine os_iload (v := l5) 5 rfl (hL_law.at 779 rfl rfl) ?_
        refine os_iconst (i := 1) (v := (1 : Int32)) rfl (hL_law.at 780 rfl rfl) ?_
        refine os_iadd (hL_law.at 781 rfl rfl) ?_
        refine os_sld (hL_law.at 782 rfl rfl) (fun x121 => ?_)
        refine os_aload_n (i := 0) (q := 0) (v := l0) 0 rfl rfl (hL_law.at 783 rfl rfl) ?_
        refine os_iload (v := l5) 5 rfl (hL_law.at 784 rfl rfl) ?_
        refine os_iconst (i := 2) (v := (2 : Int32)) rfl (hL_law.at 785 rfl rfl) ?_
        refine os_iadd (hL_law.at 786 rfl rfl) ?_
        refine os_sld (hL_law.at 787 rfl rfl) (fun x122 => ?_)
        refine os_aload_n (i := 3) (q := 3) (v := l3) 3 rfl rfl (hL_law.at 788 rfl rfl) ?_
        refine os_callSH (As := [.ref l1, .int x121, .int x122, .ref l3]) (st := []) (st' := (fun r => .int r :: [])) wd1474 wd150 (by decide +kernel) (by decide +kernel) wd1472 wd1473 (sL_foresee N l1 x121 x122 l3) rfl rfl (fun _ => rfl) (Nat.le_of_ble_eq_true rfl) (Nat.le_of_ble_eq_true rfl) (Nat.le_of_ble_eq_true rfl) rfl (by show _ ≤ 601024; omega) rfl (by show _ ≤ 7293034; omega) (hL_law.at 789 rfl rfl) (fun x123 => ?_)
        refine os_istore (i := 6) (lv' := [(6, .int x123), (0, .ref l0), (1, .ref l1), (2, .ref l2), (3, .ref l3), (4, .ref l4), (5, .int l5)]) (Nat.le_of_ble_eq_true rfl) rfl (hL_law.at 790 rfl rfl) ?_
        refine os_aload_n (i := 2) (q := 2) (v := l2) 3 rfl rfl (hL_law.at 791 rfl rfl) ?_
        refine os_aload_n (i := 0) (q := 0) (v := l0) 1 rfl rfl (hL_law.at 792 rfl rfl) ?_
        refine os_iload (v := l5) 6 rfl (hL_law.at 793 rfl rfl) ?_
        refine os_iconst (i := 1) (v := (1 : Int32)) rfl (hL_law.at 794 rfl rfl) ?_
        refine os_iadd (hL_law.at 795 rfl rfl) ?_
        refine os_sld (hL_law.at 796 rfl rfl) (fun x124 => ?_)
        refine os_aload_n (i := 0) (q := 0) (v := l0) 1 rfl rfl (hL_law.at 797 rfl rfl) ?_
        refine os_iload (v := l5) 6 rfl (hL_law.at 798 rfl rfl) ?_
        refine os_iconst (i := 2) (v := (2 : Int32)) rfl (hL_law.at 799 rfl rfl) ?_
        refine os_iadd (hL_law.at 800 rfl rfl) ?_
        refine os_sld (hL_law.at 801 rfl rfl) (fun x125 => ?_)
        refine os_callV (cis := [8]) (b := l2) (As := [.int x124, .int x125]) (st := []) (st' := (fun r => .int r :: [])) sl8_X10_foresee_X10_foresee mdX10_foresee wd2209 wd2210 (sX10_foresee N l2 x124 x125) rfl rfl (fun _ => rfl) (Nat.le_of_ble_eq_true rfl) (Nat.le_of_ble_eq_true rfl) (Nat.le_of_ble_eq_true rfl) rfl (by show _ ≤ 601024; omega) rfl (by show _ ≤ 7293034; omega) (hL_law.at 802 rfl rfl) (fun x126 => ?_)
        refine os_istore (i := 7) (lv' := [(7, .int x126), (6, .int x123), (0, .ref l0), (1, .ref l1), (2, .ref l2), (3, .ref l3), (4, .ref l4), (5, .int l5)]) (Nat.le_of_ble_eq_true rfl) rfl (hL_law.at 803 rfl rfl) ?_
        refine os_aload_n (i := 2) (q := 2) (v := l2) 4 rfl rfl (hL_law.at 804 rfl rfl) ?_
        refine os_callV (cis := [8]) (b := l2) (As := []) (st := []) (st' := (fun r => .int r :: [])) sl8_X10_thrown_X10_thrown mdX10_thrown wd1734 wd1735 (sX10_thrown N l2 ) rfl rfl (fun _ => rfl) (Nat.le_of_ble_eq_true rfl) (Nat.le_of_ble_eq_true rfl) (Nat.le_of_ble_eq_true rfl) rfl (by show _ ≤ 601024; omega) rfl (by show _ ≤ 7293034; omega) (hL_law.at 805 rfl rfl) (fun x127 => ?_)
        refine os_iload (v := x123) 1 rfl (hL_law.at 806 rfl rfl) ?_
        refine os_icmp_eq (off := 5) (tgt := 1444) rfl (hL_law.at 807 rfl rfl) ?_ ?_
        · refine os_iload (v := x123) 1 rfl (hL_law.at 810 rfl rfl) ?_
          refine os_if_ne (off := 15) (tgt := 1461) rfl (hL_law.at 811 rfl rfl) ?_ ?_
          · exact osW.widen (k' := k + 3) (n' := n + 18) (by omega) (by omega) (osW.sub [2, 3, 4, 5, 6, 7] rfl (sL_law_1461 N L xs hend k n hk hn c28 g28 l0 l1 l2 l3 l4 l5 rfl))
          · refine os_aload_n (i := 3) (q := 3) (v := l3) 5 rfl rfl (hL_law.at 812 rfl rfl) ?_
            refine os_iconst (i := 0) (v := (0 : Int32)) rfl (hL_law.at 813 rfl rfl) ?_
            refine os_laload (hL_law.at 814 rfl rfl) (fun x128 => ?_)
            refine os_iload (v := x126) 0 rfl (hL_law.at 815 rfl rfl) ?_
            refine os_i2l (hL_law.at 816 rfl rfl) ?_
            refine os_lcmp (hL_law.at 817 rfl rfl) ?_
            refine os_if_eq (off := 5) (tgt := 1461) rfl (hL_law.at 818 rfl rfl) ?_ ?_
            · exact osW.widen (k' := k + 3) (n' := n + 18) (by omega) (by omega) (osW.sub [2, 3, 4, 5, 6, 7] rfl (sL_law_1461 N L xs hend k n hk hn c28 g28 l0 l1 l2 l3 l4 l5 rfl))
            · refine os_iconst (i := 0) (v := (0 : Int32)) rfl (hL_law.at 819 rfl rfl) ?_
              exact os_lawno _ (by decide)
        · refine os_iconst (i := 0) (v := (0 : Int32)) rfl (hL_law.at 808 rfl rfl) ?_
          exact os_lawno _ (by decide)
      · refine os_aload_n (i := 1) (q := 1) (v := l1) 1 rfl rfl (hL_law.at 822 rfl rfl) ?_
        refine os_aload_n (i := 0) (q := 0) (v := l0) 0 rfl rfl (hL_law.at 823 rfl rfl) ?_
        refine os_iload (v := l5) 5 rfl (hL_law.at 824 rfl rfl) ?_
        refine os_iconst (i := 1) (v := (1 : Int32)) rfl (hL_law.at 825 rfl rfl) ?_
        refine os_iadd (hL_law.at 826 rfl rfl) ?_
        refine os_sld (hL_law.at 827 rfl rfl) (fun x129 => ?_)
        refine os_aload_n (i := 0) (q := 0) (v := l0) 0 rfl rfl (hL_law.at 828 rfl rfl) ?_
        refine os_iload (v := l5) 5 rfl (hL_law.at 829 rfl rfl) ?_
        refine os_iconst (i := 2) (v := (2 : Int32)) rfl (hL_law.at 830 rfl rfl) ?_
        refine os_iadd (hL_law.at 831 rfl rfl) ?_
        refine os_sld (hL_law.at 832 rfl rfl) (fun x130 => ?_)
        refine os_aload_n (i := 3) (q := 3) (v := l3) 3 rfl rfl (hL_law.at 833 rfl rfl) ?_
        refine os_callSH (As := [.ref l1, .int x129, .int x130, .ref l3]) (st := []) (st' := (fun r => .int r :: [])) wd1482 wd150 (by decide +kernel) (by decide +kernel) wd1480 wd1481 (sL_foreseeMove N l1 x129 x130 l3) rfl rfl (fun _ => rfl) (Nat.le_of_ble_eq_true rfl) (Nat.le_of_ble_eq_true rfl) (Nat.le_of_ble_eq_true rfl) rfl (by show _ ≤ 601024; omega) rfl (by show _ ≤ 7293034; omega) (hL_law.at 834 rfl rfl) (fun x131 => ?_)
        refine os_istore (i := 6) (lv' := [(6, .int x131), (0, .ref l0), (1, .ref l1), (2, .ref l2), (3, .ref l3), (4, .ref l4), (5, .int l5)]) (Nat.le_of_ble_eq_true rfl) rfl (hL_law.at 835 rfl rfl) ?_
        refine os_aload_n (i := 2) (q := 2) (v := l2) 3 rfl rfl (hL_law.at 836 rfl rfl) ?_
        refine os_aload_n (i := 0) (q := 0) (v := l0) 1 rfl rfl (hL_law.at 837 rfl rfl) ?_
        refine os_iload (v := l5) 6 rfl (hL_law.at 838 rfl rfl) ?_
        refine os_iconst (i := 1) (v := (1 : Int32)) rfl (hL_law.at 839 rfl rfl) ?_
        refine os_iadd (hL_law.at 840 rfl rfl) ?_
        refine os_sld (hL_law.at 841 rfl rfl) (fun x132 => ?_)
        refine os_aload_n (i := 0) (q := 0) (v := l0) 1 rfl rfl (hL_law.at 842 rfl rfl) ?_
        refine os_iload (v := l5) 6 rfl (hL_law.at 843 rfl rfl) ?_
        refine os_iconst (i := 2) (v := (2 : Int32)) rfl (hL_law.at 844 rfl rfl) ?_
        refine os_iadd (hL_law.at 845 rfl rfl) ?_
        refine os_sld (hL_law.at 846 rfl rfl) (fun x133 => ?_)
        refine os_callV (cis := [8]) (b := l2) (As := [.int x132, .int x133]) (st := []) (st' := (fun r => .int r :: [])) sl8_X10_foreseeMove_X10_foreseeMove mdX10_foreseeMove wd2213 wd2214 (sX10_foreseeMove N l2 x132 x133) rfl rfl (fun _ => rfl) (Nat.le_of_ble_eq_true rfl) (Nat.le_of_ble_eq_true rfl) (Nat.le_of_ble_eq_true rfl) rfl (by show _ ≤ 601024; omega) rfl (by show _ ≤ 7293034; omega) (hL_law.at 847 rfl rfl) (fun x134 => ?_)
        refine os_istore (i := 7) (lv' := [(7, .int x134), (6, .int x131), (0, .ref l0), (1, .ref l1), (2, .ref l2), (3, .ref l3), (4, .ref l4), (5, .int l5)]) (Nat.le_of_ble_eq_true rfl) rfl (hL_law.at 848 rfl rfl) ?_
        refine os_aload_n (i := 2) (q := 2) (v := l2) 4 rfl rfl (hL_law.at 849 rfl rfl) ?_
        refine os_callV (cis := [8]) (b := l2) (As := []) (st := []) (st' := (fun r => .int r :: [])) sl8_X10_thrown_X10_thrown mdX10_thrown wd1734 wd1735 (sX10_thrown N l2 ) rfl rfl (fun _ => rfl) (Nat.le_of_ble_eq_true rfl) (Nat.le_of_ble_eq_true rfl) (Nat.le_of_ble_eq_true rfl) rfl (by show _ ≤ 601024; omega) rfl (by show _ ≤ 7293034; omega) (hL_law.at 850 rfl rfl) (fun x135 => ?_)
        refine os_iload (v := x131) 1 rfl (hL_law.at 851 rfl rfl) ?_
        refine os_icmp_eq (off := 5) (tgt := 1512) rfl (hL_law.at 852 rfl rfl) ?_ ?_
        · refine os_iload (v := x131) 1 rfl (hL_law.at 855 rfl rfl) ?_
          refine os_if_ne (off := 15) (tgt := 1529) rfl (hL_law.at 856 rfl rfl) ?_ ?_
          · exact osW.widen (k' := k + 3) (n' := n + 18) (by omega) (by omega) (osW.sub [2, 3, 4, 5, 6, 7] rfl (sL_law_1529 N L xs hend k n hk hn c28 g28 l0 l1 l2 l3 l4 l5 rfl))
          · refine os_aload_n (i := 3) (q := 3) (v := l3) 5 rfl rfl (hL_law.at 857 rfl rfl) ?_
            refine os_iconst (i := 0) (v := (0 : Int32)) rfl (hL_law.at 858 rfl rfl) ?_
            refine os_laload (hL_law.at 859 rfl rfl) (fun x136 => ?_)
            refine os_iload (v := x134) 0 rfl (hL_law.at 860 rfl rfl) ?_
            refine os_i2l (hL_law.at 861 rfl rfl) ?_
            refine os_lcmp (hL_law.at 862 rfl rfl) ?_
            refine os_if_eq (off := 5) (tgt := 1529) rfl (hL_law.at 863 rfl rfl) ?_ ?_
            · exact osW.widen (k' := k + 3) (n' := n + 18) (by omega) (by omega) (osW.sub [2, 3, 4, 5, 6, 7] rfl (sL_law_1529 N L xs hend k n hk hn c28 g28 l0 l1 l2 l3 l4 l5 rfl))
            · refine os_iconst (i := 0) (v := (0 : Int32)) rfl (hL_law.at 864 rfl rfl) ?_
              exact os_lawno _ (by decide)
        · refine os_iconst (i := 0) (v := (0 : Int32)) rfl (hL_law.at 853 rfl rfl) ?_
          exact os_lawno _ (by decide)
      · refine os_aload_n (i := 1) (q := 1) (v := l1) 1 rfl rfl (hL_law.at 867 rfl rfl) ?_
        refine os_aload_n (i := 0) (q := 0) (v := l0) 0 rfl rfl (hL_law.at 868 rfl rfl) ?_
        refine os_iload (v := l5) 5 rfl (hL_law.at 869 rfl rfl) ?_
        refine os_iconst (i := 1) (v := (1 : Int32)) rfl (hL_law.at 870 rfl rfl) ?_
        refine os_iadd (hL_law.at 871 rfl rfl) ?_
        refine os_sld (hL_law.at 872 rfl rfl) (fun x137 => ?_)
        refine os_aload_n (i := 0) (q := 0) (v := l0) 0 rfl rfl (hL_law.at 873 rfl rfl) ?_
        refine os_iload (v := l5) 5 rfl (hL_law.at 874 rfl rfl) ?_
        refine os_iconst (i := 2) (v := (2 : Int32)) rfl (hL_law.at 875 rfl rfl) ?_
        refine os_iadd (hL_law.at 876 rfl rfl) ?_
        refine os_sld (hL_law.at 877 rfl rfl) (fun x138 => ?_)
        refine os_aload_n (i := 0) (q := 0) (v := l0) 0 rfl rfl (hL_law.at 878 rfl rfl) ?_
        refine os_iload (v := l5) 5 rfl (hL_law.at 879 rfl rfl) ?_
        refine os_iconst (i := 3) (v := (3 : Int32)) rfl (hL_law.at 880 rfl rfl) ?_
        refine os_iadd (hL_law.at 881 rfl rfl) ?_
        refine os_sld (hL_law.at 882 rfl rfl) (fun x139 => ?_)
        refine os_if_eq (off := 7) (tgt := 1558) rfl (hL_law.at 883 rfl rfl) ?_ ?_
        · refine os_iconst (i := 0) (v := (0 : Int32)) rfl (hL_law.at 886 rfl rfl) ?_
          exact osW.widen (k' := k + 0) (n' := n + 0) (by omega) (by omega) (osW.sub [0, 1, 2, 3, 4, 5] rfl (sL_law_1559 N L xs hend k n hk hn c28 g28 l0 l1 l2 l3 l4 l5 (0 : Int32) x138 x137 l1 rfl))
        · refine os_iconst (i := 1) (v := (1 : Int32)) rfl (hL_law.at 884 rfl rfl) ?_
          refine os_goto (off := 4) (tgt := 1559) rfl (hL_law.at 885 rfl rfl) ?_
          exact osW.widen (k' := k + 0) (n' := n + 0) (by omega) (by omega) (osW.sub [0, 1, 2, 3, 4, 5] rfl (sL_law_1559 N L xs hend k n hk hn c28 g28 l0 l1 l2 l3 l4 l5 (1 : Int32) x138 x137 l1 rfl))
      · refine os_aload_n (i := 1) (q := 1) (v := l1) 1 rfl rfl (hL_law.at 930 rfl rfl) ?_
        refine os_aload_n (i := 0) (q := 0) (v := l0) 0 rfl rfl (hL_law.at 931 rfl rfl) ?_
        refine os_iload (v := l5) 5 rfl (hL_law.at 932 rfl rfl) ?_
        refine os_iconst (i := 1) (v := (1 : Int32)) rfl (hL_law.at 933 rfl rfl) ?_
        refine os_iadd (hL_law.at 934 rfl rfl) ?_
        refine os_sld (hL_law.at 935 rfl rfl) (fun x140 => ?_)
        refine os_aload_n (i := 3) (q := 3) (v := l3) 3 rfl rfl (hL_law.at 936 rfl rfl) ?_
        refine os_callSH (As := [.ref l1, .int x140, .ref l3]) (st := []) (st' := (fun r => .int r :: [])) wd1503 wd150 (by decide +kernel) (by decide +kernel) wd1501 wd1502 (sL_isThreatened N l1 x140 l3) rfl rfl (fun _ => rfl) (Nat.le_of_ble_eq_true rfl) (Nat.le_of_ble_eq_true rfl) (Nat.le_of_ble_eq_true rfl) rfl (by show _ ≤ 601024; omega) rfl (by show _ ≤ 7293034; omega) (hL_law.at 937 rfl rfl) (fun x141 => ?_)
        refine os_istore (i := 6) (lv' := [(6, .int x141), (0, .ref l0), (1, .ref l1), (2, .ref l2), (3, .ref l3), (4, .ref l4), (5, .int l5)]) (Nat.le_of_ble_eq_true rfl) rfl (hL_law.at 938 rfl rfl) ?_
        refine os_aload_n (i := 2) (q := 2) (v := l2) 3 rfl rfl (hL_law.at 939 rfl rfl) ?_
        refine os_aload_n (i := 0) (q := 0) (v := l0) 1 rfl rfl (hL_law.at 940 rfl rfl) ?_
        refine os_iload (v := l5) 6 rfl (hL_law.at 941 rfl rfl) ?_
        refine os_iconst (i := 1) (v := (1 : Int32)) rfl (hL_law.at 942 rfl rfl) ?_
        refine os_iadd (hL_law.at 943 rfl rfl) ?_
        refine os_sld (hL_law.at 944 rfl rfl) (fun x142 => ?_)
        refine os_callV (cis := [8]) (b := l2) (As := [.int x142]) (st := []) (st' := (fun r => .int r :: [])) sl8_X10_isThreatened_X10_isThreatened mdX10_isThreatened wd2225 wd2226 (sX10_isThreatened N l2 x142) rfl rfl (fun _ => rfl) (Nat.le_of_ble_eq_true rfl) (Nat.le_of_ble_eq_true rfl) (Nat.le_of_ble_eq_true rfl) rfl (by show _ ≤ 601024; omega) rfl (by show _ ≤ 7293034; omega) (hL_law.at 945 rfl rfl) (fun x143 => ?_)
        refine os_istore (i := 7) (lv' := [(7, .int x143), (6, .int x141), (0, .ref l0), (1, .ref l1), (2, .ref l2), (3, .ref l3), (4, .ref l4), (5, .int l5)]) (Nat.le_of_ble_eq_true rfl) rfl (hL_law.at 946 rfl rfl) ?_
        refine os_aload_n (i := 2) (q := 2) (v := l2) 4 rfl rfl (hL_law.at 947 rfl rfl) ?_
        refine os_callV (cis := [8]) (b := l2) (As := []) (st := []) (st' := (fun r => .int r :: [])) sl8_X10_thrown_X10_thrown mdX10_thrown wd1734 wd1735 (sX10_thrown N l2 ) rfl rfl (fun _ => rfl) (Nat.le_of_ble_eq_true rfl) (Nat.le_of_ble_eq_true rfl) (Nat.le_of_ble_eq_true rfl) rfl (by show _ ≤ 601024; omega) rfl (by show _ ≤ 7293034; omega) (hL_law.at 948 rfl rfl) (fun x144 => ?_)
        refine os_iload (v := x141) 1 rfl (hL_law.at 949 rfl rfl) ?_
        refine os_icmp_eq (off := 5) (tgt := 1664) rfl (hL_law.at 950 rfl rfl) ?_ ?_
        · refine os_iload (v := x141) 1 rfl (hL_law.at 953 rfl rfl) ?_
          refine os_if_ne (off := 22) (tgt := 1688) rfl (hL_law.at 954 rfl rfl) ?_ ?_
          · exact osW.widen (k' := k + 1) (n' := n + 6) (by omega) (by omega) (osW.sub [2, 3, 4, 5, 6, 7] rfl (sL_law_1688 N L xs hend k n hk hn c28 g28 l0 l1 l2 l3 l4 l5 rfl))
          · refine os_aload_n (i := 3) (q := 3) (v := l3) 5 rfl rfl (hL_law.at 955 rfl rfl) ?_
            refine os_iconst (i := 0) (v := (0 : Int32)) rfl (hL_law.at 956 rfl rfl) ?_
            refine os_laload (hL_law.at 957 rfl rfl) (fun x145 => ?_)
            refine os_iload (v := x143) 0 rfl (hL_law.at 958 rfl rfl) ?_
            refine os_if_eq (off := 7) (tgt := 1681) rfl (hL_law.at 959 rfl rfl) ?_ ?_
            · refine os_lconst (i := 0) (v := 0) rfl (hL_law.at 962 rfl rfl) ?_
              exact osW.widen (k' := k + 1) (n' := n + 6) (by omega) (by omega) (osW.sub [2, 3, 4, 5, 6, 7] rfl (sL_law_1682 N L xs hend k n hk hn c28 g28 l0 l1 l2 l3 l4 l5 (0 : Int64) x145 rfl))
            · refine os_lconst (i := 1) (v := 1) rfl (hL_law.at 960 rfl rfl) ?_
              refine os_goto (off := 4) (tgt := 1682) rfl (hL_law.at 961 rfl rfl) ?_
              exact osW.widen (k' := k + 1) (n' := n + 6) (by omega) (by omega) (osW.sub [2, 3, 4, 5, 6, 7] rfl (sL_law_1682 N L xs hend k n hk hn c28 g28 l0 l1 l2 l3 l4 l5 (1 : Int64) x145 rfl))
        · refine os_iconst (i := 0) (v := (0 : Int32)) rfl (hL_law.at 951 rfl rfl) ?_
          exact os_lawno _ (by decide)
      · refine os_aload_n (i := 1) (q := 1) (v := l1) 1 rfl rfl (hL_law.at 968 rfl rfl) ?_
        refine os_aload_n (i := 0) (q := 0) (v := l0) 0 rfl rfl (hL_law.at 969 rfl rfl) ?_
        refine os_iload (v := l5) 5 rfl (hL_law.at 970 rfl rfl) ?_
        refine os_iconst (i := 1) (v := (1 : Int32)) rfl (hL_law.at 971 rfl rfl) ?_
        refine os_iadd (hL_law.at 972 rfl rfl) ?_
        refine os_sld (hL_law.at 973 rfl rfl) (fun x146 => ?_)
        refine os_aload (v := l4) 4 rfl (hL_law.at 974 rfl rfl) ?_
        refine os_callSH (As := [.ref l1, .int x146, .ref l4]) (st := []) (st' := (fun r => .int r :: [])) wd1510 wd150 (by decide +kernel) (by decide +kernel) wd1508 wd1509 (sL_share N l1 x146 l4) rfl rfl (fun _ => rfl) (Nat.le_of_ble_eq_true rfl) (Nat.le_of_ble_eq_true rfl) (Nat.le_of_ble_eq_true rfl) rfl (by show _ ≤ 601024; omega) rfl (by show _ ≤ 7293034; omega) (hL_law.at 975 rfl rfl) (fun x147 => ?_)
        refine os_istore (i := 6) (lv' := [(6, .int x147), (0, .ref l0), (1, .ref l1), (2, .ref l2), (3, .ref l3), (4, .ref l4), (5, .int l5)]) (Nat.le_of_ble_eq_true rfl) rfl (hL_law.at 976 rfl rfl) ?_
        refine os_aload_n (i := 2) (q := 2) (v := l2) 3 rfl rfl (hL_law.at 977 rfl rfl) ?_
        refine os_aload_n (i := 0) (q := 0) (v := l0) 1 rfl rfl (hL_law.at 978 rfl rfl) ?_
        refine os_iload (v := l5) 6 rfl (hL_law.at 979 rfl rfl) ?_
        refine os_iconst (i := 1) (v := (1 : Int32)) rfl (hL_law.at 980 rfl rfl) ?_
        refine os_iadd (hL_law.at 981 rfl rfl) ?_
        refine os_sld (hL_law.at 982 rfl rfl) (fun x148 => ?_)
        refine os_callV (cis := [8]) (b := l2) (As := [.int x148]) (st := []) (st' := (fun r => .float r :: [])) sl8_X10_share_X10_share mdX10_share wd2229 wd2230 (sX10_share N l2 x148) rfl rfl (fun _ => rfl) (Nat.le_of_ble_eq_true rfl) (Nat.le_of_ble_eq_true rfl) (Nat.le_of_ble_eq_true rfl) rfl (by show _ ≤ 601024; omega) rfl (by show _ ≤ 7293034; omega) (hL_law.at 983 rfl rfl) (fun x149 => ?_)
        refine os_fstore (i := 7) (lv' := [(7, .float x149), (6, .int x147), (0, .ref l0), (1, .ref l1), (2, .ref l2), (3, .ref l3), (4, .ref l4), (5, .int l5)]) (Nat.le_of_ble_eq_true rfl) rfl (hL_law.at 984 rfl rfl) ?_
        refine os_aload_n (i := 2) (q := 2) (v := l2) 4 rfl rfl (hL_law.at 985 rfl rfl) ?_
        refine os_callV (cis := [8]) (b := l2) (As := []) (st := []) (st' := (fun r => .int r :: [])) sl8_X10_thrown_X10_thrown mdX10_thrown wd1734 wd1735 (sX10_thrown N l2 ) rfl rfl (fun _ => rfl) (Nat.le_of_ble_eq_true rfl) (Nat.le_of_ble_eq_true rfl) (Nat.le_of_ble_eq_true rfl) rfl (by show _ ≤ 601024; omega) rfl (by show _ ≤ 7293034; omega) (hL_law.at 986 rfl rfl) (fun x150 => ?_)
        refine os_iload (v := x147) 1 rfl (hL_law.at 987 rfl rfl) ?_
        refine os_icmp_eq (off := 5) (tgt := 1728) rfl (hL_law.at 988 rfl rfl) ?_ ?_
        · refine os_iload (v := x147) 1 rfl (hL_law.at 991 rfl rfl) ?_
          refine os_if_ne (off := 36) (tgt := 1766) rfl (hL_law.at 992 rfl rfl) ?_ ?_
          · exact osW.widen (k' := k + 1) (n' := n + 6) (by omega) (by omega) (osW.sub [2, 3, 4, 5, 6, 7] rfl (sL_law_1766 N L xs hend k n hk hn c28 g28 l0 l1 l2 l3 l4 l5 rfl))
          · refine os_aload (v := l4) 6 rfl (hL_law.at 993 rfl rfl) ?_
            refine os_iconst (i := 0) (v := (0 : Int32)) rfl (hL_law.at 994 rfl rfl) ?_
            refine os_daload (hL_law.at 995 rfl rfl) (fun x151 => ?_)
            refine os_fload (v := x149) 0 rfl (hL_law.at 996 rfl rfl) ?_
            refine os_guard (fun h152 => ?_)
            refine os_f2d (osn64_ok h152) (hL_law.at 997 rfl rfl) ?_
            refine os_dcmp (op := .l) (hL_law.at 998 rfl rfl) ?_
            refine os_if_eq (off := 25) (tgt := 1766) rfl (hL_law.at 999 rfl rfl) ?_ ?_
            · exact osW.widen (k' := k + 1) (n' := n + 6) (by omega) (by omega) (osW.sub [2, 3, 4, 5, 6, 7] rfl (sL_law_1766 N L xs hend k n hk hn c28 g28 l0 l1 l2 l3 l4 l5 rfl))
            · refine os_aload (v := l4) 6 rfl (hL_law.at 1000 rfl rfl) ?_
              refine os_iconst (i := 0) (v := (0 : Int32)) rfl (hL_law.at 1001 rfl rfl) ?_
              refine os_daload (hL_law.at 1002 rfl rfl) (fun x153 => ?_)
              refine os_aload (v := l4) 6 rfl (hL_law.at 1003 rfl rfl) ?_
              refine os_iconst (i := 0) (v := (0 : Int32)) rfl (hL_law.at 1004 rfl rfl) ?_
              refine os_daload (hL_law.at 1005 rfl rfl) (fun x154 => ?_)
              refine os_dcmp (op := .l) (hL_law.at 1006 rfl rfl) ?_
              refine os_if_eq (off := 11) (tgt := 1764) rfl (hL_law.at 1007 rfl rfl) ?_ ?_
              · exact osW.widen (k' := k + 1) (n' := n + 6) (by omega) (by omega) (osW.sub [] rfl (sL_law_1764 N L xs hend k n hk hn c28 g28 ))
              · refine os_fload (v := x149) 0 rfl (hL_law.at 1008 rfl rfl) ?_
                refine os_fload (v := x149) 0 rfl (hL_law.at 1009 rfl rfl) ?_
                refine os_fcmp (op := .l) (hL_law.at 1010 rfl rfl) ?_
                refine os_if_ne (off := 5) (tgt := 1766) rfl (hL_law.at 1011 rfl rfl) ?_ ?_
                · exact osW.widen (k' := k + 1) (n' := n + 6) (by omega) (by omega) (osW.sub [2, 3, 4, 5, 6, 7] rfl (sL_law_1766 N L xs hend k n hk hn c28 g28 l0 l1 l2 l3 l4 l5 rfl))
                · exact osW.widen (k' := k + 1) (n' := n + 6) (by omega) (by omega) (osW.sub [] rfl (sL_law_1764 N L xs hend k n hk hn c28 g28 ))
        · refine os_iconst (i := 0) (v := (0 : Int32)) rfl (hL_law.at 989 rfl rfl) ?_
          exact os_lawno _ (by decide)
      · refine os_aload_n (i := 1) (q := 1) (v := l1) 1 rfl rfl (hL_law.at 1015 rfl rfl) ?_
        refine os_aload_n (i := 0) (q := 0) (v := l0) 0 rfl rfl (hL_law.at 1016 rfl rfl) ?_
        refine os_iload (v := l5) 5 rfl (hL_law.at 1017 rfl rfl) ?_
        refine os_iconst (i := 1) (v := (1 : Int32)) rfl (hL_law.at 1018 rfl rfl) ?_
        refine os_iadd (hL_law.at 1019 rfl rfl) ?_
        refine os_sld (hL_law.at 1020 rfl rfl) (fun x155 => ?_)
        refine os_aload_n (i := 3) (q := 3) (v := l3) 3 rfl rfl (hL_law.at 1021 rfl rfl) ?_
        refine os_callSH (As := [.ref l1, .int x155, .ref l3]) (st := []) (st' := (fun r => .int r :: [])) wd1521 wd150 (by decide +kernel) (by decide +kernel) wd1519 wd1520 (sL_shareBits N l1 x155 l3) rfl rfl (fun _ => rfl) (Nat.le_of_ble_eq_true rfl) (Nat.le_of_ble_eq_true rfl) (Nat.le_of_ble_eq_true rfl) rfl (by show _ ≤ 601024; omega) rfl (by show _ ≤ 7293034; omega) (hL_law.at 1022 rfl rfl) (fun x156 => ?_)
        refine os_istore (i := 6) (lv' := [(6, .int x156), (0, .ref l0), (1, .ref l1), (2, .ref l2), (3, .ref l3), (4, .ref l4), (5, .int l5)]) (Nat.le_of_ble_eq_true rfl) rfl (hL_law.at 1023 rfl rfl) ?_
        refine os_aload_n (i := 2) (q := 2) (v := l2) 3 rfl rfl (hL_law.at 1024 rfl rfl) ?_
        refine os_aload_n (i := 0) (q := 0) (v := l0) 1 rfl rfl (hL_law.at 1025 rfl rfl) ?_
        refine os_iload (v := l5) 6 rfl (hL_law.at 1026 rfl rfl) ?_
        refine os_iconst (i := 1) (v := (1 : Int32)) rfl (hL_law.at 1027 rfl rfl) ?_
        refine os_iadd (hL_law.at 1028 rfl rfl) ?_
        refine os_sld (hL_law.at 1029 rfl rfl) (fun x157 => ?_)
        refine os_callV (cis := [8]) (b := l2) (As := [.int x157]) (st := []) (st' := (fun r => .int r :: [])) sl8_X10_shareBits_X10_shareBits mdX10_shareBits wd2241 wd2242 (sX10_shareBits N l2 x157) rfl rfl (fun _ => rfl) (Nat.le_of_ble_eq_true rfl) (Nat.le_of_ble_eq_true rfl) (Nat.le_of_ble_eq_true rfl) rfl (by show _ ≤ 601024; omega) rfl (by show _ ≤ 7293034; omega) (hL_law.at 1030 rfl rfl) (fun x158 => ?_)
        refine os_istore (i := 7) (lv' := [(7, .int x158), (6, .int x156), (0, .ref l0), (1, .ref l1), (2, .ref l2), (3, .ref l3), (4, .ref l4), (5, .int l5)]) (Nat.le_of_ble_eq_true rfl) rfl (hL_law.at 1031 rfl rfl) ?_
        refine os_aload_n (i := 2) (q := 2) (v := l2) 4 rfl rfl (hL_law.at 1032 rfl rfl) ?_
        refine os_callV (cis := [8]) (b := l2) (As := []) (st := []) (st' := (fun r => .int r :: [])) sl8_X10_thrown_X10_thrown mdX10_thrown wd1734 wd1735 (sX10_thrown N l2 ) rfl rfl (fun _ => rfl) (Nat.le_of_ble_eq_true rfl) (Nat.le_of_ble_eq_true rfl) (Nat.le_of_ble_eq_true rfl) rfl (by show _ ≤ 601024; omega) rfl (by show _ ≤ 7293034; omega) (hL_law.at 1033 rfl rfl) (fun x159 => ?_)
        refine os_iload (v := x156) 1 rfl (hL_law.at 1034 rfl rfl) ?_
        refine os_icmp_eq (off := 5) (tgt := 1805) rfl (hL_law.at 1035 rfl rfl) ?_ ?_
        · refine os_iload (v := x156) 1 rfl (hL_law.at 1038 rfl rfl) ?_
          refine os_if_ne (off := 15) (tgt := 1822) rfl (hL_law.at 1039 rfl rfl) ?_ ?_
          · exact osW.widen (k' := k + 1) (n' := n + 6) (by omega) (by omega) (osW.sub [2, 3, 4, 5, 6, 7] rfl (sL_law_1822 N L xs hend k n hk hn c28 g28 l0 l1 l2 l3 l4 l5 rfl))
          · refine os_aload_n (i := 3) (q := 3) (v := l3) 5 rfl rfl (hL_law.at 1040 rfl rfl) ?_
            refine os_iconst (i := 0) (v := (0 : Int32)) rfl (hL_law.at 1041 rfl rfl) ?_
            refine os_laload (hL_law.at 1042 rfl rfl) (fun x160 => ?_)
            refine os_iload (v := x158) 0 rfl (hL_law.at 1043 rfl rfl) ?_
            refine os_i2l (hL_law.at 1044 rfl rfl) ?_
            refine os_lcmp (hL_law.at 1045 rfl rfl) ?_
            refine os_if_eq (off := 5) (tgt := 1822) rfl (hL_law.at 1046 rfl rfl) ?_ ?_
            · exact osW.widen (k' := k + 1) (n' := n + 6) (by omega) (by omega) (osW.sub [2, 3, 4, 5, 6, 7] rfl (sL_law_1822 N L xs hend k n hk hn c28 g28 l0 l1 l2 l3 l4 l5 rfl))
            · refine os_iconst (i := 0) (v := (0 : Int32)) rfl (hL_law.at 1047 rfl rfl) ?_
              exact os_lawno _ (by decide)
        · refine os_iconst (i := 0) (v := (0 : Int32)) rfl (hL_law.at 1036 rfl rfl) ?_
          exact os_lawno _ (by decide)
      · refine os_aload_n (i := 1) (q := 1) (v := l1) 1 rfl rfl (hL_law.at 1050 rfl rfl) ?_
        refine os_callV (cis := [7]) (b := l1) (As := []) (st := []) (st' := (fun r => .double r :: [])) sl7_X9_unevenness_X9_unevenness mdX9_unevenness wd600 wd601 (sX9_unevenness N l1 ) rfl rfl (fun _ => rfl) (Nat.le_of_ble_eq_true rfl) (Nat.le_of_ble_eq_true rfl) (Nat.le_of_ble_eq_true rfl) rfl (by show _ ≤ 601024; omega) rfl (by show _ ≤ 7293034; omega) (hL_law.at 1051 rfl rfl) (fun x161 => ?_)
        refine os_dstore (i := 6) (lv' := [(6, .double x161), (0, .ref l0), (1, .ref l1), (2, .ref l2), (3, .ref l3), (4, .ref l4), (5, .int l5)]) (Nat.le_of_ble_eq_true rfl) rfl (hL_law.at 1052 rfl rfl) ?_
        refine os_aload_n (i := 2) (q := 2) (v := l2) 3 rfl rfl (hL_law.at 1053 rfl rfl) ?_
        refine os_callV (cis := [8]) (b := l2) (As := []) (st := []) (st' := (fun r => .double r :: [])) sl8_X10_unevenness_X10_unevenness mdX10_unevenness wd2246 wd2247 (sX10_unevenness N l2 ) rfl rfl (fun _ => rfl) (Nat.le_of_ble_eq_true rfl) (Nat.le_of_ble_eq_true rfl) (Nat.le_of_ble_eq_true rfl) rfl (by show _ ≤ 601024; omega) rfl (by show _ ≤ 7293034; omega) (hL_law.at 1054 rfl rfl) (fun x162 => ?_)
        refine os_dstore (i := 8) (lv' := [(8, .double x162), (6, .double x161), (0, .ref l0), (1, .ref l1), (2, .ref l2), (3, .ref l3), (4, .ref l4), (5, .int l5)]) (Nat.le_of_ble_eq_true rfl) rfl (hL_law.at 1055 rfl rfl) ?_
        refine os_dload (v := x161) 1 rfl (hL_law.at 1056 rfl rfl) ?_
        refine os_dload (v := x162) 0 rfl (hL_law.at 1057 rfl rfl) ?_
        refine os_dcmp (op := .l) (hL_law.at 1058 rfl rfl) ?_
        refine os_if_eq (off := 21) (tgt := 1863) rfl (hL_law.at 1059 rfl rfl) ?_ ?_
        · exact osW.widen (k' := k + 0) (n' := n + 0) (by omega) (by omega) (osW.sub [2, 3, 4, 5, 6, 7] rfl (sL_law_1863 N L xs hend k n hk hn c28 g28 l0 l1 l2 l3 l4 l5 rfl))
        · refine os_dload (v := x161) 1 rfl (hL_law.at 1060 rfl rfl) ?_
          refine os_dload (v := x161) 1 rfl (hL_law.at 1061 rfl rfl) ?_
          refine os_dcmp (op := .l) (hL_law.at 1062 rfl rfl) ?_
          refine os_if_eq (off := 11) (tgt := 1861) rfl (hL_law.at 1063 rfl rfl) ?_ ?_
          · exact osW.widen (k' := k + 0) (n' := n + 0) (by omega) (by omega) (osW.sub [] rfl (sL_law_1861 N L xs hend k n hk hn c28 g28 ))
          · refine os_dload (v := x162) 0 rfl (hL_law.at 1064 rfl rfl) ?_
            refine os_dload (v := x162) 0 rfl (hL_law.at 1065 rfl rfl) ?_
            refine os_dcmp (op := .l) (hL_law.at 1066 rfl rfl) ?_
            refine os_if_ne (off := 5) (tgt := 1863) rfl (hL_law.at 1067 rfl rfl) ?_ ?_
            · exact osW.widen (k' := k + 0) (n' := n + 0) (by omega) (by omega) (osW.sub [2, 3, 4, 5, 6, 7] rfl (sL_law_1863 N L xs hend k n hk hn c28 g28 l0 l1 l2 l3 l4 l5 rfl))
            · exact osW.widen (k' := k + 0) (n' := n + 0) (by omega) (by omega) (osW.sub [] rfl (sL_law_1861 N L xs hend k n hk hn c28 g28 ))
      · refine os_aload_n (i := 1) (q := 1) (v := l1) 1 rfl rfl (hL_law.at 1071 rfl rfl) ?_
        refine os_callV (cis := [7]) (b := l1) (As := []) (st := []) (st' := (fun r => .long r :: [])) sl7_X9_unevennessBits_X9_unevennessBits mdX9_unevennessBits wd621 wd622 (sX9_unevennessBits N l1 ) rfl rfl (fun _ => rfl) (Nat.le_of_ble_eq_true rfl) (Nat.le_of_ble_eq_true rfl) (Nat.le_of_ble_eq_true rfl) rfl (by show _ ≤ 601024; omega) rfl (by show _ ≤ 7293034; omega) (hL_law.at 1072 rfl rfl) (fun x163 => ?_)
        refine os_aload_n (i := 2) (q := 2) (v := l2) 2 rfl rfl (hL_law.at 1073 rfl rfl) ?_
        refine os_callV (cis := [8]) (b := l2) (As := []) (st := [.long x163]) (st' := (fun r => .long r :: [.long x163])) sl8_X10_unevennessBits_X10_unevennessBits mdX10_unevennessBits wd2254 wd2255 (sX10_unevennessBits N l2 ) rfl rfl (fun _ => rfl) (Nat.le_of_ble_eq_true rfl) (Nat.le_of_ble_eq_true rfl) (Nat.le_of_ble_eq_true rfl) rfl (by show _ ≤ 601024; omega) rfl (by show _ ≤ 7293034; omega) (hL_law.at 1074 rfl rfl) (fun x164 => ?_)
        refine os_lcmp (hL_law.at 1075 rfl rfl) ?_
        refine os_if_eq (off := 162) (tgt := 2037) rfl (hL_law.at 1076 rfl rfl) ?_ ?_
        · exact osW.widen (k' := k + 3) (n' := n + 18) (by omega) (by omega) (osW.sub [0, 1, 2, 3, 4, 5] rfl (sL_law_2037 N L xs hend k n hk hn c28 g28 l0 l1 l2 l3 l4 l5 rfl))
        · refine os_iconst (i := 0) (v := (0 : Int32)) rfl (hL_law.at 1077 rfl rfl) ?_
          exact os_lawno _ (by decide)
      · refine os_aload_n (i := 1) (q := 1) (v := l1) 1 rfl rfl (hL_law.at 1079 rfl rfl) ?_
        refine os_aload_n (i := 3) (q := 3) (v := l3) 3 rfl rfl (hL_law.at 1080 rfl rfl) ?_
        refine os_callSH (As := [.ref l1, .ref l3]) (st := []) (st' := (fun r => .int r :: [])) wd1532 wd150 (by decide +kernel) (by decide +kernel) wd1530 wd1531 (sL_leader N l1 l3) rfl rfl (fun _ => rfl) (Nat.le_of_ble_eq_true rfl) (Nat.le_of_ble_eq_true rfl) (Nat.le_of_ble_eq_true rfl) rfl (by show _ ≤ 601024; omega) rfl (by show _ ≤ 7293034; omega) (hL_law.at 1081 rfl rfl) (fun x165 => ?_)
        refine os_istore (i := 6) (lv' := [(6, .int x165), (0, .ref l0), (1, .ref l1), (2, .ref l2), (3, .ref l3), (4, .ref l4), (5, .int l5)]) (Nat.le_of_ble_eq_true rfl) rfl (hL_law.at 1082 rfl rfl) ?_
        refine os_aload_n (i := 2) (q := 2) (v := l2) 3 rfl rfl (hL_law.at 1083 rfl rfl) ?_
        refine os_callV (cis := [8]) (b := l2) (As := []) (st := []) (st' := (fun r => .int r :: [])) sl8_X10_leader_X10_leader mdX10_leader wd2261 wd2262 (sX10_leader N l2 ) rfl rfl (fun _ => rfl) (Nat.le_of_ble_eq_true rfl) (Nat.le_of_ble_eq_true rfl) (Nat.le_of_ble_eq_true rfl) rfl (by show _ ≤ 601024; omega) rfl (by show _ ≤ 7293034; omega) (hL_law.at 1084 rfl rfl) (fun x166 => ?_)
        refine os_istore (i := 7) (lv' := [(7, .int x166), (6, .int x165), (0, .ref l0), (1, .ref l1), (2, .ref l2), (3, .ref l3), (4, .ref l4), (5, .int l5)]) (Nat.le_of_ble_eq_true rfl) rfl (hL_law.at 1085 rfl rfl) ?_
        refine os_aload_n (i := 2) (q := 2) (v := l2) 4 rfl rfl (hL_law.at 1086 rfl rfl) ?_
        refine os_callV (cis := [8]) (b := l2) (As := []) (st := []) (st' := (fun r => .int r :: [])) sl8_X10_thrown_X10_thrown mdX10_thrown wd1734 wd1735 (sX10_thrown N l2 ) rfl rfl (fun _ => rfl) (Nat.le_of_ble_eq_true rfl) (Nat.le_of_ble_eq_true rfl) (Nat.le_of_ble_eq_true rfl) rfl (by show _ ≤ 601024; omega) rfl (by show _ ≤ 7293034; omega) (hL_law.at 1087 rfl rfl) (fun x167 => ?_)
        refine os_iload (v := x165) 1 rfl (hL_law.at 1088 rfl rfl) ?_
        refine os_icmp_eq (off := 5) (tgt := 1904) rfl (hL_law.at 1089 rfl rfl) ?_ ?_
        · refine os_iload (v := x165) 1 rfl (hL_law.at 1092 rfl rfl) ?_
          refine os_if_ne (off := 15) (tgt := 1921) rfl (hL_law.at 1093 rfl rfl) ?_ ?_
          · exact osW.widen (k' := k + 1) (n' := n + 6) (by omega) (by omega) (osW.sub [2, 3, 4, 5, 6, 7] rfl (sL_law_1921 N L xs hend k n hk hn c28 g28 l0 l1 l2 l3 l4 l5 rfl))
          · refine os_aload_n (i := 3) (q := 3) (v := l3) 5 rfl rfl (hL_law.at 1094 rfl rfl) ?_
            refine os_iconst (i := 0) (v := (0 : Int32)) rfl (hL_law.at 1095 rfl rfl) ?_
            refine os_laload (hL_law.at 1096 rfl rfl) (fun x168 => ?_)
            refine os_iload (v := x166) 0 rfl (hL_law.at 1097 rfl rfl) ?_
            refine os_i2l (hL_law.at 1098 rfl rfl) ?_
            refine os_lcmp (hL_law.at 1099 rfl rfl) ?_
            refine os_if_eq (off := 5) (tgt := 1921) rfl (hL_law.at 1100 rfl rfl) ?_ ?_
            · exact osW.widen (k' := k + 1) (n' := n + 6) (by omega) (by omega) (osW.sub [2, 3, 4, 5, 6, 7] rfl (sL_law_1921 N L xs hend k n hk hn c28 g28 l0 l1 l2 l3 l4 l5 rfl))
            · refine os_iconst (i := 0) (v := (0 : Int32)) rfl (hL_law.at 1101 rfl rfl) ?_
              exact os_lawno _ (by decide)
        · refine os_iconst (i := 0) (v := (0 : Int32)) rfl (hL_law.at 1090 rfl rfl) ?_
          exact os_lawno _ (by decide)
      · refine os_aload_n (i := 1) (q := 1) (v := l1) 1 rfl rfl (hL_law.at 1104 rfl rfl) ?_
        refine os_callV (cis := [7]) (b := l1) (As := []) (st := []) (st' := (fun r => .int r :: [])) sl7_X9_writeUnits_X9_writeUnits mdX9_writeUnits wd631 wd632 (sX9_writeUnits N l1 ) rfl rfl (fun _ => rfl) (Nat.le_of_ble_eq_true rfl) (Nat.le_of_ble_eq_true rfl) (Nat.le_of_ble_eq_true rfl) rfl (by show _ ≤ 601024; omega) rfl (by show _ ≤ 7293034; omega) (hL_law.at 1105 rfl rfl) (fun x169 => ?_)
        refine os_aload_n (i := 2) (q := 2) (v := l2) 2 rfl rfl (hL_law.at 1106 rfl rfl) ?_
        refine os_callV (cis := [8]) (b := l2) (As := []) (st := [.int x169]) (st' := (fun r => .int r :: [.int x169])) sl8_X10_writeUnits_X10_writeUnits mdX10_writeUnits wd2269 wd2270 (sX10_writeUnits N l2 ) rfl rfl (fun _ => rfl) (Nat.le_of_ble_eq_true rfl) (Nat.le_of_ble_eq_true rfl) (Nat.le_of_ble_eq_true rfl) rfl (by show _ ≤ 601024; omega) rfl (by show _ ≤ 7293034; omega) (hL_law.at 1107 rfl rfl) (fun x170 => ?_)
        refine os_icmp_eq (off := 105) (tgt := 2037) rfl (hL_law.at 1108 rfl rfl) ?_ ?_
        · exact osW.widen (k' := k + 3) (n' := n + 18) (by omega) (by omega) (osW.sub [0, 1, 2, 3, 4, 5] rfl (sL_law_2037 N L xs hend k n hk hn c28 g28 l0 l1 l2 l3 l4 l5 rfl))
        · refine os_iconst (i := 0) (v := (0 : Int32)) rfl (hL_law.at 1109 rfl rfl) ?_
          exact os_lawno _ (by decide)
      · refine os_aload_n (i := 1) (q := 1) (v := l1) 1 rfl rfl (hL_law.at 1111 rfl rfl) ?_
        refine os_aload_n (i := 3) (q := 3) (v := l3) 3 rfl rfl (hL_law.at 1112 rfl rfl) ?_
        refine os_callSH (As := [.ref l1, .ref l3]) (st := []) (st' := (fun r => .int r :: [])) wd1540 wd150 (by decide +kernel) (by decide +kernel) wd1538 wd1539 (sL_writeOrders N l1 l3) rfl rfl (fun _ => rfl) (Nat.le_of_ble_eq_true rfl) (Nat.le_of_ble_eq_true rfl) (Nat.le_of_ble_eq_true rfl) rfl (by show _ ≤ 601024; omega) rfl (by show _ ≤ 7293034; omega) (hL_law.at 1113 rfl rfl) (fun x171 => ?_)
        refine os_istore (i := 6) (lv' := [(6, .int x171), (0, .ref l0), (1, .ref l1), (2, .ref l2), (3, .ref l3), (4, .ref l4), (5, .int l5)]) (Nat.le_of_ble_eq_true rfl) rfl (hL_law.at 1114 rfl rfl) ?_
        refine os_aload_n (i := 2) (q := 2) (v := l2) 3 rfl rfl (hL_law.at 1115 rfl rfl) ?_
        refine os_callV (cis := [8]) (b := l2) (As := []) (st := []) (st' := (fun r => .int r :: [])) sl8_X10_writeOrders_X10_writeOrders mdX10_writeOrders wd2286 wd2287 (sX10_writeOrders N l2 ) rfl rfl (fun _ => rfl) (Nat.le_of_ble_eq_true rfl) (Nat.le_of_ble_eq_true rfl) (Nat.le_of_ble_eq_true rfl) rfl (by show _ ≤ 601024; omega) rfl (by show _ ≤ 7293034; omega) (hL_law.at 1116 rfl rfl) (fun x172 => ?_)
        refine os_istore (i := 7) (lv' := [(7, .int x172), (6, .int x171), (0, .ref l0), (1, .ref l1), (2, .ref l2), (3, .ref l3), (4, .ref l4), (5, .int l5)]) (Nat.le_of_ble_eq_true rfl) rfl (hL_law.at 1117 rfl rfl) ?_
        refine os_aload_n (i := 2) (q := 2) (v := l2) 4 rfl rfl (hL_law.at 1118 rfl rfl) ?_
        refine os_callV (cis := [8]) (b := l2) (As := []) (st := []) (st' := (fun r => .int r :: [])) sl8_X10_thrown_X10_thrown mdX10_thrown wd1734 wd1735 (sX10_thrown N l2 ) rfl rfl (fun _ => rfl) (Nat.le_of_ble_eq_true rfl) (Nat.le_of_ble_eq_true rfl) (Nat.le_of_ble_eq_true rfl) rfl (by show _ ≤ 601024; omega) rfl (by show _ ≤ 7293034; omega) (hL_law.at 1119 rfl rfl) (fun x173 => ?_)
        refine os_iload (v := x171) 1 rfl (hL_law.at 1120 rfl rfl) ?_
        refine os_icmp_eq (off := 5) (tgt := 1961) rfl (hL_law.at 1121 rfl rfl) ?_ ?_
        · refine os_iload (v := x171) 1 rfl (hL_law.at 1124 rfl rfl) ?_
          refine os_if_ne (off := 15) (tgt := 1978) rfl (hL_law.at 1125 rfl rfl) ?_ ?_
          · exact osW.widen (k' := k + 1) (n' := n + 6) (by omega) (by omega) (osW.sub [2, 3, 4, 5, 6, 7] rfl (sL_law_1978 N L xs hend k n hk hn c28 g28 l0 l1 l2 l3 l4 l5 rfl))
          · refine os_aload_n (i := 3) (q := 3) (v := l3) 5 rfl rfl (hL_law.at 1126 rfl rfl) ?_
            refine os_iconst (i := 0) (v := (0 : Int32)) rfl (hL_law.at 1127 rfl rfl) ?_
            refine os_laload (hL_law.at 1128 rfl rfl) (fun x174 => ?_)
            refine os_iload (v := x172) 0 rfl (hL_law.at 1129 rfl rfl) ?_
            refine os_i2l (hL_law.at 1130 rfl rfl) ?_
            refine os_lcmp (hL_law.at 1131 rfl rfl) ?_
            refine os_if_eq (off := 5) (tgt := 1978) rfl (hL_law.at 1132 rfl rfl) ?_ ?_
            · exact osW.widen (k' := k + 1) (n' := n + 6) (by omega) (by omega) (osW.sub [2, 3, 4, 5, 6, 7] rfl (sL_law_1978 N L xs hend k n hk hn c28 g28 l0 l1 l2 l3 l4 l5 rfl))
            · refine os_iconst (i := 0) (v := (0 : Int32)) rfl (hL_law.at 1133 rfl rfl) ?_
              exact os_lawno _ (by decide)
        · refine os_iconst (i := 0) (v := (0 : Int32)) rfl (hL_law.at 1122 rfl rfl) ?_
          exact os_lawno _ (by decide)
      · refine os_aload_n (i := 1) (q := 1) (v := l1) 1 rfl rfl (hL_law.at 1136 rfl rfl) ?_
        refine os_aload_n (i := 0) (q := 0) (v := l0) 0 rfl rfl (hL_law.at 1137 rfl rfl) ?_
        refine os_iload (v := l5) 5 rfl (hL_law.at 1138 rfl rfl) ?_
        refine os_iconst (i := 1) (v := (1 : Int32)) rfl (hL_law.at 1139 rfl rfl) ?_
        refine os_iadd (hL_law.at 1140 rfl rfl) ?_
        refine os_sld (hL_law.at 1141 rfl rfl) (fun x175 => ?_)
        refine os_aload_n (i := 3) (q := 3) (v := l3) 3 rfl rfl (hL_law.at 1142 rfl rfl) ?_
        refine os_callSH (As := [.ref l1, .int x175, .ref l3]) (st := []) (st' := (fun r => .int r :: [])) wd1559 wd150 (by decide +kernel) (by decide +kernel) wd1557 wd1558 (sL_outputByte N l1 x175 l3) rfl rfl (fun _ => rfl) (Nat.le_of_ble_eq_true rfl) (Nat.le_of_ble_eq_true rfl) (Nat.le_of_ble_eq_true rfl) rfl (by show _ ≤ 601024; omega) rfl (by show _ ≤ 7293034; omega) (hL_law.at 1143 rfl rfl) (fun x176 => ?_)
        refine os_istore (i := 6) (lv' := [(6, .int x176), (0, .ref l0), (1, .ref l1), (2, .ref l2), (3, .ref l3), (4, .ref l4), (5, .int l5)]) (Nat.le_of_ble_eq_true rfl) rfl (hL_law.at 1144 rfl rfl) ?_
        refine os_aload_n (i := 2) (q := 2) (v := l2) 3 rfl rfl (hL_law.at 1145 rfl rfl) ?_
        refine os_aload_n (i := 0) (q := 0) (v := l0) 1 rfl rfl (hL_law.at 1146 rfl rfl) ?_
        refine os_iload (v := l5) 6 rfl (hL_law.at 1147 rfl rfl) ?_
        refine os_iconst (i := 1) (v := (1 : Int32)) rfl (hL_law.at 1148 rfl rfl) ?_
        refine os_iadd (hL_law.at 1149 rfl rfl) ?_
        refine os_sld (hL_law.at 1150 rfl rfl) (fun x177 => ?_)
        refine os_callV (cis := [8]) (b := l2) (As := [.int x177]) (st := []) (st' := (fun r => .int r :: [])) sl8_X10_outputByte_X10_outputByte mdX10_outputByte wd2294 wd2295 (sX10_outputByte N l2 x177) rfl rfl (fun _ => rfl) (Nat.le_of_ble_eq_true rfl) (Nat.le_of_ble_eq_true rfl) (Nat.le_of_ble_eq_true rfl) rfl (by show _ ≤ 601024; omega) rfl (by show _ ≤ 7293034; omega) (hL_law.at 1151 rfl rfl) (fun x178 => ?_)
        refine os_istore (i := 7) (lv' := [(7, .int x178), (6, .int x176), (0, .ref l0), (1, .ref l1), (2, .ref l2), (3, .ref l3), (4, .ref l4), (5, .int l5)]) (Nat.le_of_ble_eq_true rfl) rfl (hL_law.at 1152 rfl rfl) ?_
        refine os_aload_n (i := 2) (q := 2) (v := l2) 4 rfl rfl (hL_law.at 1153 rfl rfl) ?_
        refine os_callV (cis := [8]) (b := l2) (As := []) (st := []) (st' := (fun r => .int r :: [])) sl8_X10_thrown_X10_thrown mdX10_thrown wd1734 wd1735 (sX10_thrown N l2 ) rfl rfl (fun _ => rfl) (Nat.le_of_ble_eq_true rfl) (Nat.le_of_ble_eq_true rfl) (Nat.le_of_ble_eq_true rfl) rfl (by show _ ≤ 601024; omega) rfl (by show _ ≤ 7293034; omega) (hL_law.at 1154 rfl rfl) (fun x179 => ?_)
        refine os_iload (v := x176) 1 rfl (hL_law.at 1155 rfl rfl) ?_
        refine os_icmp_eq (off := 5) (tgt := 2017) rfl (hL_law.at 1156 rfl rfl) ?_ ?_
        · refine os_iload (v := x176) 1 rfl (hL_law.at 1159 rfl rfl) ?_
          refine os_if_ne (off := 15) (tgt := 2034) rfl (hL_law.at 1160 rfl rfl) ?_ ?_
          · exact osW.widen (k' := k + 1) (n' := n + 6) (by omega) (by omega) (osW.sub [2, 3, 4, 5, 6, 7] rfl (sL_law_2034 N L xs hend k n hk hn c28 g28 l0 l1 l2 l3 l4 l5 rfl))
          · refine os_aload_n (i := 3) (q := 3) (v := l3) 5 rfl rfl (hL_law.at 1161 rfl rfl) ?_
            refine os_iconst (i := 0) (v := (0 : Int32)) rfl (hL_law.at 1162 rfl rfl) ?_
            refine os_laload (hL_law.at 1163 rfl rfl) (fun x180 => ?_)
            refine os_iload (v := x178) 0 rfl (hL_law.at 1164 rfl rfl) ?_
            refine os_i2l (hL_law.at 1165 rfl rfl) ?_
            refine os_lcmp (hL_law.at 1166 rfl rfl) ?_
            refine os_if_eq (off := 5) (tgt := 2034) rfl (hL_law.at 1167 rfl rfl) ?_ ?_
            · exact osW.widen (k' := k + 1) (n' := n + 6) (by omega) (by omega) (osW.sub [2, 3, 4, 5, 6, 7] rfl (sL_law_2034 N L xs hend k n hk hn c28 g28 l0 l1 l2 l3 l4 l5 rfl))
            · refine os_iconst (i := 0) (v := (0 : Int32)) rfl (hL_law.at 1168 rfl rfl) ?_
              exact os_lawno _ (by decide)
        · refine os_iconst (i := 0) (v := (0 : Int32)) rfl (hL_law.at 1157 rfl rfl) ?_
          exact os_lawno _ (by decide)
    · exact osW.widen (k' := k + 3) (n' := n + 18) (by omega) (by omega) (osW.sub [0, 1, 2, 3, 4, 5] rfl (sL_law_2037 N L xs hend k n hk hn c28 g28 l0 l1 l2 l3 l4 l5 rfl))
theorem sL_law_28 (N L : Nat) (xs : Nat → Int32) {b : Nat} {Qf : List Frame → State → State → Prop} (hend : ∀ (k n : Nat) (lv : List (Nat × Value)), k ≤ 601024 → n ≤ 7293034 → osW (osFinL b L xs Qf) yL_law cL_law 10 (some .boolean) [] room_1 k n 2044 lv [.int (1 : Int32)] (osret (1 : Int32))) : ∀ (f : Nat), f ≤ 600 → ∀ p : Nat × Nat × Nat × Nat × Nat × Int32, p.1 = b → osW (osFinL b L xs Qf) yL_law cL_law 10 (some .boolean) [] room_1 (601024 - 6 * f) (7293034 - 60 * f) 28 [(0, .ref p.1), (1, .ref p.2.1), (2, .ref p.2.2.1), (3, .ref p.2.2.2.1), (4, .ref p.2.2.2.2.1), (5, .int p.2.2.2.2.2)] [] (qL_law_28 N L xs f p)
  | 0, _, p, _ => os_no rfl
  | f + 1, hf, p, hp => by
    have ih := sL_law_28 N L xs hend f (by omega)
    have e1 : 601024 - 6 * (f + 1) + 6 = 601024 - 6 * f := by omega
    have e2 : 7293034 - 60 * (f + 1) + 60 = 7293034 - 60 * f := by omega
    refine tL_law_28 N L xs hend _ _ (by omega) (by omega) (qL_law_28 N L xs f) (fun l0 l1 l2 l3 l4 l5 hl => ?_) p.1 p.2.1 p.2.2.1 p.2.2.2.1 p.2.2.2.2.1 p.2.2.2.2.2 hp
    rw [e1, e2]
    exact ih (l0, l1, l2, l3, l4, l5) hl
set_option maxRecDepth 100000 in
set_option maxHeartbeats 4000000 in
theorem sL_law (N L : Nat) (xs : Nat → Int32) (NF : Nat) {b : Nat} {Qf : List Frame → State → State → Prop} (hend : ∀ (k n : Nat) (lv : List (Nat × Value)), k ≤ 601024 → n ≤ 7293034 → osW (osFinL b L xs Qf) yL_law cL_law 10 (some .boolean) [] room_1 k n 2044 lv [.int (1 : Int32)] (osret (1 : Int32))) (hNF : NF ≤ 600) (l0 : Nat) (hl0 : l0 = b) : osW (osFinL b L xs Qf) yL_law cL_law 10 (some .boolean) [] room_1 0 0 0 [(0, .ref l0)] [] (qL_law N L xs NF l0) := by
  subst hl0
  unfold qL_law
  refine os_new (C := RX9) (T := TX9) (N := 14) (ci := 7) (ty0 := tyX9) rfl tyX9_ok osinX9 wd177 wd178 wd151 dfX9 (Nat.le_of_ble_eq_true rfl) (Nat.le_of_ble_eq_true rfl) (hL_law.at 0 rfl rfl) (fun x1 => ?_)
  refine os_dup rfl (hL_law.at 1 rfl rfl) ?_
  refine os_callI (b := x1) (As := []) (st := [.ref x1]) (st' := (fun _ => [.ref x1])) mdX9_init rfl wd179 wd180 (sX9_init N x1 ) rfl rfl (fun _ => rfl) (Nat.le_of_ble_eq_true rfl) (Nat.le_of_ble_eq_true rfl) (Nat.le_of_ble_eq_true rfl) rfl (Nat.le_of_ble_eq_true rfl) rfl (Nat.le_of_ble_eq_true rfl) (hL_law.at 2 rfl rfl) (fun _ => ?_)
  refine os_astore_n (i := 1) (q := 1) rfl (lv' := [(1, .ref x1), (0, .ref l0)]) (Nat.le_of_ble_eq_true rfl) rfl (hL_law.at 3 rfl rfl) ?_
  refine os_new (C := RX10) (T := TX10) (N := 43) (ci := 8) (ty0 := tyX10) rfl tyX10_ok osinX10 wd1581 wd1582 wd160 dfX10 (Nat.le_of_ble_eq_true rfl) (Nat.le_of_ble_eq_true rfl) (hL_law.at 4 rfl rfl) (fun x2 => ?_)
  refine os_dup rfl (hL_law.at 5 rfl rfl) ?_
  refine os_callI (b := x2) (As := []) (st := [.ref x2]) (st' := (fun _ => [.ref x2])) mdX10_init rfl wd1583 wd1584 (sX10_init N x2 ) rfl rfl (fun _ => rfl) (Nat.le_of_ble_eq_true rfl) (Nat.le_of_ble_eq_true rfl) (Nat.le_of_ble_eq_true rfl) rfl (Nat.le_of_ble_eq_true rfl) rfl (Nat.le_of_ble_eq_true rfl) (hL_law.at 6 rfl rfl) (fun _ => ?_)
  refine os_astore_n (i := 2) (q := 2) rfl (lv' := [(2, .ref x2), (1, .ref x1), (0, .ref l0)]) (Nat.le_of_ble_eq_true rfl) rfl (hL_law.at 7 rfl rfl) ?_
  refine os_iconst (i := 1) (v := (1 : Int32)) rfl (hL_law.at 8 rfl rfl) ?_
  refine os_newarray (at9 := .long) (ty := .long) (t := 2) (N := 1) rfl rfl rfl wd1732 (fun _ => rfl) (by decide) rfl (Nat.le_of_ble_eq_true rfl) (Nat.le_of_ble_eq_true rfl) (Nat.le_of_ble_eq_true rfl) (hL_law.at 9 rfl rfl) (fun x3 => ?_)
  refine os_astore_n (i := 3) (q := 3) rfl (lv' := [(3, .ref x3), (2, .ref x2), (1, .ref x1), (0, .ref l0)]) (Nat.le_of_ble_eq_true rfl) rfl (hL_law.at 10 rfl rfl) ?_
  refine os_iconst (i := 1) (v := (1 : Int32)) rfl (hL_law.at 11 rfl rfl) ?_
  refine os_newarray (at9 := .double) (ty := .double) (t := 4) (N := 1) rfl rfl rfl wd2298 (fun _ => rfl) (by decide) rfl (Nat.le_of_ble_eq_true rfl) (Nat.le_of_ble_eq_true rfl) (Nat.le_of_ble_eq_true rfl) (hL_law.at 12 rfl rfl) (fun x4 => ?_)
  refine os_astore (i := 4) (lv' := [(4, .ref x4), (3, .ref x3), (2, .ref x2), (1, .ref x1), (0, .ref l0)]) (Nat.le_of_ble_eq_true rfl) rfl (hL_law.at 13 rfl rfl) ?_
  refine os_iconst (i := 0) (v := (0 : Int32)) rfl (hL_law.at 14 rfl rfl) ?_
  refine os_istore (i := 5) (lv' := [(5, .int (0 : Int32)), (4, .ref x4), (3, .ref x3), (2, .ref x2), (1, .ref x1), (0, .ref l0)]) (Nat.le_of_ble_eq_true rfl) rfl (hL_law.at 15 rfl rfl) ?_
  refine os_forget ?_
  exact osW.widen (k' := 601024 - 6 * NF) (n' := 7293034 - 60 * NF) (by omega) (by omega) (osW.sub [5, 4, 3, 2, 1, 0] rfl (sL_law_28 N L xs hend NF hNF (l0, x1, x2, x3, x4, (0 : Int32)) rfl))
