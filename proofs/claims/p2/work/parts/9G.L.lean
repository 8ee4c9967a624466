/-! instructions, fields, calls -/
def dl_L_law_0 : List (Nat × Instr × Nat) := [(0, .new 7, 3), (3, .dup, 1), (4, .invokespecial 9, 3), (7, .astore_n 1, 1), (8, .new 10, 3), (11, .dup, 1), (12, .invokespecial 12, 3), (15, .astore_n 2, 1), (16, .iconst 0, 1), (17, .istore_n 3, 1), (18, .iload_n 3, 1), (19, .aload_n 0, 1), (20, .arraylength, 1), (21, .iconst 5, 1), (22, .isub, 1), (23, .if_icmp .gt 684, 3), (26, .aload_n 0, 1), (27, .iload_n 3, 1), (28, .iaload, 1), (29, .bipush 31, 2), (31, .iand, 1), (32, .tableswitch 669 0 18 #[92, 145, 238, 261, 284, 317, 340, 383, 406, 419, 452, 475, 488, 521, 554, 587, 620, 643, 656], 92), (124, .aload_n 1, 1), (125, .aload_n 0, 1), (126, .iload_n 3, 1), (127, .iconst 1, 1), (128, .iadd, 1), (129, .iaload, 1), (130, .i2l, 1), (131, .bipush 32, 2), (133, .lshl, 1), (134, .aload_n 0, 1), (135, .iload_n 3, 1), (136, .iconst 2, 1), (137, .iadd, 1), (138, .iaload, 1), (139, .i2l, 1), (140, .ldc2_w 13, 3), (143, .land, 1), (144, .lor, 1)]
theorem da_L_law_0 : dcAll M_L_law.2.1 dl_L_law_0 = true := by decide +kernel
def dl_L_law_1 : List (Nat × Instr × Nat) := [(145, .invokevirtual 15, 3), (148, .aload_n 2, 1), (149, .aload_n 0, 1), (150, .iload_n 3, 1), (151, .iconst 1, 1), (152, .iadd, 1), (153, .iaload, 1), (154, .i2l, 1), (155, .bipush 32, 2), (157, .lshl, 1), (158, .aload_n 0, 1), (159, .iload_n 3, 1), (160, .iconst 2, 1), (161, .iadd, 1), (162, .iaload, 1), (163, .i2l, 1), (164, .ldc2_w 13, 3), (167, .land, 1), (168, .lor, 1), (169, .invokevirtual 19, 3), (172, .if_icmp .eq 529, 3), (175, .iconst 0, 1), (176, .ireturn, 1), (177, .aload_n 1, 1), (178, .aload_n 0, 1), (179, .iload_n 3, 1), (180, .iconst 1, 1), (181, .iadd, 1), (182, .iaload, 1), (183, .i2l, 1), (184, .bipush 32, 2), (186, .lshl, 1), (187, .aload_n 0, 1), (188, .iload_n 3, 1), (189, .iconst 2, 1), (190, .iadd, 1), (191, .iaload, 1), (192, .i2l, 1), (193, .ldc2_w 13, 3), (196, .land, 1)]
theorem da_L_law_1 : dcAll M_L_law.2.1 dl_L_law_1 = true := by decide +kernel
def dl_L_law_2 : List (Nat × Instr × Nat) := [(197, .lor, 1), (198, .aload_n 0, 1), (199, .iload_n 3, 1), (200, .iconst 3, 1), (201, .iadd, 1), (202, .iaload, 1), (203, .i2l, 1), (204, .bipush 32, 2), (206, .lshl, 1), (207, .aload_n 0, 1), (208, .iload_n 3, 1), (209, .iconst 4, 1), (210, .iadd, 1), (211, .iaload, 1), (212, .i2l, 1), (213, .ldc2_w 13, 3), (216, .land, 1), (217, .lor, 1), (218, .invokevirtual 20, 3), (221, .pop, 1), (222, .aload_n 2, 1), (223, .aload_n 0, 1), (224, .iload_n 3, 1), (225, .iconst 1, 1), (226, .iadd, 1), (227, .iaload, 1), (228, .i2l, 1), (229, .bipush 32, 2), (231, .lshl, 1), (232, .aload_n 0, 1), (233, .iload_n 3, 1), (234, .iconst 2, 1), (235, .iadd, 1), (236, .iaload, 1), (237, .i2l, 1), (238, .ldc2_w 13, 3), (241, .land, 1), (242, .lor, 1), (243, .aload_n 0, 1), (244, .iload_n 3, 1)]
theorem da_L_law_2 : dcAll M_L_law.2.1 dl_L_law_2 = true := by decide +kernel
def dl_L_law_3 : List (Nat × Instr × Nat) := [(245, .iconst 3, 1), (246, .iadd, 1), (247, .iaload, 1), (248, .i2l, 1), (249, .bipush 32, 2), (251, .lshl, 1), (252, .aload_n 0, 1), (253, .iload_n 3, 1), (254, .iconst 4, 1), (255, .iadd, 1), (256, .iaload, 1), (257, .i2l, 1), (258, .ldc2_w 13, 3), (261, .land, 1), (262, .lor, 1), (263, .invokevirtual 24, 3), (266, .pop, 1), (267, .goto 434, 3), (270, .aload_n 1, 1), (271, .aload_n 0, 1), (272, .iload_n 3, 1), (273, .iconst 1, 1), (274, .iadd, 1), (275, .iaload, 1), (276, .invokevirtual 25, 3), (279, .pop, 1), (280, .aload_n 2, 1), (281, .aload_n 0, 1), (282, .iload_n 3, 1), (283, .iconst 1, 1), (284, .iadd, 1), (285, .iaload, 1), (286, .invokevirtual 29, 3), (289, .pop, 1), (290, .goto 411, 3), (293, .aload_n 1, 1), (294, .aload_n 0, 1), (295, .iload_n 3, 1), (296, .iconst 1, 1), (297, .iadd, 1)]
theorem da_L_law_3 : dcAll M_L_law.2.1 dl_L_law_3 = true := by decide +kernel
def dl_L_law_4 : List (Nat × Instr × Nat) := [(298, .iaload, 1), (299, .invokevirtual 30, 3), (302, .pop, 1), (303, .aload_n 2, 1), (304, .aload_n 0, 1), (305, .iload_n 3, 1), (306, .iconst 1, 1), (307, .iadd, 1), (308, .iaload, 1), (309, .invokevirtual 33, 3), (312, .pop, 1), (313, .goto 388, 3), (316, .aload_n 1, 1), (317, .aload_n 0, 1), (318, .iload_n 3, 1), (319, .iconst 1, 1), (320, .iadd, 1), (321, .iaload, 1), (322, .aload_n 0, 1), (323, .iload_n 3, 1), (324, .iconst 2, 1), (325, .iadd, 1), (326, .iaload, 1), (327, .invokevirtual 34, 3), (330, .pop, 1), (331, .aload_n 2, 1), (332, .aload_n 0, 1), (333, .iload_n 3, 1), (334, .iconst 1, 1), (335, .iadd, 1), (336, .iaload, 1), (337, .aload_n 0, 1), (338, .iload_n 3, 1), (339, .iconst 2, 1), (340, .iadd, 1), (341, .iaload, 1), (342, .invokevirtual 38, 3), (345, .pop, 1), (346, .goto 355, 3), (349, .aload_n 1, 1)]
theorem da_L_law_4 : dcAll M_L_law.2.1 dl_L_law_4 = true := by decide +kernel
def dl_L_law_5 : List (Nat × Instr × Nat) := [(350, .aload_n 0, 1), (351, .iload_n 3, 1), (352, .iconst 1, 1), (353, .iadd, 1), (354, .iaload, 1), (355, .invokevirtual 39, 3), (358, .pop, 1), (359, .aload_n 2, 1), (360, .aload_n 0, 1), (361, .iload_n 3, 1), (362, .iconst 1, 1), (363, .iadd, 1), (364, .iaload, 1), (365, .invokevirtual 42, 3), (368, .pop, 1), (369, .goto 332, 3), (372, .aload_n 1, 1), (373, .aload_n 0, 1), (374, .iload_n 3, 1), (375, .iconst 1, 1), (376, .iadd, 1), (377, .iaload, 1), (378, .aload_n 0, 1), (379, .iload_n 3, 1), (380, .iconst 2, 1), (381, .iadd, 1), (382, .iaload, 1), (383, .aload_n 0, 1), (384, .iload_n 3, 1), (385, .iconst 3, 1), (386, .iadd, 1), (387, .iaload, 1), (388, .invokevirtual 43, 3), (391, .pop, 1), (392, .aload_n 2, 1), (393, .aload_n 0, 1), (394, .iload_n 3, 1), (395, .iconst 1, 1), (396, .iadd, 1), (397, .iaload, 1)]
theorem da_L_law_5 : dcAll M_L_law.2.1 dl_L_law_5 = true := by decide +kernel
def dl_L_law_6 : List (Nat × Instr × Nat) := [(398, .aload_n 0, 1), (399, .iload_n 3, 1), (400, .iconst 2, 1), (401, .iadd, 1), (402, .iaload, 1), (403, .aload_n 0, 1), (404, .iload_n 3, 1), (405, .iconst 3, 1), (406, .iadd, 1), (407, .iaload, 1), (408, .invokevirtual 47, 3), (411, .pop, 1), (412, .goto 289, 3), (415, .aload_n 1, 1), (416, .aload_n 0, 1), (417, .iload_n 3, 1), (418, .iconst 1, 1), (419, .iadd, 1), (420, .iaload, 1), (421, .invokevirtual 48, 3), (424, .pop, 1), (425, .aload_n 2, 1), (426, .aload_n 0, 1), (427, .iload_n 3, 1), (428, .iconst 1, 1), (429, .iadd, 1), (430, .iaload, 1), (431, .invokevirtual 51, 3), (434, .pop, 1), (435, .goto 266, 3), (438, .aload_n 1, 1), (439, .invokevirtual 52, 3), (442, .pop, 1), (443, .aload_n 2, 1), (444, .invokevirtual 56, 3), (447, .pop, 1), (448, .goto 253, 3), (451, .aload_n 1, 1), (452, .aload_n 0, 1), (453, .iload_n 3, 1)]
theorem da_L_law_6 : dcAll M_L_law.2.1 dl_L_law_6 = true := by decide +kernel
def dl_L_law_7 : List (Nat × Instr × Nat) := [(454, .iconst 1, 1), (455, .iadd, 1), (456, .iaload, 1), (457, .aload_n 0, 1), (458, .iload_n 3, 1), (459, .iconst 2, 1), (460, .iadd, 1), (461, .iaload, 1), (462, .invokevirtual 57, 3), (465, .pop, 1), (466, .aload_n 2, 1), (467, .aload_n 0, 1), (468, .iload_n 3, 1), (469, .iconst 1, 1), (470, .iadd, 1), (471, .iaload, 1), (472, .aload_n 0, 1), (473, .iload_n 3, 1), (474, .iconst 2, 1), (475, .iadd, 1), (476, .iaload, 1), (477, .invokevirtual 60, 3), (480, .pop, 1), (481, .goto 220, 3), (484, .aload_n 1, 1), (485, .aload_n 0, 1), (486, .iload_n 3, 1), (487, .iconst 1, 1), (488, .iadd, 1), (489, .iaload, 1), (490, .invokevirtual 61, 3), (493, .pop, 1), (494, .aload_n 2, 1), (495, .aload_n 0, 1), (496, .iload_n 3, 1), (497, .iconst 1, 1), (498, .iadd, 1), (499, .iaload, 1), (500, .invokevirtual 64, 3), (503, .pop, 1)]
theorem da_L_law_7 : dcAll M_L_law.2.1 dl_L_law_7 = true := by decide +kernel
def dl_L_law_8 : List (Nat × Instr × Nat) := [(504, .goto 197, 3), (507, .aload_n 1, 1), (508, .invokevirtual 65, 3), (511, .pop, 1), (512, .aload_n 2, 1), (513, .invokevirtual 68, 3), (516, .pop, 1), (517, .goto 184, 3), (520, .aload_n 1, 1), (521, .aload_n 0, 1), (522, .iload_n 3, 1), (523, .iconst 1, 1), (524, .iadd, 1), (525, .iaload, 1), (526, .aload_n 0, 1), (527, .iload_n 3, 1), (528, .iconst 2, 1), (529, .iadd, 1), (530, .iaload, 1), (531, .invokevirtual 69, 3), (534, .pop, 1), (535, .aload_n 2, 1), (536, .aload_n 0, 1), (537, .iload_n 3, 1), (538, .iconst 1, 1), (539, .iadd, 1), (540, .iaload, 1), (541, .aload_n 0, 1), (542, .iload_n 3, 1), (543, .iconst 2, 1), (544, .iadd, 1), (545, .iaload, 1), (546, .invokevirtual 72, 3), (549, .pop, 1), (550, .goto 151, 3), (553, .aload_n 1, 1), (554, .aload_n 0, 1), (555, .iload_n 3, 1), (556, .iconst 1, 1), (557, .iadd, 1)]
theorem da_L_law_8 : dcAll M_L_law.2.1 dl_L_law_8 = true := by decide +kernel
def dl_L_law_9 : List (Nat × Instr × Nat) := [(558, .iaload, 1), (559, .aload_n 0, 1), (560, .iload_n 3, 1), (561, .iconst 2, 1), (562, .iadd, 1), (563, .iaload, 1), (564, .invokevirtual 73, 3), (567, .pop, 1), (568, .aload_n 2, 1), (569, .aload_n 0, 1), (570, .iload_n 3, 1), (571, .iconst 1, 1), (572, .iadd, 1), (573, .iaload, 1), (574, .aload_n 0, 1), (575, .iload_n 3, 1), (576, .iconst 2, 1), (577, .iadd, 1), (578, .iaload, 1), (579, .invokevirtual 76, 3), (582, .pop, 1), (583, .goto 118, 3), (586, .aload_n 1, 1), (587, .aload_n 0, 1), (588, .iload_n 3, 1), (589, .iconst 1, 1), (590, .iadd, 1), (591, .iaload, 1), (592, .aload_n 0, 1), (593, .iload_n 3, 1), (594, .iconst 2, 1), (595, .iadd, 1), (596, .iaload, 1), (597, .invokevirtual 77, 3), (600, .pop, 1), (601, .aload_n 2, 1), (602, .aload_n 0, 1), (603, .iload_n 3, 1), (604, .iconst 1, 1), (605, .iadd, 1)]
theorem da_L_law_9 : dcAll M_L_law.2.1 dl_L_law_9 = true := by decide +kernel
def dl_L_law_10 : List (Nat × Instr × Nat) := [(606, .iaload, 1), (607, .aload_n 0, 1), (608, .iload_n 3, 1), (609, .iconst 2, 1), (610, .iadd, 1), (611, .iaload, 1), (612, .invokevirtual 80, 3), (615, .pop, 1), (616, .goto 85, 3), (619, .aload_n 1, 1), (620, .aload_n 0, 1), (621, .iload_n 3, 1), (622, .iconst 1, 1), (623, .iadd, 1), (624, .iaload, 1), (625, .aload_n 0, 1), (626, .iload_n 3, 1), (627, .iconst 2, 1), (628, .iadd, 1), (629, .iaload, 1), (630, .invokevirtual 81, 3), (633, .pop, 1), (634, .aload_n 2, 1), (635, .aload_n 0, 1), (636, .iload_n 3, 1), (637, .iconst 1, 1), (638, .iadd, 1), (639, .iaload, 1), (640, .aload_n 0, 1), (641, .iload_n 3, 1), (642, .iconst 2, 1), (643, .iadd, 1), (644, .iaload, 1), (645, .invokevirtual 84, 3), (648, .pop, 1), (649, .goto 52, 3), (652, .aload_n 1, 1), (653, .aload_n 0, 1), (654, .iload_n 3, 1), (655, .iconst 1, 1)]
theorem da_L_law_10 : dcAll M_L_law.2.1 dl_L_law_10 = true := by decide +kernel
def dl_L_law_11 : List (Nat × Instr × Nat) := [(656, .iadd, 1), (657, .iaload, 1), (658, .invokevirtual 85, 3), (661, .pop2, 1), (662, .aload_n 2, 1), (663, .aload_n 0, 1), (664, .iload_n 3, 1), (665, .iconst 1, 1), (666, .iadd, 1), (667, .iaload, 1), (668, .invokevirtual 89, 3), (671, .pop2, 1), (672, .goto 29, 3), (675, .aload_n 1, 1), (676, .invokevirtual 90, 3), (679, .pop, 1), (680, .aload_n 2, 1), (681, .invokevirtual 93, 3), (684, .pop, 1), (685, .goto 16, 3), (688, .aload_n 1, 1), (689, .invokevirtual 94, 3), (692, .pop, 1), (693, .aload_n 2, 1), (694, .invokevirtual 97, 3), (697, .pop, 1), (698, .goto 3, 3), (701, .iinc 3 5, 3), (704, .goto (-686), 3), (707, .iconst 1, 1), (708, .ireturn, 1)]
theorem da_L_law_11 : dcAll M_L_law.2.1 dl_L_law_11 = true := by decide +kernel
theorem q_L_law_0 : decode M_L_law.2.1 0 = .ok (.new 7, 3) ∧ 0 + 3 = 3 := ⟨dcAll_e (i := 0) da_L_law_0 rfl, rfl⟩
theorem n_RL_7 : en_N RL 7 6 15 [.null, .int 0, .null, .null, .null, .null, .int 0, .null, .null, .null, .null, .null, .null, .int 0, .int 0] := ⟨RX6, TX6, tyX6, rfl, by decide +kernel, by decide +kernel, in_X6, uw_X6, tyX6_ok, fun j hj => by match j, hj with | 0, _ => rfl | 1, _ => rfl | 2, _ => rfl | 3, _ => rfl | 4, _ => rfl | 5, _ => rfl | 6, _ => rfl | 7, _ => rfl | 8, _ => rfl | 9, _ => rfl | 10, _ => rfl | 11, _ => rfl | 12, _ => rfl | 13, _ => rfl | 14, _ => rfl | j + 15, h => omega⟩
theorem q_L_law_3 : decode M_L_law.2.1 3 = .ok (.dup, 1) ∧ 3 + 1 = 4 := ⟨dcAll_e (i := 1) da_L_law_0 rfl, rfl⟩
theorem q_L_law_4 : decode M_L_law.2.1 4 = .ok (.invokespecial 9, 3) ∧ 4 + 3 = 7 := ⟨dcAll_e (i := 2) da_L_law_0 rfl, rfl⟩
theorem cd_X6_init : Cond.code M_X6_init.1 M_X6_init.2.1 M_X6_init.2.2.1 M_X6_init.2.2.2.1 ∈ en_tbl := inT1 16 rfl rfl
theorem g_L_law_4 : en_C M_L_law M_X6_init 9 0 := ⟨⟨inT1 14 rfl rfl, in_X6, cd_X6_init⟩, ⟨by decide, by decide, by decide +kernel⟩, by decide, by decide⟩
theorem w_X6_init : Cond.instanceMethod M_X6_init.1 ∈ en_tbl := inT1 15 rfl rfl
theorem q_L_law_7 : decode M_L_law.2.1 7 = .ok (.astore_n 1, 1) ∧ 7 + 1 = 8 := ⟨dcAll_e (i := 3) da_L_law_0 rfl, rfl⟩
theorem q_L_law_8 : decode M_L_law.2.1 8 = .ok (.new 10, 3) ∧ 8 + 3 = 11 := ⟨dcAll_e (i := 4) da_L_law_0 rfl, rfl⟩
theorem n_RL_10 : en_N RL 10 7 15 [.int 0, .null, .null, .null, .null, .null, .null, .null, .null, .int 0, .int 0, .null, .int 0, .int 0, .null] := ⟨RX7, TX7, tyX7, rfl, by decide +kernel, by decide +kernel, in_X7, uw_X7, tyX7_ok, fun j hj => by match j, hj with | 0, _ => rfl | 1, _ => rfl | 2, _ => rfl | 3, _ => rfl | 4, _ => rfl | 5, _ => rfl | 6, _ => rfl | 7, _ => rfl | 8, _ => rfl | 9, _ => rfl | 10, _ => rfl | 11, _ => rfl | 12, _ => rfl | 13, _ => rfl | 14, _ => rfl | j + 15, h => omega⟩
theorem q_L_law_11 : decode M_L_law.2.1 11 = .ok (.dup, 1) ∧ 11 + 1 = 12 := ⟨dcAll_e (i := 5) da_L_law_0 rfl, rfl⟩
theorem q_L_law_12 : decode M_L_law.2.1 12 = .ok (.invokespecial 12, 3) ∧ 12 + 3 = 15 := ⟨dcAll_e (i := 6) da_L_law_0 rfl, rfl⟩
theorem cd_X7_init : Cond.code M_X7_init.1 M_X7_init.2.1 M_X7_init.2.2.1 M_X7_init.2.2.2.1 ∈ en_tbl := inT3 164 rfl rfl
theorem g_L_law_12 : en_C M_L_law M_X7_init 12 0 := ⟨⟨inT3 162 rfl rfl, in_X7, cd_X7_init⟩, ⟨by decide, by decide, by decide +kernel⟩, by decide, by decide⟩
theorem w_X7_init : Cond.instanceMethod M_X7_init.1 ∈ en_tbl := inT3 163 rfl rfl
theorem q_L_law_15 : decode M_L_law.2.1 15 = .ok (.astore_n 2, 1) ∧ 15 + 1 = 16 := ⟨dcAll_e (i := 7) da_L_law_0 rfl, rfl⟩
theorem q_L_law_16 : decode M_L_law.2.1 16 = .ok (.iconst 0, 1) ∧ 16 + 1 = 17 := ⟨dcAll_e (i := 8) da_L_law_0 rfl, rfl⟩
theorem q_L_law_17 : decode M_L_law.2.1 17 = .ok (.istore_n 3, 1) ∧ 17 + 1 = 18 := ⟨dcAll_e (i := 9) da_L_law_0 rfl, rfl⟩
theorem q_L_law_18 : decode M_L_law.2.1 18 = .ok (.iload_n 3, 1) ∧ 18 + 1 = 19 := ⟨dcAll_e (i := 10) da_L_law_0 rfl, rfl⟩
theorem q_L_law_19 : decode M_L_law.2.1 19 = .ok (.aload_n 0, 1) ∧ 19 + 1 = 20 := ⟨dcAll_e (i := 11) da_L_law_0 rfl, rfl⟩
theorem q_L_law_20 : decode M_L_law.2.1 20 = .ok (.arraylength, 1) ∧ 20 + 1 = 21 := ⟨dcAll_e (i := 12) da_L_law_0 rfl, rfl⟩
theorem q_L_law_21 : decode M_L_law.2.1 21 = .ok (.iconst 5, 1) ∧ 21 + 1 = 22 := ⟨dcAll_e (i := 13) da_L_law_0 rfl, rfl⟩
theorem q_L_law_22 : decode M_L_law.2.1 22 = .ok (.isub, 1) ∧ 22 + 1 = 23 := ⟨dcAll_e (i := 14) da_L_law_0 rfl, rfl⟩
theorem q_L_law_23 : decode M_L_law.2.1 23 = .ok (.if_icmp .gt 684, 3) ∧ 23 + 3 = 26 ∧ ((23 : Nat) : Int) + 684 = ((707 : Nat) : Int) := ⟨dcAll_e (i := 15) da_L_law_0 rfl, rfl, rfl⟩
theorem q_L_law_26 : decode M_L_law.2.1 26 = .ok (.aload_n 0, 1) ∧ 26 + 1 = 27 := ⟨dcAll_e (i := 16) da_L_law_0 rfl, rfl⟩
theorem q_L_law_27 : decode M_L_law.2.1 27 = .ok (.iload_n 3, 1) ∧ 27 + 1 = 28 := ⟨dcAll_e (i := 17) da_L_law_0 rfl, rfl⟩
theorem q_L_law_28 : decode M_L_law.2.1 28 = .ok (.iaload, 1) ∧ 28 + 1 = 29 := ⟨dcAll_e (i := 18) da_L_law_0 rfl, rfl⟩
theorem q_L_law_29 : decode M_L_law.2.1 29 = .ok (.bipush 31, 2) ∧ 29 + 2 = 31 := ⟨dcAll_e (i := 19) da_L_law_0 rfl, rfl⟩
theorem q_L_law_31 : decode M_L_law.2.1 31 = .ok (.iand, 1) ∧ 31 + 1 = 32 := ⟨dcAll_e (i := 20) da_L_law_0 rfl, rfl⟩
theorem q_L_law_32 : decode M_L_law.2.1 32 = .ok (.tableswitch 669 0 18 #[92, 145, 238, 261, 284, 317, 340, 383, 406, 419, 452, 475, 488, 521, 554, 587, 620, 643, 656], 92) := dcAll_e (i := 21) da_L_law_0 rfl
theorem q_L_law_124 : decode M_L_law.2.1 124 = .ok (.aload_n 1, 1) ∧ 124 + 1 = 125 := ⟨dcAll_e (i := 22) da_L_law_0 rfl, rfl⟩
theorem q_L_law_125 : decode M_L_law.2.1 125 = .ok (.aload_n 0, 1) ∧ 125 + 1 = 126 := ⟨dcAll_e (i := 23) da_L_law_0 rfl, rfl⟩
theorem q_L_law_126 : decode M_L_law.2.1 126 = .ok (.iload_n 3, 1) ∧ 126 + 1 = 127 := ⟨dcAll_e (i := 24) da_L_law_0 rfl, rfl⟩
theorem q_L_law_127 : decode M_L_law.2.1 127 = .ok (.iconst 1, 1) ∧ 127 + 1 = 128 := ⟨dcAll_e (i := 25) da_L_law_0 rfl, rfl⟩
theorem q_L_law_128 : decode M_L_law.2.1 128 = .ok (.iadd, 1) ∧ 128 + 1 = 129 := ⟨dcAll_e (i := 26) da_L_law_0 rfl, rfl⟩
theorem q_L_law_129 : decode M_L_law.2.1 129 = .ok (.iaload, 1) ∧ 129 + 1 = 130 := ⟨dcAll_e (i := 27) da_L_law_0 rfl, rfl⟩
theorem q_L_law_130 : decode M_L_law.2.1 130 = .ok (.i2l, 1) ∧ 130 + 1 = 131 := ⟨dcAll_e (i := 28) da_L_law_0 rfl, rfl⟩
theorem q_L_law_131 : decode M_L_law.2.1 131 = .ok (.bipush 32, 2) ∧ 131 + 2 = 133 := ⟨dcAll_e (i := 29) da_L_law_0 rfl, rfl⟩
theorem q_L_law_133 : decode M_L_law.2.1 133 = .ok (.lshl, 1) ∧ 133 + 1 = 134 := ⟨dcAll_e (i := 30) da_L_law_0 rfl, rfl⟩
theorem q_L_law_134 : decode M_L_law.2.1 134 = .ok (.aload_n 0, 1) ∧ 134 + 1 = 135 := ⟨dcAll_e (i := 31) da_L_law_0 rfl, rfl⟩
theorem q_L_law_135 : decode M_L_law.2.1 135 = .ok (.iload_n 3, 1) ∧ 135 + 1 = 136 := ⟨dcAll_e (i := 32) da_L_law_0 rfl, rfl⟩
theorem q_L_law_136 : decode M_L_law.2.1 136 = .ok (.iconst 2, 1) ∧ 136 + 1 = 137 := ⟨dcAll_e (i := 33) da_L_law_0 rfl, rfl⟩
theorem q_L_law_137 : decode M_L_law.2.1 137 = .ok (.iadd, 1) ∧ 137 + 1 = 138 := ⟨dcAll_e (i := 34) da_L_law_0 rfl, rfl⟩
theorem q_L_law_138 : decode M_L_law.2.1 138 = .ok (.iaload, 1) ∧ 138 + 1 = 139 := ⟨dcAll_e (i := 35) da_L_law_0 rfl, rfl⟩
theorem q_L_law_139 : decode M_L_law.2.1 139 = .ok (.i2l, 1) ∧ 139 + 1 = 140 := ⟨dcAll_e (i := 36) da_L_law_0 rfl, rfl⟩
theorem q_L_law_140 : decode M_L_law.2.1 140 = .ok (.ldc2_w 13, 3) ∧ 140 + 3 = 143 := ⟨dcAll_e (i := 37) da_L_law_0 rfl, rfl⟩
theorem k_RL_13 : Cond.constantLong RL 13 (lN 4294967295) ∈ en_tbl := by decide +kernel
theorem q_L_law_143 : decode M_L_law.2.1 143 = .ok (.land, 1) ∧ 143 + 1 = 144 := ⟨dcAll_e (i := 38) da_L_law_0 rfl, rfl⟩
theorem q_L_law_144 : decode M_L_law.2.1 144 = .ok (.lor, 1) ∧ 144 + 1 = 145 := ⟨dcAll_e (i := 39) da_L_law_0 rfl, rfl⟩
theorem q_L_law_145 : decode M_L_law.2.1 145 = .ok (.invokevirtual 15, 3) ∧ 145 + 3 = 148 := ⟨dcAll_e (i := 0) da_L_law_1 rfl, rfl⟩
theorem cd_X6_whole : Cond.code M_X6_whole.1 M_X6_whole.2.1 M_X6_whole.2.2.1 M_X6_whole.2.2.2.1 ∈ en_tbl := inT1 197 rfl rfl
theorem g_L_law_145 : en_C M_L_law M_X6_whole 15 1 := ⟨⟨inT1 194 rfl rfl, in_X6, cd_X6_whole⟩, ⟨by decide, by decide, by decide +kernel⟩, by decide, by decide⟩
theorem w_X6_whole : Cond.instanceMethod M_X6_whole.1 ∈ en_tbl ∧ Cond.selects M_X6_whole.1.cls M_X6_whole.1 M_X6_whole.1 ∈ en_tbl := ⟨inT1 195 rfl rfl, inT1 196 rfl rfl⟩
theorem q_L_law_148 : decode M_L_law.2.1 148 = .ok (.aload_n 2, 1) ∧ 148 + 1 = 149 := ⟨dcAll_e (i := 1) da_L_law_1 rfl, rfl⟩
theorem q_L_law_149 : decode M_L_law.2.1 149 = .ok (.aload_n 0, 1) ∧ 149 + 1 = 150 := ⟨dcAll_e (i := 2) da_L_law_1 rfl, rfl⟩
theorem q_L_law_150 : decode M_L_law.2.1 150 = .ok (.iload_n 3, 1) ∧ 150 + 1 = 151 := ⟨dcAll_e (i := 3) da_L_law_1 rfl, rfl⟩
theorem q_L_law_151 : decode M_L_law.2.1 151 = .ok (.iconst 1, 1) ∧ 151 + 1 = 152 := ⟨dcAll_e (i := 4) da_L_law_1 rfl, rfl⟩
theorem q_L_law_152 : decode M_L_law.2.1 152 = .ok (.iadd, 1) ∧ 152 + 1 = 153 := ⟨dcAll_e (i := 5) da_L_law_1 rfl, rfl⟩
theorem q_L_law_153 : decode M_L_law.2.1 153 = .ok (.iaload, 1) ∧ 153 + 1 = 154 := ⟨dcAll_e (i := 6) da_L_law_1 rfl, rfl⟩
theorem q_L_law_154 : decode M_L_law.2.1 154 = .ok (.i2l, 1) ∧ 154 + 1 = 155 := ⟨dcAll_e (i := 7) da_L_law_1 rfl, rfl⟩
theorem q_L_law_155 : decode M_L_law.2.1 155 = .ok (.bipush 32, 2) ∧ 155 + 2 = 157 := ⟨dcAll_e (i := 8) da_L_law_1 rfl, rfl⟩
theorem q_L_law_157 : decode M_L_law.2.1 157 = .ok (.lshl, 1) ∧ 157 + 1 = 158 := ⟨dcAll_e (i := 9) da_L_law_1 rfl, rfl⟩
theorem q_L_law_158 : decode M_L_law.2.1 158 = .ok (.aload_n 0, 1) ∧ 158 + 1 = 159 := ⟨dcAll_e (i := 10) da_L_law_1 rfl, rfl⟩
theorem q_L_law_159 : decode M_L_law.2.1 159 = .ok (.iload_n 3, 1) ∧ 159 + 1 = 160 := ⟨dcAll_e (i := 11) da_L_law_1 rfl, rfl⟩
theorem q_L_law_160 : decode M_L_law.2.1 160 = .ok (.iconst 2, 1) ∧ 160 + 1 = 161 := ⟨dcAll_e (i := 12) da_L_law_1 rfl, rfl⟩
theorem q_L_law_161 : decode M_L_law.2.1 161 = .ok (.iadd, 1) ∧ 161 + 1 = 162 := ⟨dcAll_e (i := 13) da_L_law_1 rfl, rfl⟩
theorem q_L_law_162 : decode M_L_law.2.1 162 = .ok (.iaload, 1) ∧ 162 + 1 = 163 := ⟨dcAll_e (i := 14) da_L_law_1 rfl, rfl⟩
theorem q_L_law_163 : decode M_L_law.2.1 163 = .ok (.i2l, 1) ∧ 163 + 1 = 164 := ⟨dcAll_e (i := 15) da_L_law_1 rfl, rfl⟩
theorem q_L_law_164 : decode M_L_law.2.1 164 = .ok (.ldc2_w 13, 3) ∧ 164 + 3 = 167 := ⟨dcAll_e (i := 16) da_L_law_1 rfl, rfl⟩
theorem q_L_law_167 : decode M_L_law.2.1 167 = .ok (.land, 1) ∧ 167 + 1 = 168 := ⟨dcAll_e (i := 17) da_L_law_1 rfl, rfl⟩
theorem q_L_law_168 : decode M_L_law.2.1 168 = .ok (.lor, 1) ∧ 168 + 1 = 169 := ⟨dcAll_e (i := 18) da_L_law_1 rfl, rfl⟩
theorem q_L_law_169 : decode M_L_law.2.1 169 = .ok (.invokevirtual 19, 3) ∧ 169 + 3 = 172 := ⟨dcAll_e (i := 19) da_L_law_1 rfl, rfl⟩
theorem cd_X7_whole : Cond.code M_X7_whole.1 M_X7_whole.2.1 M_X7_whole.2.2.1 M_X7_whole.2.2.2.1 ∈ en_tbl := inT3 217 rfl rfl
theorem g_L_law_169 : en_C M_L_law M_X7_whole 19 1 := ⟨⟨inT3 214 rfl rfl, in_X7, cd_X7_whole⟩, ⟨by decide, by decide, by decide +kernel⟩, by decide, by decide⟩
theorem w_X7_whole : Cond.instanceMethod M_X7_whole.1 ∈ en_tbl ∧ Cond.selects M_X7_whole.1.cls M_X7_whole.1 M_X7_whole.1 ∈ en_tbl := ⟨inT3 215 rfl rfl, inT3 216 rfl rfl⟩
theorem q_L_law_172 : decode M_L_law.2.1 172 = .ok (.if_icmp .eq 529, 3) ∧ 172 + 3 = 175 ∧ ((172 : Nat) : Int) + 529 = ((701 : Nat) : Int) := ⟨dcAll_e (i := 20) da_L_law_1 rfl, rfl, rfl⟩
theorem q_L_law_175 : decode M_L_law.2.1 175 = .ok (.iconst 0, 1) ∧ 175 + 1 = 176 := ⟨dcAll_e (i := 21) da_L_law_1 rfl, rfl⟩
theorem q_L_law_176 : decode M_L_law.2.1 176 = .ok (.ireturn, 1) ∧ 176 + 1 = 177 := ⟨dcAll_e (i := 22) da_L_law_1 rfl, rfl⟩
theorem q_L_law_177 : decode M_L_law.2.1 177 = .ok (.aload_n 1, 1) ∧ 177 + 1 = 178 := ⟨dcAll_e (i := 23) da_L_law_1 rfl, rfl⟩
theorem q_L_law_178 : decode M_L_law.2.1 178 = .ok (.aload_n 0, 1) ∧ 178 + 1 = 179 := ⟨dcAll_e (i := 24) da_L_law_1 rfl, rfl⟩
theorem q_L_law_179 : decode M_L_law.2.1 179 = .ok (.iload_n 3, 1) ∧ 179 + 1 = 180 := ⟨dcAll_e (i := 25) da_L_law_1 rfl, rfl⟩
theorem q_L_law_180 : decode M_L_law.2.1 180 = .ok (.iconst 1, 1) ∧ 180 + 1 = 181 := ⟨dcAll_e (i := 26) da_L_law_1 rfl, rfl⟩
theorem q_L_law_181 : decode M_L_law.2.1 181 = .ok (.iadd, 1) ∧ 181 + 1 = 182 := ⟨dcAll_e (i := 27) da_L_law_1 rfl, rfl⟩
theorem q_L_law_182 : decode M_L_law.2.1 182 = .ok (.iaload, 1) ∧ 182 + 1 = 183 := ⟨dcAll_e (i := 28) da_L_law_1 rfl, rfl⟩
theorem q_L_law_183 : decode M_L_law.2.1 183 = .ok (.i2l, 1) ∧ 183 + 1 = 184 := ⟨dcAll_e (i := 29) da_L_law_1 rfl, rfl⟩
theorem q_L_law_184 : decode M_L_law.2.1 184 = .ok (.bipush 32, 2) ∧ 184 + 2 = 186 := ⟨dcAll_e (i := 30) da_L_law_1 rfl, rfl⟩
theorem q_L_law_186 : decode M_L_law.2.1 186 = .ok (.lshl, 1) ∧ 186 + 1 = 187 := ⟨dcAll_e (i := 31) da_L_law_1 rfl, rfl⟩
theorem q_L_law_187 : decode M_L_law.2.1 187 = .ok (.aload_n 0, 1) ∧ 187 + 1 = 188 := ⟨dcAll_e (i := 32) da_L_law_1 rfl, rfl⟩
theorem q_L_law_188 : decode M_L_law.2.1 188 = .ok (.iload_n 3, 1) ∧ 188 + 1 = 189 := ⟨dcAll_e (i := 33) da_L_law_1 rfl, rfl⟩
theorem q_L_law_189 : decode M_L_law.2.1 189 = .ok (.iconst 2, 1) ∧ 189 + 1 = 190 := ⟨dcAll_e (i := 34) da_L_law_1 rfl, rfl⟩
theorem q_L_law_190 : decode M_L_law.2.1 190 = .ok (.iadd, 1) ∧ 190 + 1 = 191 := ⟨dcAll_e (i := 35) da_L_law_1 rfl, rfl⟩
theorem q_L_law_191 : decode M_L_law.2.1 191 = .ok (.iaload, 1) ∧ 191 + 1 = 192 := ⟨dcAll_e (i := 36) da_L_law_1 rfl, rfl⟩
theorem q_L_law_192 : decode M_L_law.2.1 192 = .ok (.i2l, 1) ∧ 192 + 1 = 193 := ⟨dcAll_e (i := 37) da_L_law_1 rfl, rfl⟩
theorem q_L_law_193 : decode M_L_law.2.1 193 = .ok (.ldc2_w 13, 3) ∧ 193 + 3 = 196 := ⟨dcAll_e (i := 38) da_L_law_1 rfl, rfl⟩
theorem q_L_law_196 : decode M_L_law.2.1 196 = .ok (.land, 1) ∧ 196 + 1 = 197 := ⟨dcAll_e (i := 39) da_L_law_1 rfl, rfl⟩
theorem q_L_law_197 : decode M_L_law.2.1 197 = .ok (.lor, 1) ∧ 197 + 1 = 198 := ⟨dcAll_e (i := 0) da_L_law_2 rfl, rfl⟩
theorem q_L_law_198 : decode M_L_law.2.1 198 = .ok (.aload_n 0, 1) ∧ 198 + 1 = 199 := ⟨dcAll_e (i := 1) da_L_law_2 rfl, rfl⟩
theorem q_L_law_199 : decode M_L_law.2.1 199 = .ok (.iload_n 3, 1) ∧ 199 + 1 = 200 := ⟨dcAll_e (i := 2) da_L_law_2 rfl, rfl⟩
theorem q_L_law_200 : decode M_L_law.2.1 200 = .ok (.iconst 3, 1) ∧ 200 + 1 = 201 := ⟨dcAll_e (i := 3) da_L_law_2 rfl, rfl⟩
theorem q_L_law_201 : decode M_L_law.2.1 201 = .ok (.iadd, 1) ∧ 201 + 1 = 202 := ⟨dcAll_e (i := 4) da_L_law_2 rfl, rfl⟩
theorem q_L_law_202 : decode M_L_law.2.1 202 = .ok (.iaload, 1) ∧ 202 + 1 = 203 := ⟨dcAll_e (i := 5) da_L_law_2 rfl, rfl⟩
theorem q_L_law_203 : decode M_L_law.2.1 203 = .ok (.i2l, 1) ∧ 203 + 1 = 204 := ⟨dcAll_e (i := 6) da_L_law_2 rfl, rfl⟩
theorem q_L_law_204 : decode M_L_law.2.1 204 = .ok (.bipush 32, 2) ∧ 204 + 2 = 206 := ⟨dcAll_e (i := 7) da_L_law_2 rfl, rfl⟩
theorem q_L_law_206 : decode M_L_law.2.1 206 = .ok (.lshl, 1) ∧ 206 + 1 = 207 := ⟨dcAll_e (i := 8) da_L_law_2 rfl, rfl⟩
theorem q_L_law_207 : decode M_L_law.2.1 207 = .ok (.aload_n 0, 1) ∧ 207 + 1 = 208 := ⟨dcAll_e (i := 9) da_L_law_2 rfl, rfl⟩
theorem q_L_law_208 : decode M_L_law.2.1 208 = .ok (.iload_n 3, 1) ∧ 208 + 1 = 209 := ⟨dcAll_e (i := 10) da_L_law_2 rfl, rfl⟩
theorem q_L_law_209 : decode M_L_law.2.1 209 = .ok (.iconst 4, 1) ∧ 209 + 1 = 210 := ⟨dcAll_e (i := 11) da_L_law_2 rfl, rfl⟩
theorem q_L_law_210 : decode M_L_law.2.1 210 = .ok (.iadd, 1) ∧ 210 + 1 = 211 := ⟨dcAll_e (i := 12) da_L_law_2 rfl, rfl⟩
theorem q_L_law_211 : decode M_L_law.2.1 211 = .ok (.iaload, 1) ∧ 211 + 1 = 212 := ⟨dcAll_e (i := 13) da_L_law_2 rfl, rfl⟩
theorem q_L_law_212 : decode M_L_law.2.1 212 = .ok (.i2l, 1) ∧ 212 + 1 = 213 := ⟨dcAll_e (i := 14) da_L_law_2 rfl, rfl⟩
theorem q_L_law_213 : decode M_L_law.2.1 213 = .ok (.ldc2_w 13, 3) ∧ 213 + 3 = 216 := ⟨dcAll_e (i := 15) da_L_law_2 rfl, rfl⟩
theorem q_L_law_216 : decode M_L_law.2.1 216 = .ok (.land, 1) ∧ 216 + 1 = 217 := ⟨dcAll_e (i := 16) da_L_law_2 rfl, rfl⟩
theorem q_L_law_217 : decode M_L_law.2.1 217 = .ok (.lor, 1) ∧ 217 + 1 = 218 := ⟨dcAll_e (i := 17) da_L_law_2 rfl, rfl⟩
theorem q_L_law_218 : decode M_L_law.2.1 218 = .ok (.invokevirtual 20, 3) ∧ 218 + 3 = 221 := ⟨dcAll_e (i := 18) da_L_law_2 rfl, rfl⟩
theorem cd_X6_ratio : Cond.code M_X6_ratio.1 M_X6_ratio.2.1 M_X6_ratio.2.2.1 M_X6_ratio.2.2.2.1 ∈ en_tbl := inT2 32 rfl rfl
theorem g_L_law_218 : en_C M_L_law M_X6_ratio 20 2 := ⟨⟨inT2 29 rfl rfl, in_X6, cd_X6_ratio⟩, ⟨by decide, by decide, by decide +kernel⟩, by decide, by decide⟩
theorem w_X6_ratio : Cond.instanceMethod M_X6_ratio.1 ∈ en_tbl ∧ Cond.selects M_X6_ratio.1.cls M_X6_ratio.1 M_X6_ratio.1 ∈ en_tbl := ⟨inT2 30 rfl rfl, inT2 31 rfl rfl⟩
theorem q_L_law_221 : decode M_L_law.2.1 221 = .ok (.pop, 1) ∧ 221 + 1 = 222 := ⟨dcAll_e (i := 19) da_L_law_2 rfl, rfl⟩
theorem q_L_law_222 : decode M_L_law.2.1 222 = .ok (.aload_n 2, 1) ∧ 222 + 1 = 223 := ⟨dcAll_e (i := 20) da_L_law_2 rfl, rfl⟩
theorem q_L_law_223 : decode M_L_law.2.1 223 = .ok (.aload_n 0, 1) ∧ 223 + 1 = 224 := ⟨dcAll_e (i := 21) da_L_law_2 rfl, rfl⟩
theorem q_L_law_224 : decode M_L_law.2.1 224 = .ok (.iload_n 3, 1) ∧ 224 + 1 = 225 := ⟨dcAll_e (i := 22) da_L_law_2 rfl, rfl⟩
theorem q_L_law_225 : decode M_L_law.2.1 225 = .ok (.iconst 1, 1) ∧ 225 + 1 = 226 := ⟨dcAll_e (i := 23) da_L_law_2 rfl, rfl⟩
theorem q_L_law_226 : decode M_L_law.2.1 226 = .ok (.iadd, 1) ∧ 226 + 1 = 227 := ⟨dcAll_e (i := 24) da_L_law_2 rfl, rfl⟩
theorem q_L_law_227 : decode M_L_law.2.1 227 = .ok (.iaload, 1) ∧ 227 + 1 = 228 := ⟨dcAll_e (i := 25) da_L_law_2 rfl, rfl⟩
theorem q_L_law_228 : decode M_L_law.2.1 228 = .ok (.i2l, 1) ∧ 228 + 1 = 229 := ⟨dcAll_e (i := 26) da_L_law_2 rfl, rfl⟩
theorem q_L_law_229 : decode M_L_law.2.1 229 = .ok (.bipush 32, 2) ∧ 229 + 2 = 231 := ⟨dcAll_e (i := 27) da_L_law_2 rfl, rfl⟩
theorem q_L_law_231 : decode M_L_law.2.1 231 = .ok (.lshl, 1) ∧ 231 + 1 = 232 := ⟨dcAll_e (i := 28) da_L_law_2 rfl, rfl⟩
theorem q_L_law_232 : decode M_L_law.2.1 232 = .ok (.aload_n 0, 1) ∧ 232 + 1 = 233 := ⟨dcAll_e (i := 29) da_L_law_2 rfl, rfl⟩
theorem q_L_law_233 : decode M_L_law.2.1 233 = .ok (.iload_n 3, 1) ∧ 233 + 1 = 234 := ⟨dcAll_e (i := 30) da_L_law_2 rfl, rfl⟩
theorem q_L_law_234 : decode M_L_law.2.1 234 = .ok (.iconst 2, 1) ∧ 234 + 1 = 235 := ⟨dcAll_e (i := 31) da_L_law_2 rfl, rfl⟩
theorem q_L_law_235 : decode M_L_law.2.1 235 = .ok (.iadd, 1) ∧ 235 + 1 = 236 := ⟨dcAll_e (i := 32) da_L_law_2 rfl, rfl⟩
theorem q_L_law_236 : decode M_L_law.2.1 236 = .ok (.iaload, 1) ∧ 236 + 1 = 237 := ⟨dcAll_e (i := 33) da_L_law_2 rfl, rfl⟩
theorem q_L_law_237 : decode M_L_law.2.1 237 = .ok (.i2l, 1) ∧ 237 + 1 = 238 := ⟨dcAll_e (i := 34) da_L_law_2 rfl, rfl⟩
theorem q_L_law_238 : decode M_L_law.2.1 238 = .ok (.ldc2_w 13, 3) ∧ 238 + 3 = 241 := ⟨dcAll_e (i := 35) da_L_law_2 rfl, rfl⟩
theorem q_L_law_241 : decode M_L_law.2.1 241 = .ok (.land, 1) ∧ 241 + 1 = 242 := ⟨dcAll_e (i := 36) da_L_law_2 rfl, rfl⟩
theorem q_L_law_242 : decode M_L_law.2.1 242 = .ok (.lor, 1) ∧ 242 + 1 = 243 := ⟨dcAll_e (i := 37) da_L_law_2 rfl, rfl⟩
theorem q_L_law_243 : decode M_L_law.2.1 243 = .ok (.aload_n 0, 1) ∧ 243 + 1 = 244 := ⟨dcAll_e (i := 38) da_L_law_2 rfl, rfl⟩
theorem q_L_law_244 : decode M_L_law.2.1 244 = .ok (.iload_n 3, 1) ∧ 244 + 1 = 245 := ⟨dcAll_e (i := 39) da_L_law_2 rfl, rfl⟩
theorem q_L_law_245 : decode M_L_law.2.1 245 = .ok (.iconst 3, 1) ∧ 245 + 1 = 246 := ⟨dcAll_e (i := 0) da_L_law_3 rfl, rfl⟩
theorem q_L_law_246 : decode M_L_law.2.1 246 = .ok (.iadd, 1) ∧ 246 + 1 = 247 := ⟨dcAll_e (i := 1) da_L_law_3 rfl, rfl⟩
theorem q_L_law_247 : decode M_L_law.2.1 247 = .ok (.iaload, 1) ∧ 247 + 1 = 248 := ⟨dcAll_e (i := 2) da_L_law_3 rfl, rfl⟩
theorem q_L_law_248 : decode M_L_law.2.1 248 = .ok (.i2l, 1) ∧ 248 + 1 = 249 := ⟨dcAll_e (i := 3) da_L_law_3 rfl, rfl⟩
theorem q_L_law_249 : decode M_L_law.2.1 249 = .ok (.bipush 32, 2) ∧ 249 + 2 = 251 := ⟨dcAll_e (i := 4) da_L_law_3 rfl, rfl⟩
theorem q_L_law_251 : decode M_L_law.2.1 251 = .ok (.lshl, 1) ∧ 251 + 1 = 252 := ⟨dcAll_e (i := 5) da_L_law_3 rfl, rfl⟩
theorem q_L_law_252 : decode M_L_law.2.1 252 = .ok (.aload_n 0, 1) ∧ 252 + 1 = 253 := ⟨dcAll_e (i := 6) da_L_law_3 rfl, rfl⟩
theorem q_L_law_253 : decode M_L_law.2.1 253 = .ok (.iload_n 3, 1) ∧ 253 + 1 = 254 := ⟨dcAll_e (i := 7) da_L_law_3 rfl, rfl⟩
theorem q_L_law_254 : decode M_L_law.2.1 254 = .ok (.iconst 4, 1) ∧ 254 + 1 = 255 := ⟨dcAll_e (i := 8) da_L_law_3 rfl, rfl⟩
theorem q_L_law_255 : decode M_L_law.2.1 255 = .ok (.iadd, 1) ∧ 255 + 1 = 256 := ⟨dcAll_e (i := 9) da_L_law_3 rfl, rfl⟩
theorem q_L_law_256 : decode M_L_law.2.1 256 = .ok (.iaload, 1) ∧ 256 + 1 = 257 := ⟨dcAll_e (i := 10) da_L_law_3 rfl, rfl⟩
theorem q_L_law_257 : decode M_L_law.2.1 257 = .ok (.i2l, 1) ∧ 257 + 1 = 258 := ⟨dcAll_e (i := 11) da_L_law_3 rfl, rfl⟩
theorem q_L_law_258 : decode M_L_law.2.1 258 = .ok (.ldc2_w 13, 3) ∧ 258 + 3 = 261 := ⟨dcAll_e (i := 12) da_L_law_3 rfl, rfl⟩
theorem q_L_law_261 : decode M_L_law.2.1 261 = .ok (.land, 1) ∧ 261 + 1 = 262 := ⟨dcAll_e (i := 13) da_L_law_3 rfl, rfl⟩
theorem q_L_law_262 : decode M_L_law.2.1 262 = .ok (.lor, 1) ∧ 262 + 1 = 263 := ⟨dcAll_e (i := 14) da_L_law_3 rfl, rfl⟩
theorem q_L_law_263 : decode M_L_law.2.1 263 = .ok (.invokevirtual 24, 3) ∧ 263 + 3 = 266 := ⟨dcAll_e (i := 15) da_L_law_3 rfl, rfl⟩
theorem cd_X7_ratio : Cond.code M_X7_ratio.1 M_X7_ratio.2.1 M_X7_ratio.2.2.1 M_X7_ratio.2.2.2.1 ∈ en_tbl := inT3 225 rfl rfl
theorem g_L_law_263 : en_C M_L_law M_X7_ratio 24 2 := ⟨⟨inT3 222 rfl rfl, in_X7, cd_X7_ratio⟩, ⟨by decide, by decide, by decide +kernel⟩, by decide, by decide⟩
theorem w_X7_ratio : Cond.instanceMethod M_X7_ratio.1 ∈ en_tbl ∧ Cond.selects M_X7_ratio.1.cls M_X7_ratio.1 M_X7_ratio.1 ∈ en_tbl := ⟨inT3 223 rfl rfl, inT3 224 rfl rfl⟩
theorem q_L_law_266 : decode M_L_law.2.1 266 = .ok (.pop, 1) ∧ 266 + 1 = 267 := ⟨dcAll_e (i := 16) da_L_law_3 rfl, rfl⟩
theorem q_L_law_267 : decode M_L_law.2.1 267 = .ok (.goto 434, 3) ∧ 267 + 3 = 270 ∧ ((267 : Nat) : Int) + 434 = ((701 : Nat) : Int) := ⟨dcAll_e (i := 17) da_L_law_3 rfl, rfl, rfl⟩
theorem q_L_law_270 : decode M_L_law.2.1 270 = .ok (.aload_n 1, 1) ∧ 270 + 1 = 271 := ⟨dcAll_e (i := 18) da_L_law_3 rfl, rfl⟩
theorem q_L_law_271 : decode M_L_law.2.1 271 = .ok (.aload_n 0, 1) ∧ 271 + 1 = 272 := ⟨dcAll_e (i := 19) da_L_law_3 rfl, rfl⟩
theorem q_L_law_272 : decode M_L_law.2.1 272 = .ok (.iload_n 3, 1) ∧ 272 + 1 = 273 := ⟨dcAll_e (i := 20) da_L_law_3 rfl, rfl⟩
theorem q_L_law_273 : decode M_L_law.2.1 273 = .ok (.iconst 1, 1) ∧ 273 + 1 = 274 := ⟨dcAll_e (i := 21) da_L_law_3 rfl, rfl⟩
theorem q_L_law_274 : decode M_L_law.2.1 274 = .ok (.iadd, 1) ∧ 274 + 1 = 275 := ⟨dcAll_e (i := 22) da_L_law_3 rfl, rfl⟩
theorem q_L_law_275 : decode M_L_law.2.1 275 = .ok (.iaload, 1) ∧ 275 + 1 = 276 := ⟨dcAll_e (i := 23) da_L_law_3 rfl, rfl⟩
theorem q_L_law_276 : decode M_L_law.2.1 276 = .ok (.invokevirtual 25, 3) ∧ 276 + 3 = 279 := ⟨dcAll_e (i := 24) da_L_law_3 rfl, rfl⟩
theorem cd_X6_arctan : Cond.code M_X6_arctan.1 M_X6_arctan.2.1 M_X6_arctan.2.2.1 M_X6_arctan.2.2.2.1 ∈ en_tbl := inT2 36 rfl rfl
theorem g_L_law_276 : en_C M_L_law M_X6_arctan 25 1 := ⟨⟨inT2 33 rfl rfl, in_X6, cd_X6_arctan⟩, ⟨by decide, by decide, by decide +kernel⟩, by decide, by decide⟩
theorem w_X6_arctan : Cond.instanceMethod M_X6_arctan.1 ∈ en_tbl ∧ Cond.selects M_X6_arctan.1.cls M_X6_arctan.1 M_X6_arctan.1 ∈ en_tbl := ⟨inT2 34 rfl rfl, inT2 35 rfl rfl⟩
theorem q_L_law_279 : decode M_L_law.2.1 279 = .ok (.pop, 1) ∧ 279 + 1 = 280 := ⟨dcAll_e (i := 25) da_L_law_3 rfl, rfl⟩
theorem q_L_law_280 : decode M_L_law.2.1 280 = .ok (.aload_n 2, 1) ∧ 280 + 1 = 281 := ⟨dcAll_e (i := 26) da_L_law_3 rfl, rfl⟩
theorem q_L_law_281 : decode M_L_law.2.1 281 = .ok (.aload_n 0, 1) ∧ 281 + 1 = 282 := ⟨dcAll_e (i := 27) da_L_law_3 rfl, rfl⟩
theorem q_L_law_282 : decode M_L_law.2.1 282 = .ok (.iload_n 3, 1) ∧ 282 + 1 = 283 := ⟨dcAll_e (i := 28) da_L_law_3 rfl, rfl⟩
theorem q_L_law_283 : decode M_L_law.2.1 283 = .ok (.iconst 1, 1) ∧ 283 + 1 = 284 := ⟨dcAll_e (i := 29) da_L_law_3 rfl, rfl⟩
theorem q_L_law_284 : decode M_L_law.2.1 284 = .ok (.iadd, 1) ∧ 284 + 1 = 285 := ⟨dcAll_e (i := 30) da_L_law_3 rfl, rfl⟩
theorem q_L_law_285 : decode M_L_law.2.1 285 = .ok (.iaload, 1) ∧ 285 + 1 = 286 := ⟨dcAll_e (i := 31) da_L_law_3 rfl, rfl⟩
theorem q_L_law_286 : decode M_L_law.2.1 286 = .ok (.invokevirtual 29, 3) ∧ 286 + 3 = 289 := ⟨dcAll_e (i := 32) da_L_law_3 rfl, rfl⟩
theorem cd_X7_arctan : Cond.code M_X7_arctan.1 M_X7_arctan.2.1 M_X7_arctan.2.2.1 M_X7_arctan.2.2.2.1 ∈ en_tbl := inT3 229 rfl rfl
theorem g_L_law_286 : en_C M_L_law M_X7_arctan 29 1 := ⟨⟨inT3 226 rfl rfl, in_X7, cd_X7_arctan⟩, ⟨by decide, by decide, by decide +kernel⟩, by decide, by decide⟩
theorem w_X7_arctan : Cond.instanceMethod M_X7_arctan.1 ∈ en_tbl ∧ Cond.selects M_X7_arctan.1.cls M_X7_arctan.1 M_X7_arctan.1 ∈ en_tbl := ⟨inT3 227 rfl rfl, inT3 228 rfl rfl⟩
theorem q_L_law_289 : decode M_L_law.2.1 289 = .ok (.pop, 1) ∧ 289 + 1 = 290 := ⟨dcAll_e (i := 33) da_L_law_3 rfl, rfl⟩
theorem q_L_law_290 : decode M_L_law.2.1 290 = .ok (.goto 411, 3) ∧ 290 + 3 = 293 ∧ ((290 : Nat) : Int) + 411 = ((701 : Nat) : Int) := ⟨dcAll_e (i := 34) da_L_law_3 rfl, rfl, rfl⟩
theorem q_L_law_293 : decode M_L_law.2.1 293 = .ok (.aload_n 1, 1) ∧ 293 + 1 = 294 := ⟨dcAll_e (i := 35) da_L_law_3 rfl, rfl⟩
theorem q_L_law_294 : decode M_L_law.2.1 294 = .ok (.aload_n 0, 1) ∧ 294 + 1 = 295 := ⟨dcAll_e (i := 36) da_L_law_3 rfl, rfl⟩
theorem q_L_law_295 : decode M_L_law.2.1 295 = .ok (.iload_n 3, 1) ∧ 295 + 1 = 296 := ⟨dcAll_e (i := 37) da_L_law_3 rfl, rfl⟩
theorem q_L_law_296 : decode M_L_law.2.1 296 = .ok (.iconst 1, 1) ∧ 296 + 1 = 297 := ⟨dcAll_e (i := 38) da_L_law_3 rfl, rfl⟩
theorem q_L_law_297 : decode M_L_law.2.1 297 = .ok (.iadd, 1) ∧ 297 + 1 = 298 := ⟨dcAll_e (i := 39) da_L_law_3 rfl, rfl⟩
theorem q_L_law_298 : decode M_L_law.2.1 298 = .ok (.iaload, 1) ∧ 298 + 1 = 299 := ⟨dcAll_e (i := 0) da_L_law_4 rfl, rfl⟩
theorem q_L_law_299 : decode M_L_law.2.1 299 = .ok (.invokevirtual 30, 3) ∧ 299 + 3 = 302 := ⟨dcAll_e (i := 1) da_L_law_4 rfl, rfl⟩
theorem cd_X6_artanh : Cond.code M_X6_artanh.1 M_X6_artanh.2.1 M_X6_artanh.2.2.1 M_X6_artanh.2.2.2.1 ∈ en_tbl := inT2 41 rfl rfl
theorem g_L_law_299 : en_C M_L_law M_X6_artanh 30 1 := ⟨⟨inT2 38 rfl rfl, in_X6, cd_X6_artanh⟩, ⟨by decide, by decide, by decide +kernel⟩, by decide, by decide⟩
theorem w_X6_artanh : Cond.instanceMethod M_X6_artanh.1 ∈ en_tbl ∧ Cond.selects M_X6_artanh.1.cls M_X6_artanh.1 M_X6_artanh.1 ∈ en_tbl := ⟨inT2 39 rfl rfl, inT2 40 rfl rfl⟩
theorem q_L_law_302 : decode M_L_law.2.1 302 = .ok (.pop, 1) ∧ 302 + 1 = 303 := ⟨dcAll_e (i := 2) da_L_law_4 rfl, rfl⟩
theorem q_L_law_303 : decode M_L_law.2.1 303 = .ok (.aload_n 2, 1) ∧ 303 + 1 = 304 := ⟨dcAll_e (i := 3) da_L_law_4 rfl, rfl⟩
theorem q_L_law_304 : decode M_L_law.2.1 304 = .ok (.aload_n 0, 1) ∧ 304 + 1 = 305 := ⟨dcAll_e (i := 4) da_L_law_4 rfl, rfl⟩
theorem q_L_law_305 : decode M_L_law.2.1 305 = .ok (.iload_n 3, 1) ∧ 305 + 1 = 306 := ⟨dcAll_e (i := 5) da_L_law_4 rfl, rfl⟩
theorem q_L_law_306 : decode M_L_law.2.1 306 = .ok (.iconst 1, 1) ∧ 306 + 1 = 307 := ⟨dcAll_e (i := 6) da_L_law_4 rfl, rfl⟩
theorem q_L_law_307 : decode M_L_law.2.1 307 = .ok (.iadd, 1) ∧ 307 + 1 = 308 := ⟨dcAll_e (i := 7) da_L_law_4 rfl, rfl⟩
theorem q_L_law_308 : decode M_L_law.2.1 308 = .ok (.iaload, 1) ∧ 308 + 1 = 309 := ⟨dcAll_e (i := 8) da_L_law_4 rfl, rfl⟩
theorem q_L_law_309 : decode M_L_law.2.1 309 = .ok (.invokevirtual 33, 3) ∧ 309 + 3 = 312 := ⟨dcAll_e (i := 9) da_L_law_4 rfl, rfl⟩
theorem cd_X7_artanh : Cond.code M_X7_artanh.1 M_X7_artanh.2.1 M_X7_artanh.2.2.1 M_X7_artanh.2.2.2.1 ∈ en_tbl := inT3 237 rfl rfl
theorem g_L_law_309 : en_C M_L_law M_X7_artanh 33 1 := ⟨⟨inT3 234 rfl rfl, in_X7, cd_X7_artanh⟩, ⟨by decide, by decide, by decide +kernel⟩, by decide, by decide⟩
theorem w_X7_artanh : Cond.instanceMethod M_X7_artanh.1 ∈ en_tbl ∧ Cond.selects M_X7_artanh.1.cls M_X7_artanh.1 M_X7_artanh.1 ∈ en_tbl := ⟨inT3 235 rfl rfl, inT3 236 rfl rfl⟩
theorem q_L_law_312 : decode M_L_law.2.1 312 = .ok (.pop, 1) ∧ 312 + 1 = 313 := ⟨dcAll_e (i := 10) da_L_law_4 rfl, rfl⟩
theorem q_L_law_313 : decode M_L_law.2.1 313 = .ok (.goto 388, 3) ∧ 313 + 3 = 316 ∧ ((313 : Nat) : Int) + 388 = ((701 : Nat) : Int) := ⟨dcAll_e (i := 11) da_L_law_4 rfl, rfl, rfl⟩
theorem q_L_law_316 : decode M_L_law.2.1 316 = .ok (.aload_n 1, 1) ∧ 316 + 1 = 317 := ⟨dcAll_e (i := 12) da_L_law_4 rfl, rfl⟩
theorem q_L_law_317 : decode M_L_law.2.1 317 = .ok (.aload_n 0, 1) ∧ 317 + 1 = 318 := ⟨dcAll_e (i := 13) da_L_law_4 rfl, rfl⟩
theorem q_L_law_318 : decode M_L_law.2.1 318 = .ok (.iload_n 3, 1) ∧ 318 + 1 = 319 := ⟨dcAll_e (i := 14) da_L_law_4 rfl, rfl⟩
theorem q_L_law_319 : decode M_L_law.2.1 319 = .ok (.iconst 1, 1) ∧ 319 + 1 = 320 := ⟨dcAll_e (i := 15) da_L_law_4 rfl, rfl⟩
theorem q_L_law_320 : decode M_L_law.2.1 320 = .ok (.iadd, 1) ∧ 320 + 1 = 321 := ⟨dcAll_e (i := 16) da_L_law_4 rfl, rfl⟩
theorem q_L_law_321 : decode M_L_law.2.1 321 = .ok (.iaload, 1) ∧ 321 + 1 = 322 := ⟨dcAll_e (i := 17) da_L_law_4 rfl, rfl⟩
theorem q_L_law_322 : decode M_L_law.2.1 322 = .ok (.aload_n 0, 1) ∧ 322 + 1 = 323 := ⟨dcAll_e (i := 18) da_L_law_4 rfl, rfl⟩
theorem q_L_law_323 : decode M_L_law.2.1 323 = .ok (.iload_n 3, 1) ∧ 323 + 1 = 324 := ⟨dcAll_e (i := 19) da_L_law_4 rfl, rfl⟩
theorem q_L_law_324 : decode M_L_law.2.1 324 = .ok (.iconst 2, 1) ∧ 324 + 1 = 325 := ⟨dcAll_e (i := 20) da_L_law_4 rfl, rfl⟩
theorem q_L_law_325 : decode M_L_law.2.1 325 = .ok (.iadd, 1) ∧ 325 + 1 = 326 := ⟨dcAll_e (i := 21) da_L_law_4 rfl, rfl⟩
theorem q_L_law_326 : decode M_L_law.2.1 326 = .ok (.iaload, 1) ∧ 326 + 1 = 327 := ⟨dcAll_e (i := 22) da_L_law_4 rfl, rfl⟩
theorem q_L_law_327 : decode M_L_law.2.1 327 = .ok (.invokevirtual 34, 3) ∧ 327 + 3 = 330 := ⟨dcAll_e (i := 23) da_L_law_4 rfl, rfl⟩
theorem cd_X6_power : Cond.code M_X6_power.1 M_X6_power.2.1 M_X6_power.2.2.1 M_X6_power.2.2.2.1 ∈ en_tbl := inT2 45 rfl rfl
theorem g_L_law_327 : en_C M_L_law M_X6_power 34 2 := ⟨⟨inT2 42 rfl rfl, in_X6, cd_X6_power⟩, ⟨by decide, by decide, by decide +kernel⟩, by decide, by decide⟩
theorem w_X6_power : Cond.instanceMethod M_X6_power.1 ∈ en_tbl ∧ Cond.selects M_X6_power.1.cls M_X6_power.1 M_X6_power.1 ∈ en_tbl := ⟨inT2 43 rfl rfl, inT2 44 rfl rfl⟩
theorem q_L_law_330 : decode M_L_law.2.1 330 = .ok (.pop, 1) ∧ 330 + 1 = 331 := ⟨dcAll_e (i := 24) da_L_law_4 rfl, rfl⟩
theorem q_L_law_331 : decode M_L_law.2.1 331 = .ok (.aload_n 2, 1) ∧ 331 + 1 = 332 := ⟨dcAll_e (i := 25) da_L_law_4 rfl, rfl⟩
theorem q_L_law_332 : decode M_L_law.2.1 332 = .ok (.aload_n 0, 1) ∧ 332 + 1 = 333 := ⟨dcAll_e (i := 26) da_L_law_4 rfl, rfl⟩
theorem q_L_law_333 : decode M_L_law.2.1 333 = .ok (.iload_n 3, 1) ∧ 333 + 1 = 334 := ⟨dcAll_e (i := 27) da_L_law_4 rfl, rfl⟩
theorem q_L_law_334 : decode M_L_law.2.1 334 = .ok (.iconst 1, 1) ∧ 334 + 1 = 335 := ⟨dcAll_e (i := 28) da_L_law_4 rfl, rfl⟩
theorem q_L_law_335 : decode M_L_law.2.1 335 = .ok (.iadd, 1) ∧ 335 + 1 = 336 := ⟨dcAll_e (i := 29) da_L_law_4 rfl, rfl⟩
theorem q_L_law_336 : decode M_L_law.2.1 336 = .ok (.iaload, 1) ∧ 336 + 1 = 337 := ⟨dcAll_e (i := 30) da_L_law_4 rfl, rfl⟩
theorem q_L_law_337 : decode M_L_law.2.1 337 = .ok (.aload_n 0, 1) ∧ 337 + 1 = 338 := ⟨dcAll_e (i := 31) da_L_law_4 rfl, rfl⟩
theorem q_L_law_338 : decode M_L_law.2.1 338 = .ok (.iload_n 3, 1) ∧ 338 + 1 = 339 := ⟨dcAll_e (i := 32) da_L_law_4 rfl, rfl⟩
theorem q_L_law_339 : decode M_L_law.2.1 339 = .ok (.iconst 2, 1) ∧ 339 + 1 = 340 := ⟨dcAll_e (i := 33) da_L_law_4 rfl, rfl⟩
theorem q_L_law_340 : decode M_L_law.2.1 340 = .ok (.iadd, 1) ∧ 340 + 1 = 341 := ⟨dcAll_e (i := 34) da_L_law_4 rfl, rfl⟩
theorem q_L_law_341 : decode M_L_law.2.1 341 = .ok (.iaload, 1) ∧ 341 + 1 = 342 := ⟨dcAll_e (i := 35) da_L_law_4 rfl, rfl⟩
theorem q_L_law_342 : decode M_L_law.2.1 342 = .ok (.invokevirtual 38, 3) ∧ 342 + 3 = 345 := ⟨dcAll_e (i := 36) da_L_law_4 rfl, rfl⟩
theorem cd_X7_power : Cond.code M_X7_power.1 M_X7_power.2.1 M_X7_power.2.2.1 M_X7_power.2.2.2.1 ∈ en_tbl := inT4 1 rfl rfl
theorem g_L_law_342 : en_C M_L_law M_X7_power 38 2 := ⟨⟨inT3 238 rfl rfl, in_X7, cd_X7_power⟩, ⟨by decide, by decide, by decide +kernel⟩, by decide, by decide⟩
theorem w_X7_power : Cond.instanceMethod M_X7_power.1 ∈ en_tbl ∧ Cond.selects M_X7_power.1.cls M_X7_power.1 M_X7_power.1 ∈ en_tbl := ⟨inT3 239 rfl rfl, inT4 0 rfl rfl⟩
theorem q_L_law_345 : decode M_L_law.2.1 345 = .ok (.pop, 1) ∧ 345 + 1 = 346 := ⟨dcAll_e (i := 37) da_L_law_4 rfl, rfl⟩
theorem q_L_law_346 : decode M_L_law.2.1 346 = .ok (.goto 355, 3) ∧ 346 + 3 = 349 ∧ ((346 : Nat) : Int) + 355 = ((701 : Nat) : Int) := ⟨dcAll_e (i := 38) da_L_law_4 rfl, rfl, rfl⟩
theorem q_L_law_349 : decode M_L_law.2.1 349 = .ok (.aload_n 1, 1) ∧ 349 + 1 = 350 := ⟨dcAll_e (i := 39) da_L_law_4 rfl, rfl⟩
theorem q_L_law_350 : decode M_L_law.2.1 350 = .ok (.aload_n 0, 1) ∧ 350 + 1 = 351 := ⟨dcAll_e (i := 0) da_L_law_5 rfl, rfl⟩
theorem q_L_law_351 : decode M_L_law.2.1 351 = .ok (.iload_n 3, 1) ∧ 351 + 1 = 352 := ⟨dcAll_e (i := 1) da_L_law_5 rfl, rfl⟩
theorem q_L_law_352 : decode M_L_law.2.1 352 = .ok (.iconst 1, 1) ∧ 352 + 1 = 353 := ⟨dcAll_e (i := 2) da_L_law_5 rfl, rfl⟩
theorem q_L_law_353 : decode M_L_law.2.1 353 = .ok (.iadd, 1) ∧ 353 + 1 = 354 := ⟨dcAll_e (i := 3) da_L_law_5 rfl, rfl⟩
theorem q_L_law_354 : decode M_L_law.2.1 354 = .ok (.iaload, 1) ∧ 354 + 1 = 355 := ⟨dcAll_e (i := 4) da_L_law_5 rfl, rfl⟩
theorem q_L_law_355 : decode M_L_law.2.1 355 = .ok (.invokevirtual 39, 3) ∧ 355 + 3 = 358 := ⟨dcAll_e (i := 5) da_L_law_5 rfl, rfl⟩
theorem cd_X6_root : Cond.code M_X6_root.1 M_X6_root.2.1 M_X6_root.2.2.1 M_X6_root.2.2.2.1 ∈ en_tbl := inT2 49 rfl rfl
theorem g_L_law_355 : en_C M_L_law M_X6_root 39 1 := ⟨⟨inT2 46 rfl rfl, in_X6, cd_X6_root⟩, ⟨by decide, by decide, by decide +kernel⟩, by decide, by decide⟩
theorem w_X6_root : Cond.instanceMethod M_X6_root.1 ∈ en_tbl ∧ Cond.selects M_X6_root.1.cls M_X6_root.1 M_X6_root.1 ∈ en_tbl := ⟨inT2 47 rfl rfl, inT2 48 rfl rfl⟩
theorem q_L_law_358 : decode M_L_law.2.1 358 = .ok (.pop, 1) ∧ 358 + 1 = 359 := ⟨dcAll_e (i := 6) da_L_law_5 rfl, rfl⟩
theorem q_L_law_359 : decode M_L_law.2.1 359 = .ok (.aload_n 2, 1) ∧ 359 + 1 = 360 := ⟨dcAll_e (i := 7) da_L_law_5 rfl, rfl⟩
theorem q_L_law_360 : decode M_L_law.2.1 360 = .ok (.aload_n 0, 1) ∧ 360 + 1 = 361 := ⟨dcAll_e (i := 8) da_L_law_5 rfl, rfl⟩
theorem q_L_law_361 : decode M_L_law.2.1 361 = .ok (.iload_n 3, 1) ∧ 361 + 1 = 362 := ⟨dcAll_e (i := 9) da_L_law_5 rfl, rfl⟩
theorem q_L_law_362 : decode M_L_law.2.1 362 = .ok (.iconst 1, 1) ∧ 362 + 1 = 363 := ⟨dcAll_e (i := 10) da_L_law_5 rfl, rfl⟩
theorem q_L_law_363 : decode M_L_law.2.1 363 = .ok (.iadd, 1) ∧ 363 + 1 = 364 := ⟨dcAll_e (i := 11) da_L_law_5 rfl, rfl⟩
theorem q_L_law_364 : decode M_L_law.2.1 364 = .ok (.iaload, 1) ∧ 364 + 1 = 365 := ⟨dcAll_e (i := 12) da_L_law_5 rfl, rfl⟩
theorem q_L_law_365 : decode M_L_law.2.1 365 = .ok (.invokevirtual 42, 3) ∧ 365 + 3 = 368 := ⟨dcAll_e (i := 13) da_L_law_5 rfl, rfl⟩
theorem cd_X7_root : Cond.code M_X7_root.1 M_X7_root.2.1 M_X7_root.2.2.1 M_X7_root.2.2.2.1 ∈ en_tbl := inT4 5 rfl rfl
theorem g_L_law_365 : en_C M_L_law M_X7_root 42 1 := ⟨⟨inT4 2 rfl rfl, in_X7, cd_X7_root⟩, ⟨by decide, by decide, by decide +kernel⟩, by decide, by decide⟩
theorem w_X7_root : Cond.instanceMethod M_X7_root.1 ∈ en_tbl ∧ Cond.selects M_X7_root.1.cls M_X7_root.1 M_X7_root.1 ∈ en_tbl := ⟨inT4 3 rfl rfl, inT4 4 rfl rfl⟩
theorem q_L_law_368 : decode M_L_law.2.1 368 = .ok (.pop, 1) ∧ 368 + 1 = 369 := ⟨dcAll_e (i := 14) da_L_law_5 rfl, rfl⟩
theorem q_L_law_369 : decode M_L_law.2.1 369 = .ok (.goto 332, 3) ∧ 369 + 3 = 372 ∧ ((369 : Nat) : Int) + 332 = ((701 : Nat) : Int) := ⟨dcAll_e (i := 15) da_L_law_5 rfl, rfl, rfl⟩
theorem q_L_law_372 : decode M_L_law.2.1 372 = .ok (.aload_n 1, 1) ∧ 372 + 1 = 373 := ⟨dcAll_e (i := 16) da_L_law_5 rfl, rfl⟩
theorem q_L_law_373 : decode M_L_law.2.1 373 = .ok (.aload_n 0, 1) ∧ 373 + 1 = 374 := ⟨dcAll_e (i := 17) da_L_law_5 rfl, rfl⟩
theorem q_L_law_374 : decode M_L_law.2.1 374 = .ok (.iload_n 3, 1) ∧ 374 + 1 = 375 := ⟨dcAll_e (i := 18) da_L_law_5 rfl, rfl⟩
theorem q_L_law_375 : decode M_L_law.2.1 375 = .ok (.iconst 1, 1) ∧ 375 + 1 = 376 := ⟨dcAll_e (i := 19) da_L_law_5 rfl, rfl⟩
theorem q_L_law_376 : decode M_L_law.2.1 376 = .ok (.iadd, 1) ∧ 376 + 1 = 377 := ⟨dcAll_e (i := 20) da_L_law_5 rfl, rfl⟩
theorem q_L_law_377 : decode M_L_law.2.1 377 = .ok (.iaload, 1) ∧ 377 + 1 = 378 := ⟨dcAll_e (i := 21) da_L_law_5 rfl, rfl⟩
theorem q_L_law_378 : decode M_L_law.2.1 378 = .ok (.aload_n 0, 1) ∧ 378 + 1 = 379 := ⟨dcAll_e (i := 22) da_L_law_5 rfl, rfl⟩
theorem q_L_law_379 : decode M_L_law.2.1 379 = .ok (.iload_n 3, 1) ∧ 379 + 1 = 380 := ⟨dcAll_e (i := 23) da_L_law_5 rfl, rfl⟩
theorem q_L_law_380 : decode M_L_law.2.1 380 = .ok (.iconst 2, 1) ∧ 380 + 1 = 381 := ⟨dcAll_e (i := 24) da_L_law_5 rfl, rfl⟩
theorem q_L_law_381 : decode M_L_law.2.1 381 = .ok (.iadd, 1) ∧ 381 + 1 = 382 := ⟨dcAll_e (i := 25) da_L_law_5 rfl, rfl⟩
theorem q_L_law_382 : decode M_L_law.2.1 382 = .ok (.iaload, 1) ∧ 382 + 1 = 383 := ⟨dcAll_e (i := 26) da_L_law_5 rfl, rfl⟩
theorem q_L_law_383 : decode M_L_law.2.1 383 = .ok (.aload_n 0, 1) ∧ 383 + 1 = 384 := ⟨dcAll_e (i := 27) da_L_law_5 rfl, rfl⟩
theorem q_L_law_384 : decode M_L_law.2.1 384 = .ok (.iload_n 3, 1) ∧ 384 + 1 = 385 := ⟨dcAll_e (i := 28) da_L_law_5 rfl, rfl⟩
theorem q_L_law_385 : decode M_L_law.2.1 385 = .ok (.iconst 3, 1) ∧ 385 + 1 = 386 := ⟨dcAll_e (i := 29) da_L_law_5 rfl, rfl⟩
theorem q_L_law_386 : decode M_L_law.2.1 386 = .ok (.iadd, 1) ∧ 386 + 1 = 387 := ⟨dcAll_e (i := 30) da_L_law_5 rfl, rfl⟩
theorem q_L_law_387 : decode M_L_law.2.1 387 = .ok (.iaload, 1) ∧ 387 + 1 = 388 := ⟨dcAll_e (i := 31) da_L_law_5 rfl, rfl⟩
theorem q_L_law_388 : decode M_L_law.2.1 388 = .ok (.invokevirtual 43, 3) ∧ 388 + 3 = 391 := ⟨dcAll_e (i := 32) da_L_law_5 rfl, rfl⟩
theorem cd_X6_join : Cond.code M_X6_join.1 M_X6_join.2.1 M_X6_join.2.2.1 M_X6_join.2.2.2.1 ∈ en_tbl := inT2 57 rfl rfl
theorem g_L_law_388 : en_C M_L_law M_X6_join 43 3 := ⟨⟨inT2 54 rfl rfl, in_X6, cd_X6_join⟩, ⟨by decide, by decide, by decide +kernel⟩, by decide, by decide⟩
theorem w_X6_join : Cond.instanceMethod M_X6_join.1 ∈ en_tbl ∧ Cond.selects M_X6_join.1.cls M_X6_join.1 M_X6_join.1 ∈ en_tbl := ⟨inT2 55 rfl rfl, inT2 56 rfl rfl⟩
theorem q_L_law_391 : decode M_L_law.2.1 391 = .ok (.pop, 1) ∧ 391 + 1 = 392 := ⟨dcAll_e (i := 33) da_L_law_5 rfl, rfl⟩
theorem q_L_law_392 : decode M_L_law.2.1 392 = .ok (.aload_n 2, 1) ∧ 392 + 1 = 393 := ⟨dcAll_e (i := 34) da_L_law_5 rfl, rfl⟩
theorem q_L_law_393 : decode M_L_law.2.1 393 = .ok (.aload_n 0, 1) ∧ 393 + 1 = 394 := ⟨dcAll_e (i := 35) da_L_law_5 rfl, rfl⟩
theorem q_L_law_394 : decode M_L_law.2.1 394 = .ok (.iload_n 3, 1) ∧ 394 + 1 = 395 := ⟨dcAll_e (i := 36) da_L_law_5 rfl, rfl⟩
theorem q_L_law_395 : decode M_L_law.2.1 395 = .ok (.iconst 1, 1) ∧ 395 + 1 = 396 := ⟨dcAll_e (i := 37) da_L_law_5 rfl, rfl⟩
theorem q_L_law_396 : decode M_L_law.2.1 396 = .ok (.iadd, 1) ∧ 396 + 1 = 397 := ⟨dcAll_e (i := 38) da_L_law_5 rfl, rfl⟩
theorem q_L_law_397 : decode M_L_law.2.1 397 = .ok (.iaload, 1) ∧ 397 + 1 = 398 := ⟨dcAll_e (i := 39) da_L_law_5 rfl, rfl⟩
theorem q_L_law_398 : decode M_L_law.2.1 398 = .ok (.aload_n 0, 1) ∧ 398 + 1 = 399 := ⟨dcAll_e (i := 0) da_L_law_6 rfl, rfl⟩
theorem q_L_law_399 : decode M_L_law.2.1 399 = .ok (.iload_n 3, 1) ∧ 399 + 1 = 400 := ⟨dcAll_e (i := 1) da_L_law_6 rfl, rfl⟩
theorem q_L_law_400 : decode M_L_law.2.1 400 = .ok (.iconst 2, 1) ∧ 400 + 1 = 401 := ⟨dcAll_e (i := 2) da_L_law_6 rfl, rfl⟩
theorem q_L_law_401 : decode M_L_law.2.1 401 = .ok (.iadd, 1) ∧ 401 + 1 = 402 := ⟨dcAll_e (i := 3) da_L_law_6 rfl, rfl⟩
theorem q_L_law_402 : decode M_L_law.2.1 402 = .ok (.iaload, 1) ∧ 402 + 1 = 403 := ⟨dcAll_e (i := 4) da_L_law_6 rfl, rfl⟩
theorem q_L_law_403 : decode M_L_law.2.1 403 = .ok (.aload_n 0, 1) ∧ 403 + 1 = 404 := ⟨dcAll_e (i := 5) da_L_law_6 rfl, rfl⟩
theorem q_L_law_404 : decode M_L_law.2.1 404 = .ok (.iload_n 3, 1) ∧ 404 + 1 = 405 := ⟨dcAll_e (i := 6) da_L_law_6 rfl, rfl⟩
theorem q_L_law_405 : decode M_L_law.2.1 405 = .ok (.iconst 3, 1) ∧ 405 + 1 = 406 := ⟨dcAll_e (i := 7) da_L_law_6 rfl, rfl⟩
theorem q_L_law_406 : decode M_L_law.2.1 406 = .ok (.iadd, 1) ∧ 406 + 1 = 407 := ⟨dcAll_e (i := 8) da_L_law_6 rfl, rfl⟩
theorem q_L_law_407 : decode M_L_law.2.1 407 = .ok (.iaload, 1) ∧ 407 + 1 = 408 := ⟨dcAll_e (i := 9) da_L_law_6 rfl, rfl⟩
theorem q_L_law_408 : decode M_L_law.2.1 408 = .ok (.invokevirtual 47, 3) ∧ 408 + 3 = 411 := ⟨dcAll_e (i := 10) da_L_law_6 rfl, rfl⟩
theorem cd_X7_join : Cond.code M_X7_join.1 M_X7_join.2.1 M_X7_join.2.2.1 M_X7_join.2.2.2.1 ∈ en_tbl := inT4 13 rfl rfl
theorem g_L_law_408 : en_C M_L_law M_X7_join 47 3 := ⟨⟨inT4 10 rfl rfl, in_X7, cd_X7_join⟩, ⟨by decide, by decide, by decide +kernel⟩, by decide, by decide⟩
theorem w_X7_join : Cond.instanceMethod M_X7_join.1 ∈ en_tbl ∧ Cond.selects M_X7_join.1.cls M_X7_join.1 M_X7_join.1 ∈ en_tbl := ⟨inT4 11 rfl rfl, inT4 12 rfl rfl⟩
theorem q_L_law_411 : decode M_L_law.2.1 411 = .ok (.pop, 1) ∧ 411 + 1 = 412 := ⟨dcAll_e (i := 11) da_L_law_6 rfl, rfl⟩
theorem q_L_law_412 : decode M_L_law.2.1 412 = .ok (.goto 289, 3) ∧ 412 + 3 = 415 ∧ ((412 : Nat) : Int) + 289 = ((701 : Nat) : Int) := ⟨dcAll_e (i := 12) da_L_law_6 rfl, rfl, rfl⟩
theorem q_L_law_415 : decode M_L_law.2.1 415 = .ok (.aload_n 1, 1) ∧ 415 + 1 = 416 := ⟨dcAll_e (i := 13) da_L_law_6 rfl, rfl⟩
theorem q_L_law_416 : decode M_L_law.2.1 416 = .ok (.aload_n 0, 1) ∧ 416 + 1 = 417 := ⟨dcAll_e (i := 14) da_L_law_6 rfl, rfl⟩
theorem q_L_law_417 : decode M_L_law.2.1 417 = .ok (.iload_n 3, 1) ∧ 417 + 1 = 418 := ⟨dcAll_e (i := 15) da_L_law_6 rfl, rfl⟩
theorem q_L_law_418 : decode M_L_law.2.1 418 = .ok (.iconst 1, 1) ∧ 418 + 1 = 419 := ⟨dcAll_e (i := 16) da_L_law_6 rfl, rfl⟩
theorem q_L_law_419 : decode M_L_law.2.1 419 = .ok (.iadd, 1) ∧ 419 + 1 = 420 := ⟨dcAll_e (i := 17) da_L_law_6 rfl, rfl⟩
theorem q_L_law_420 : decode M_L_law.2.1 420 = .ok (.iaload, 1) ∧ 420 + 1 = 421 := ⟨dcAll_e (i := 18) da_L_law_6 rfl, rfl⟩
theorem q_L_law_421 : decode M_L_law.2.1 421 = .ok (.invokevirtual 48, 3) ∧ 421 + 3 = 424 := ⟨dcAll_e (i := 19) da_L_law_6 rfl, rfl⟩
theorem cd_X6_drop : Cond.code M_X6_drop.1 M_X6_drop.2.1 M_X6_drop.2.2.1 M_X6_drop.2.2.2.1 ∈ en_tbl := inT2 61 rfl rfl
theorem g_L_law_421 : en_C M_L_law M_X6_drop 48 1 := ⟨⟨inT2 58 rfl rfl, in_X6, cd_X6_drop⟩, ⟨by decide, by decide, by decide +kernel⟩, by decide, by decide⟩
theorem w_X6_drop : Cond.instanceMethod M_X6_drop.1 ∈ en_tbl ∧ Cond.selects M_X6_drop.1.cls M_X6_drop.1 M_X6_drop.1 ∈ en_tbl := ⟨inT2 59 rfl rfl, inT2 60 rfl rfl⟩
theorem q_L_law_424 : decode M_L_law.2.1 424 = .ok (.pop, 1) ∧ 424 + 1 = 425 := ⟨dcAll_e (i := 20) da_L_law_6 rfl, rfl⟩
theorem q_L_law_425 : decode M_L_law.2.1 425 = .ok (.aload_n 2, 1) ∧ 425 + 1 = 426 := ⟨dcAll_e (i := 21) da_L_law_6 rfl, rfl⟩
theorem q_L_law_426 : decode M_L_law.2.1 426 = .ok (.aload_n 0, 1) ∧ 426 + 1 = 427 := ⟨dcAll_e (i := 22) da_L_law_6 rfl, rfl⟩
theorem q_L_law_427 : decode M_L_law.2.1 427 = .ok (.iload_n 3, 1) ∧ 427 + 1 = 428 := ⟨dcAll_e (i := 23) da_L_law_6 rfl, rfl⟩
theorem q_L_law_428 : decode M_L_law.2.1 428 = .ok (.iconst 1, 1) ∧ 428 + 1 = 429 := ⟨dcAll_e (i := 24) da_L_law_6 rfl, rfl⟩
theorem q_L_law_429 : decode M_L_law.2.1 429 = .ok (.iadd, 1) ∧ 429 + 1 = 430 := ⟨dcAll_e (i := 25) da_L_law_6 rfl, rfl⟩
theorem q_L_law_430 : decode M_L_law.2.1 430 = .ok (.iaload, 1) ∧ 430 + 1 = 431 := ⟨dcAll_e (i := 26) da_L_law_6 rfl, rfl⟩
theorem q_L_law_431 : decode M_L_law.2.1 431 = .ok (.invokevirtual 51, 3) ∧ 431 + 3 = 434 := ⟨dcAll_e (i := 27) da_L_law_6 rfl, rfl⟩
theorem cd_X7_drop : Cond.code M_X7_drop.1 M_X7_drop.2.1 M_X7_drop.2.2.1 M_X7_drop.2.2.2.1 ∈ en_tbl := inT4 17 rfl rfl
theorem g_L_law_431 : en_C M_L_law M_X7_drop 51 1 := ⟨⟨inT4 14 rfl rfl, in_X7, cd_X7_drop⟩, ⟨by decide, by decide, by decide +kernel⟩, by decide, by decide⟩
theorem w_X7_drop : Cond.instanceMethod M_X7_drop.1 ∈ en_tbl ∧ Cond.selects M_X7_drop.1.cls M_X7_drop.1 M_X7_drop.1 ∈ en_tbl := ⟨inT4 15 rfl rfl, inT4 16 rfl rfl⟩
theorem q_L_law_434 : decode M_L_law.2.1 434 = .ok (.pop, 1) ∧ 434 + 1 = 435 := ⟨dcAll_e (i := 28) da_L_law_6 rfl, rfl⟩
theorem q_L_law_435 : decode M_L_law.2.1 435 = .ok (.goto 266, 3) ∧ 435 + 3 = 438 ∧ ((435 : Nat) : Int) + 266 = ((701 : Nat) : Int) := ⟨dcAll_e (i := 29) da_L_law_6 rfl, rfl, rfl⟩
theorem q_L_law_438 : decode M_L_law.2.1 438 = .ok (.aload_n 1, 1) ∧ 438 + 1 = 439 := ⟨dcAll_e (i := 30) da_L_law_6 rfl, rfl⟩
theorem q_L_law_439 : decode M_L_law.2.1 439 = .ok (.invokevirtual 52, 3) ∧ 439 + 3 = 442 := ⟨dcAll_e (i := 31) da_L_law_6 rfl, rfl⟩
theorem cd_X6_values : Cond.code M_X6_values.1 M_X6_values.2.1 M_X6_values.2.2.1 M_X6_values.2.2.2.1 ∈ en_tbl := inT2 65 rfl rfl
theorem g_L_law_439 : en_C M_L_law M_X6_values 52 0 := ⟨⟨inT2 62 rfl rfl, in_X6, cd_X6_values⟩, ⟨by decide, by decide, by decide +kernel⟩, by decide, by decide⟩
theorem w_X6_values : Cond.instanceMethod M_X6_values.1 ∈ en_tbl ∧ Cond.selects M_X6_values.1.cls M_X6_values.1 M_X6_values.1 ∈ en_tbl := ⟨inT2 63 rfl rfl, inT2 64 rfl rfl⟩
theorem q_L_law_442 : decode M_L_law.2.1 442 = .ok (.pop, 1) ∧ 442 + 1 = 443 := ⟨dcAll_e (i := 32) da_L_law_6 rfl, rfl⟩
theorem q_L_law_443 : decode M_L_law.2.1 443 = .ok (.aload_n 2, 1) ∧ 443 + 1 = 444 := ⟨dcAll_e (i := 33) da_L_law_6 rfl, rfl⟩
theorem q_L_law_444 : decode M_L_law.2.1 444 = .ok (.invokevirtual 56, 3) ∧ 444 + 3 = 447 := ⟨dcAll_e (i := 34) da_L_law_6 rfl, rfl⟩
theorem cd_X7_values : Cond.code M_X7_values.1 M_X7_values.2.1 M_X7_values.2.2.1 M_X7_values.2.2.2.1 ∈ en_tbl := inT4 21 rfl rfl
theorem g_L_law_444 : en_C M_L_law M_X7_values 56 0 := ⟨⟨inT4 18 rfl rfl, in_X7, cd_X7_values⟩, ⟨by decide, by decide, by decide +kernel⟩, by decide, by decide⟩
theorem w_X7_values : Cond.instanceMethod M_X7_values.1 ∈ en_tbl ∧ Cond.selects M_X7_values.1.cls M_X7_values.1 M_X7_values.1 ∈ en_tbl := ⟨inT4 19 rfl rfl, inT4 20 rfl rfl⟩
theorem q_L_law_447 : decode M_L_law.2.1 447 = .ok (.pop, 1) ∧ 447 + 1 = 448 := ⟨dcAll_e (i := 35) da_L_law_6 rfl, rfl⟩
theorem q_L_law_448 : decode M_L_law.2.1 448 = .ok (.goto 253, 3) ∧ 448 + 3 = 451 ∧ ((448 : Nat) : Int) + 253 = ((701 : Nat) : Int) := ⟨dcAll_e (i := 36) da_L_law_6 rfl, rfl, rfl⟩
theorem q_L_law_451 : decode M_L_law.2.1 451 = .ok (.aload_n 1, 1) ∧ 451 + 1 = 452 := ⟨dcAll_e (i := 37) da_L_law_6 rfl, rfl⟩
theorem q_L_law_452 : decode M_L_law.2.1 452 = .ok (.aload_n 0, 1) ∧ 452 + 1 = 453 := ⟨dcAll_e (i := 38) da_L_law_6 rfl, rfl⟩
theorem q_L_law_453 : decode M_L_law.2.1 453 = .ok (.iload_n 3, 1) ∧ 453 + 1 = 454 := ⟨dcAll_e (i := 39) da_L_law_6 rfl, rfl⟩
theorem q_L_law_454 : decode M_L_law.2.1 454 = .ok (.iconst 1, 1) ∧ 454 + 1 = 455 := ⟨dcAll_e (i := 0) da_L_law_7 rfl, rfl⟩
theorem q_L_law_455 : decode M_L_law.2.1 455 = .ok (.iadd, 1) ∧ 455 + 1 = 456 := ⟨dcAll_e (i := 1) da_L_law_7 rfl, rfl⟩
theorem q_L_law_456 : decode M_L_law.2.1 456 = .ok (.iaload, 1) ∧ 456 + 1 = 457 := ⟨dcAll_e (i := 2) da_L_law_7 rfl, rfl⟩
theorem q_L_law_457 : decode M_L_law.2.1 457 = .ok (.aload_n 0, 1) ∧ 457 + 1 = 458 := ⟨dcAll_e (i := 3) da_L_law_7 rfl, rfl⟩
theorem q_L_law_458 : decode M_L_law.2.1 458 = .ok (.iload_n 3, 1) ∧ 458 + 1 = 459 := ⟨dcAll_e (i := 4) da_L_law_7 rfl, rfl⟩
theorem q_L_law_459 : decode M_L_law.2.1 459 = .ok (.iconst 2, 1) ∧ 459 + 1 = 460 := ⟨dcAll_e (i := 5) da_L_law_7 rfl, rfl⟩
theorem q_L_law_460 : decode M_L_law.2.1 460 = .ok (.iadd, 1) ∧ 460 + 1 = 461 := ⟨dcAll_e (i := 6) da_L_law_7 rfl, rfl⟩
theorem q_L_law_461 : decode M_L_law.2.1 461 = .ok (.iaload, 1) ∧ 461 + 1 = 462 := ⟨dcAll_e (i := 7) da_L_law_7 rfl, rfl⟩
theorem q_L_law_462 : decode M_L_law.2.1 462 = .ok (.invokevirtual 57, 3) ∧ 462 + 3 = 465 := ⟨dcAll_e (i := 8) da_L_law_7 rfl, rfl⟩
theorem cd_X6_digits : Cond.code M_X6_digits.1 M_X6_digits.2.1 M_X6_digits.2.2.1 M_X6_digits.2.2.2.1 ∈ en_tbl := inT2 69 rfl rfl
theorem g_L_law_462 : en_C M_L_law M_X6_digits 57 2 := ⟨⟨inT2 66 rfl rfl, in_X6, cd_X6_digits⟩, ⟨by decide, by decide, by decide +kernel⟩, by decide, by decide⟩
theorem w_X6_digits : Cond.instanceMethod M_X6_digits.1 ∈ en_tbl ∧ Cond.selects M_X6_digits.1.cls M_X6_digits.1 M_X6_digits.1 ∈ en_tbl := ⟨inT2 67 rfl rfl, inT2 68 rfl rfl⟩
theorem q_L_law_465 : decode M_L_law.2.1 465 = .ok (.pop, 1) ∧ 465 + 1 = 466 := ⟨dcAll_e (i := 9) da_L_law_7 rfl, rfl⟩
theorem q_L_law_466 : decode M_L_law.2.1 466 = .ok (.aload_n 2, 1) ∧ 466 + 1 = 467 := ⟨dcAll_e (i := 10) da_L_law_7 rfl, rfl⟩
theorem q_L_law_467 : decode M_L_law.2.1 467 = .ok (.aload_n 0, 1) ∧ 467 + 1 = 468 := ⟨dcAll_e (i := 11) da_L_law_7 rfl, rfl⟩
theorem q_L_law_468 : decode M_L_law.2.1 468 = .ok (.iload_n 3, 1) ∧ 468 + 1 = 469 := ⟨dcAll_e (i := 12) da_L_law_7 rfl, rfl⟩
theorem q_L_law_469 : decode M_L_law.2.1 469 = .ok (.iconst 1, 1) ∧ 469 + 1 = 470 := ⟨dcAll_e (i := 13) da_L_law_7 rfl, rfl⟩
theorem q_L_law_470 : decode M_L_law.2.1 470 = .ok (.iadd, 1) ∧ 470 + 1 = 471 := ⟨dcAll_e (i := 14) da_L_law_7 rfl, rfl⟩
theorem q_L_law_471 : decode M_L_law.2.1 471 = .ok (.iaload, 1) ∧ 471 + 1 = 472 := ⟨dcAll_e (i := 15) da_L_law_7 rfl, rfl⟩
theorem q_L_law_472 : decode M_L_law.2.1 472 = .ok (.aload_n 0, 1) ∧ 472 + 1 = 473 := ⟨dcAll_e (i := 16) da_L_law_7 rfl, rfl⟩
theorem q_L_law_473 : decode M_L_law.2.1 473 = .ok (.iload_n 3, 1) ∧ 473 + 1 = 474 := ⟨dcAll_e (i := 17) da_L_law_7 rfl, rfl⟩
theorem q_L_law_474 : decode M_L_law.2.1 474 = .ok (.iconst 2, 1) ∧ 474 + 1 = 475 := ⟨dcAll_e (i := 18) da_L_law_7 rfl, rfl⟩
theorem q_L_law_475 : decode M_L_law.2.1 475 = .ok (.iadd, 1) ∧ 475 + 1 = 476 := ⟨dcAll_e (i := 19) da_L_law_7 rfl, rfl⟩
theorem q_L_law_476 : decode M_L_law.2.1 476 = .ok (.iaload, 1) ∧ 476 + 1 = 477 := ⟨dcAll_e (i := 20) da_L_law_7 rfl, rfl⟩
theorem q_L_law_477 : decode M_L_law.2.1 477 = .ok (.invokevirtual 60, 3) ∧ 477 + 3 = 480 := ⟨dcAll_e (i := 21) da_L_law_7 rfl, rfl⟩
theorem cd_X7_digits : Cond.code M_X7_digits.1 M_X7_digits.2.1 M_X7_digits.2.2.1 M_X7_digits.2.2.2.1 ∈ en_tbl := inT4 146 rfl rfl
theorem g_L_law_477 : en_C M_L_law M_X7_digits 60 2 := ⟨⟨inT4 143 rfl rfl, in_X7, cd_X7_digits⟩, ⟨by decide, by decide, by decide +kernel⟩, by decide, by decide⟩
theorem w_X7_digits : Cond.instanceMethod M_X7_digits.1 ∈ en_tbl ∧ Cond.selects M_X7_digits.1.cls M_X7_digits.1 M_X7_digits.1 ∈ en_tbl := ⟨inT4 144 rfl rfl, inT4 145 rfl rfl⟩
theorem q_L_law_480 : decode M_L_law.2.1 480 = .ok (.pop, 1) ∧ 480 + 1 = 481 := ⟨dcAll_e (i := 22) da_L_law_7 rfl, rfl⟩
theorem q_L_law_481 : decode M_L_law.2.1 481 = .ok (.goto 220, 3) ∧ 481 + 3 = 484 ∧ ((481 : Nat) : Int) + 220 = ((701 : Nat) : Int) := ⟨dcAll_e (i := 23) da_L_law_7 rfl, rfl, rfl⟩
theorem q_L_law_484 : decode M_L_law.2.1 484 = .ok (.aload_n 1, 1) ∧ 484 + 1 = 485 := ⟨dcAll_e (i := 24) da_L_law_7 rfl, rfl⟩
theorem q_L_law_485 : decode M_L_law.2.1 485 = .ok (.aload_n 0, 1) ∧ 485 + 1 = 486 := ⟨dcAll_e (i := 25) da_L_law_7 rfl, rfl⟩
theorem q_L_law_486 : decode M_L_law.2.1 486 = .ok (.iload_n 3, 1) ∧ 486 + 1 = 487 := ⟨dcAll_e (i := 26) da_L_law_7 rfl, rfl⟩
theorem q_L_law_487 : decode M_L_law.2.1 487 = .ok (.iconst 1, 1) ∧ 487 + 1 = 488 := ⟨dcAll_e (i := 27) da_L_law_7 rfl, rfl⟩
theorem q_L_law_488 : decode M_L_law.2.1 488 = .ok (.iadd, 1) ∧ 488 + 1 = 489 := ⟨dcAll_e (i := 28) da_L_law_7 rfl, rfl⟩
theorem q_L_law_489 : decode M_L_law.2.1 489 = .ok (.iaload, 1) ∧ 489 + 1 = 490 := ⟨dcAll_e (i := 29) da_L_law_7 rfl, rfl⟩
theorem q_L_law_490 : decode M_L_law.2.1 490 = .ok (.invokevirtual 61, 3) ∧ 490 + 3 = 493 := ⟨dcAll_e (i := 30) da_L_law_7 rfl, rfl⟩
theorem cd_X6_digit : Cond.code M_X6_digit.1 M_X6_digit.2.1 M_X6_digit.2.2.1 M_X6_digit.2.2.2.1 ∈ en_tbl := inT3 88 rfl rfl
theorem g_L_law_490 : en_C M_L_law M_X6_digit 61 1 := ⟨⟨inT3 85 rfl rfl, in_X6, cd_X6_digit⟩, ⟨by decide, by decide, by decide +kernel⟩, by decide, by decide⟩
theorem w_X6_digit : Cond.instanceMethod M_X6_digit.1 ∈ en_tbl ∧ Cond.selects M_X6_digit.1.cls M_X6_digit.1 M_X6_digit.1 ∈ en_tbl := ⟨inT3 86 rfl rfl, inT3 87 rfl rfl⟩
theorem q_L_law_493 : decode M_L_law.2.1 493 = .ok (.pop, 1) ∧ 493 + 1 = 494 := ⟨dcAll_e (i := 31) da_L_law_7 rfl, rfl⟩
theorem q_L_law_494 : decode M_L_law.2.1 494 = .ok (.aload_n 2, 1) ∧ 494 + 1 = 495 := ⟨dcAll_e (i := 32) da_L_law_7 rfl, rfl⟩
theorem q_L_law_495 : decode M_L_law.2.1 495 = .ok (.aload_n 0, 1) ∧ 495 + 1 = 496 := ⟨dcAll_e (i := 33) da_L_law_7 rfl, rfl⟩
theorem q_L_law_496 : decode M_L_law.2.1 496 = .ok (.iload_n 3, 1) ∧ 496 + 1 = 497 := ⟨dcAll_e (i := 34) da_L_law_7 rfl, rfl⟩
theorem q_L_law_497 : decode M_L_law.2.1 497 = .ok (.iconst 1, 1) ∧ 497 + 1 = 498 := ⟨dcAll_e (i := 35) da_L_law_7 rfl, rfl⟩
theorem q_L_law_498 : decode M_L_law.2.1 498 = .ok (.iadd, 1) ∧ 498 + 1 = 499 := ⟨dcAll_e (i := 36) da_L_law_7 rfl, rfl⟩
theorem q_L_law_499 : decode M_L_law.2.1 499 = .ok (.iaload, 1) ∧ 499 + 1 = 500 := ⟨dcAll_e (i := 37) da_L_law_7 rfl, rfl⟩
theorem q_L_law_500 : decode M_L_law.2.1 500 = .ok (.invokevirtual 64, 3) ∧ 500 + 3 = 503 := ⟨dcAll_e (i := 38) da_L_law_7 rfl, rfl⟩
theorem cd_X7_digit : Cond.code M_X7_digit.1 M_X7_digit.2.1 M_X7_digit.2.2.1 M_X7_digit.2.2.2.1 ∈ en_tbl := inT4 150 rfl rfl
theorem g_L_law_500 : en_C M_L_law M_X7_digit 64 1 := ⟨⟨inT4 147 rfl rfl, in_X7, cd_X7_digit⟩, ⟨by decide, by decide, by decide +kernel⟩, by decide, by decide⟩
theorem w_X7_digit : Cond.instanceMethod M_X7_digit.1 ∈ en_tbl ∧ Cond.selects M_X7_digit.1.cls M_X7_digit.1 M_X7_digit.1 ∈ en_tbl := ⟨inT4 148 rfl rfl, inT4 149 rfl rfl⟩
theorem q_L_law_503 : decode M_L_law.2.1 503 = .ok (.pop, 1) ∧ 503 + 1 = 504 := ⟨dcAll_e (i := 39) da_L_law_7 rfl, rfl⟩
theorem q_L_law_504 : decode M_L_law.2.1 504 = .ok (.goto 197, 3) ∧ 504 + 3 = 507 ∧ ((504 : Nat) : Int) + 197 = ((701 : Nat) : Int) := ⟨dcAll_e (i := 0) da_L_law_8 rfl, rfl, rfl⟩
theorem q_L_law_507 : decode M_L_law.2.1 507 = .ok (.aload_n 1, 1) ∧ 507 + 1 = 508 := ⟨dcAll_e (i := 1) da_L_law_8 rfl, rfl⟩
theorem q_L_law_508 : decode M_L_law.2.1 508 = .ok (.invokevirtual 65, 3) ∧ 508 + 3 = 511 := ⟨dcAll_e (i := 2) da_L_law_8 rfl, rfl⟩
theorem cd_X6_length : Cond.code M_X6_length.1 M_X6_length.2.1 M_X6_length.2.2.1 M_X6_length.2.2.2.1 ∈ en_tbl := inT3 96 rfl rfl
theorem g_L_law_508 : en_C M_L_law M_X6_length 65 0 := ⟨⟨inT3 93 rfl rfl, in_X6, cd_X6_length⟩, ⟨by decide, by decide, by decide +kernel⟩, by decide, by decide⟩
theorem w_X6_length : Cond.instanceMethod M_X6_length.1 ∈ en_tbl ∧ Cond.selects M_X6_length.1.cls M_X6_length.1 M_X6_length.1 ∈ en_tbl := ⟨inT3 94 rfl rfl, inT3 95 rfl rfl⟩
theorem q_L_law_511 : decode M_L_law.2.1 511 = .ok (.pop, 1) ∧ 511 + 1 = 512 := ⟨dcAll_e (i := 3) da_L_law_8 rfl, rfl⟩
theorem q_L_law_512 : decode M_L_law.2.1 512 = .ok (.aload_n 2, 1) ∧ 512 + 1 = 513 := ⟨dcAll_e (i := 4) da_L_law_8 rfl, rfl⟩
theorem q_L_law_513 : decode M_L_law.2.1 513 = .ok (.invokevirtual 68, 3) ∧ 513 + 3 = 516 := ⟨dcAll_e (i := 5) da_L_law_8 rfl, rfl⟩
theorem cd_X7_length : Cond.code M_X7_length.1 M_X7_length.2.1 M_X7_length.2.2.1 M_X7_length.2.2.2.1 ∈ en_tbl := inT4 154 rfl rfl
theorem g_L_law_513 : en_C M_L_law M_X7_length 68 0 := ⟨⟨inT4 151 rfl rfl, in_X7, cd_X7_length⟩, ⟨by decide, by decide, by decide +kernel⟩, by decide, by decide⟩
theorem w_X7_length : Cond.instanceMethod M_X7_length.1 ∈ en_tbl ∧ Cond.selects M_X7_length.1.cls M_X7_length.1 M_X7_length.1 ∈ en_tbl := ⟨inT4 152 rfl rfl, inT4 153 rfl rfl⟩
theorem q_L_law_516 : decode M_L_law.2.1 516 = .ok (.pop, 1) ∧ 516 + 1 = 517 := ⟨dcAll_e (i := 6) da_L_law_8 rfl, rfl⟩
theorem q_L_law_517 : decode M_L_law.2.1 517 = .ok (.goto 184, 3) ∧ 517 + 3 = 520 ∧ ((517 : Nat) : Int) + 184 = ((701 : Nat) : Int) := ⟨dcAll_e (i := 7) da_L_law_8 rfl, rfl, rfl⟩
theorem q_L_law_520 : decode M_L_law.2.1 520 = .ok (.aload_n 1, 1) ∧ 520 + 1 = 521 := ⟨dcAll_e (i := 8) da_L_law_8 rfl, rfl⟩
theorem q_L_law_521 : decode M_L_law.2.1 521 = .ok (.aload_n 0, 1) ∧ 521 + 1 = 522 := ⟨dcAll_e (i := 9) da_L_law_8 rfl, rfl⟩
theorem q_L_law_522 : decode M_L_law.2.1 522 = .ok (.iload_n 3, 1) ∧ 522 + 1 = 523 := ⟨dcAll_e (i := 10) da_L_law_8 rfl, rfl⟩
theorem q_L_law_523 : decode M_L_law.2.1 523 = .ok (.iconst 1, 1) ∧ 523 + 1 = 524 := ⟨dcAll_e (i := 11) da_L_law_8 rfl, rfl⟩
theorem q_L_law_524 : decode M_L_law.2.1 524 = .ok (.iadd, 1) ∧ 524 + 1 = 525 := ⟨dcAll_e (i := 12) da_L_law_8 rfl, rfl⟩
theorem q_L_law_525 : decode M_L_law.2.1 525 = .ok (.iaload, 1) ∧ 525 + 1 = 526 := ⟨dcAll_e (i := 13) da_L_law_8 rfl, rfl⟩
theorem q_L_law_526 : decode M_L_law.2.1 526 = .ok (.aload_n 0, 1) ∧ 526 + 1 = 527 := ⟨dcAll_e (i := 14) da_L_law_8 rfl, rfl⟩
theorem q_L_law_527 : decode M_L_law.2.1 527 = .ok (.iload_n 3, 1) ∧ 527 + 1 = 528 := ⟨dcAll_e (i := 15) da_L_law_8 rfl, rfl⟩
theorem q_L_law_528 : decode M_L_law.2.1 528 = .ok (.iconst 2, 1) ∧ 528 + 1 = 529 := ⟨dcAll_e (i := 16) da_L_law_8 rfl, rfl⟩
theorem q_L_law_529 : decode M_L_law.2.1 529 = .ok (.iadd, 1) ∧ 529 + 1 = 530 := ⟨dcAll_e (i := 17) da_L_law_8 rfl, rfl⟩
theorem q_L_law_530 : decode M_L_law.2.1 530 = .ok (.iaload, 1) ∧ 530 + 1 = 531 := ⟨dcAll_e (i := 18) da_L_law_8 rfl, rfl⟩
theorem q_L_law_531 : decode M_L_law.2.1 531 = .ok (.invokevirtual 69, 3) ∧ 531 + 3 = 534 := ⟨dcAll_e (i := 19) da_L_law_8 rfl, rfl⟩
theorem cd_X6_enclose : Cond.code M_X6_enclose.1 M_X6_enclose.2.1 M_X6_enclose.2.2.1 M_X6_enclose.2.2.2.1 ∈ en_tbl := inT3 100 rfl rfl
theorem g_L_law_531 : en_C M_L_law M_X6_enclose 69 2 := ⟨⟨inT3 97 rfl rfl, in_X6, cd_X6_enclose⟩, ⟨by decide, by decide, by decide +kernel⟩, by decide, by decide⟩
theorem w_X6_enclose : Cond.instanceMethod M_X6_enclose.1 ∈ en_tbl ∧ Cond.selects M_X6_enclose.1.cls M_X6_enclose.1 M_X6_enclose.1 ∈ en_tbl := ⟨inT3 98 rfl rfl, inT3 99 rfl rfl⟩
theorem q_L_law_534 : decode M_L_law.2.1 534 = .ok (.pop, 1) ∧ 534 + 1 = 535 := ⟨dcAll_e (i := 20) da_L_law_8 rfl, rfl⟩
theorem q_L_law_535 : decode M_L_law.2.1 535 = .ok (.aload_n 2, 1) ∧ 535 + 1 = 536 := ⟨dcAll_e (i := 21) da_L_law_8 rfl, rfl⟩
theorem q_L_law_536 : decode M_L_law.2.1 536 = .ok (.aload_n 0, 1) ∧ 536 + 1 = 537 := ⟨dcAll_e (i := 22) da_L_law_8 rfl, rfl⟩
theorem q_L_law_537 : decode M_L_law.2.1 537 = .ok (.iload_n 3, 1) ∧ 537 + 1 = 538 := ⟨dcAll_e (i := 23) da_L_law_8 rfl, rfl⟩
theorem q_L_law_538 : decode M_L_law.2.1 538 = .ok (.iconst 1, 1) ∧ 538 + 1 = 539 := ⟨dcAll_e (i := 24) da_L_law_8 rfl, rfl⟩
theorem q_L_law_539 : decode M_L_law.2.1 539 = .ok (.iadd, 1) ∧ 539 + 1 = 540 := ⟨dcAll_e (i := 25) da_L_law_8 rfl, rfl⟩
theorem q_L_law_540 : decode M_L_law.2.1 540 = .ok (.iaload, 1) ∧ 540 + 1 = 541 := ⟨dcAll_e (i := 26) da_L_law_8 rfl, rfl⟩
theorem q_L_law_541 : decode M_L_law.2.1 541 = .ok (.aload_n 0, 1) ∧ 541 + 1 = 542 := ⟨dcAll_e (i := 27) da_L_law_8 rfl, rfl⟩
theorem q_L_law_542 : decode M_L_law.2.1 542 = .ok (.iload_n 3, 1) ∧ 542 + 1 = 543 := ⟨dcAll_e (i := 28) da_L_law_8 rfl, rfl⟩
theorem q_L_law_543 : decode M_L_law.2.1 543 = .ok (.iconst 2, 1) ∧ 543 + 1 = 544 := ⟨dcAll_e (i := 29) da_L_law_8 rfl, rfl⟩
theorem q_L_law_544 : decode M_L_law.2.1 544 = .ok (.iadd, 1) ∧ 544 + 1 = 545 := ⟨dcAll_e (i := 30) da_L_law_8 rfl, rfl⟩
theorem q_L_law_545 : decode M_L_law.2.1 545 = .ok (.iaload, 1) ∧ 545 + 1 = 546 := ⟨dcAll_e (i := 31) da_L_law_8 rfl, rfl⟩
theorem q_L_law_546 : decode M_L_law.2.1 546 = .ok (.invokevirtual 72, 3) ∧ 546 + 3 = 549 := ⟨dcAll_e (i := 32) da_L_law_8 rfl, rfl⟩
theorem cd_X7_enclose : Cond.code M_X7_enclose.1 M_X7_enclose.2.1 M_X7_enclose.2.2.1 M_X7_enclose.2.2.2.1 ∈ en_tbl := inT4 25 rfl rfl
theorem g_L_law_546 : en_C M_L_law M_X7_enclose 72 2 := ⟨⟨inT4 22 rfl rfl, in_X7, cd_X7_enclose⟩, ⟨by decide, by decide, by decide +kernel⟩, by decide, by decide⟩
theorem w_X7_enclose : Cond.instanceMethod M_X7_enclose.1 ∈ en_tbl ∧ Cond.selects M_X7_enclose.1.cls M_X7_enclose.1 M_X7_enclose.1 ∈ en_tbl := ⟨inT4 23 rfl rfl, inT4 24 rfl rfl⟩
theorem q_L_law_549 : decode M_L_law.2.1 549 = .ok (.pop, 1) ∧ 549 + 1 = 550 := ⟨dcAll_e (i := 33) da_L_law_8 rfl, rfl⟩
theorem q_L_law_550 : decode M_L_law.2.1 550 = .ok (.goto 151, 3) ∧ 550 + 3 = 553 ∧ ((550 : Nat) : Int) + 151 = ((701 : Nat) : Int) := ⟨dcAll_e (i := 34) da_L_law_8 rfl, rfl, rfl⟩
theorem q_L_law_553 : decode M_L_law.2.1 553 = .ok (.aload_n 1, 1) ∧ 553 + 1 = 554 := ⟨dcAll_e (i := 35) da_L_law_8 rfl, rfl⟩
theorem q_L_law_554 : decode M_L_law.2.1 554 = .ok (.aload_n 0, 1) ∧ 554 + 1 = 555 := ⟨dcAll_e (i := 36) da_L_law_8 rfl, rfl⟩
theorem q_L_law_555 : decode M_L_law.2.1 555 = .ok (.iload_n 3, 1) ∧ 555 + 1 = 556 := ⟨dcAll_e (i := 37) da_L_law_8 rfl, rfl⟩
theorem q_L_law_556 : decode M_L_law.2.1 556 = .ok (.iconst 1, 1) ∧ 556 + 1 = 557 := ⟨dcAll_e (i := 38) da_L_law_8 rfl, rfl⟩
theorem q_L_law_557 : decode M_L_law.2.1 557 = .ok (.iadd, 1) ∧ 557 + 1 = 558 := ⟨dcAll_e (i := 39) da_L_law_8 rfl, rfl⟩
theorem q_L_law_558 : decode M_L_law.2.1 558 = .ok (.iaload, 1) ∧ 558 + 1 = 559 := ⟨dcAll_e (i := 0) da_L_law_9 rfl, rfl⟩
theorem q_L_law_559 : decode M_L_law.2.1 559 = .ok (.aload_n 0, 1) ∧ 559 + 1 = 560 := ⟨dcAll_e (i := 1) da_L_law_9 rfl, rfl⟩
theorem q_L_law_560 : decode M_L_law.2.1 560 = .ok (.iload_n 3, 1) ∧ 560 + 1 = 561 := ⟨dcAll_e (i := 2) da_L_law_9 rfl, rfl⟩
theorem q_L_law_561 : decode M_L_law.2.1 561 = .ok (.iconst 2, 1) ∧ 561 + 1 = 562 := ⟨dcAll_e (i := 3) da_L_law_9 rfl, rfl⟩
theorem q_L_law_562 : decode M_L_law.2.1 562 = .ok (.iadd, 1) ∧ 562 + 1 = 563 := ⟨dcAll_e (i := 4) da_L_law_9 rfl, rfl⟩
theorem q_L_law_563 : decode M_L_law.2.1 563 = .ok (.iaload, 1) ∧ 563 + 1 = 564 := ⟨dcAll_e (i := 5) da_L_law_9 rfl, rfl⟩
theorem q_L_law_564 : decode M_L_law.2.1 564 = .ok (.invokevirtual 73, 3) ∧ 564 + 3 = 567 := ⟨dcAll_e (i := 6) da_L_law_9 rfl, rfl⟩
theorem cd_X6_bound : Cond.code M_X6_bound.1 M_X6_bound.2.1 M_X6_bound.2.2.1 M_X6_bound.2.2.2.1 ∈ en_tbl := inT3 104 rfl rfl
theorem g_L_law_564 : en_C M_L_law M_X6_bound 73 2 := ⟨⟨inT3 101 rfl rfl, in_X6, cd_X6_bound⟩, ⟨by decide, by decide, by decide +kernel⟩, by decide, by decide⟩
theorem w_X6_bound : Cond.instanceMethod M_X6_bound.1 ∈ en_tbl ∧ Cond.selects M_X6_bound.1.cls M_X6_bound.1 M_X6_bound.1 ∈ en_tbl := ⟨inT3 102 rfl rfl, inT3 103 rfl rfl⟩
theorem q_L_law_567 : decode M_L_law.2.1 567 = .ok (.pop, 1) ∧ 567 + 1 = 568 := ⟨dcAll_e (i := 7) da_L_law_9 rfl, rfl⟩
theorem q_L_law_568 : decode M_L_law.2.1 568 = .ok (.aload_n 2, 1) ∧ 568 + 1 = 569 := ⟨dcAll_e (i := 8) da_L_law_9 rfl, rfl⟩
theorem q_L_law_569 : decode M_L_law.2.1 569 = .ok (.aload_n 0, 1) ∧ 569 + 1 = 570 := ⟨dcAll_e (i := 9) da_L_law_9 rfl, rfl⟩
theorem q_L_law_570 : decode M_L_law.2.1 570 = .ok (.iload_n 3, 1) ∧ 570 + 1 = 571 := ⟨dcAll_e (i := 10) da_L_law_9 rfl, rfl⟩
theorem q_L_law_571 : decode M_L_law.2.1 571 = .ok (.iconst 1, 1) ∧ 571 + 1 = 572 := ⟨dcAll_e (i := 11) da_L_law_9 rfl, rfl⟩
theorem q_L_law_572 : decode M_L_law.2.1 572 = .ok (.iadd, 1) ∧ 572 + 1 = 573 := ⟨dcAll_e (i := 12) da_L_law_9 rfl, rfl⟩
theorem q_L_law_573 : decode M_L_law.2.1 573 = .ok (.iaload, 1) ∧ 573 + 1 = 574 := ⟨dcAll_e (i := 13) da_L_law_9 rfl, rfl⟩
theorem q_L_law_574 : decode M_L_law.2.1 574 = .ok (.aload_n 0, 1) ∧ 574 + 1 = 575 := ⟨dcAll_e (i := 14) da_L_law_9 rfl, rfl⟩
theorem q_L_law_575 : decode M_L_law.2.1 575 = .ok (.iload_n 3, 1) ∧ 575 + 1 = 576 := ⟨dcAll_e (i := 15) da_L_law_9 rfl, rfl⟩
theorem q_L_law_576 : decode M_L_law.2.1 576 = .ok (.iconst 2, 1) ∧ 576 + 1 = 577 := ⟨dcAll_e (i := 16) da_L_law_9 rfl, rfl⟩
theorem q_L_law_577 : decode M_L_law.2.1 577 = .ok (.iadd, 1) ∧ 577 + 1 = 578 := ⟨dcAll_e (i := 17) da_L_law_9 rfl, rfl⟩
theorem q_L_law_578 : decode M_L_law.2.1 578 = .ok (.iaload, 1) ∧ 578 + 1 = 579 := ⟨dcAll_e (i := 18) da_L_law_9 rfl, rfl⟩
theorem q_L_law_579 : decode M_L_law.2.1 579 = .ok (.invokevirtual 76, 3) ∧ 579 + 3 = 582 := ⟨dcAll_e (i := 19) da_L_law_9 rfl, rfl⟩
theorem cd_X7_bound : Cond.code M_X7_bound.1 M_X7_bound.2.1 M_X7_bound.2.2.1 M_X7_bound.2.2.2.1 ∈ en_tbl := inT4 138 rfl rfl
theorem g_L_law_579 : en_C M_L_law M_X7_bound 76 2 := ⟨⟨inT4 135 rfl rfl, in_X7, cd_X7_bound⟩, ⟨by decide, by decide, by decide +kernel⟩, by decide, by decide⟩
theorem w_X7_bound : Cond.instanceMethod M_X7_bound.1 ∈ en_tbl ∧ Cond.selects M_X7_bound.1.cls M_X7_bound.1 M_X7_bound.1 ∈ en_tbl := ⟨inT4 136 rfl rfl, inT4 137 rfl rfl⟩
theorem q_L_law_582 : decode M_L_law.2.1 582 = .ok (.pop, 1) ∧ 582 + 1 = 583 := ⟨dcAll_e (i := 20) da_L_law_9 rfl, rfl⟩
theorem q_L_law_583 : decode M_L_law.2.1 583 = .ok (.goto 118, 3) ∧ 583 + 3 = 586 ∧ ((583 : Nat) : Int) + 118 = ((701 : Nat) : Int) := ⟨dcAll_e (i := 21) da_L_law_9 rfl, rfl, rfl⟩
theorem q_L_law_586 : decode M_L_law.2.1 586 = .ok (.aload_n 1, 1) ∧ 586 + 1 = 587 := ⟨dcAll_e (i := 22) da_L_law_9 rfl, rfl⟩
theorem q_L_law_587 : decode M_L_law.2.1 587 = .ok (.aload_n 0, 1) ∧ 587 + 1 = 588 := ⟨dcAll_e (i := 23) da_L_law_9 rfl, rfl⟩
theorem q_L_law_588 : decode M_L_law.2.1 588 = .ok (.iload_n 3, 1) ∧ 588 + 1 = 589 := ⟨dcAll_e (i := 24) da_L_law_9 rfl, rfl⟩
theorem q_L_law_589 : decode M_L_law.2.1 589 = .ok (.iconst 1, 1) ∧ 589 + 1 = 590 := ⟨dcAll_e (i := 25) da_L_law_9 rfl, rfl⟩
theorem q_L_law_590 : decode M_L_law.2.1 590 = .ok (.iadd, 1) ∧ 590 + 1 = 591 := ⟨dcAll_e (i := 26) da_L_law_9 rfl, rfl⟩
theorem q_L_law_591 : decode M_L_law.2.1 591 = .ok (.iaload, 1) ∧ 591 + 1 = 592 := ⟨dcAll_e (i := 27) da_L_law_9 rfl, rfl⟩
theorem q_L_law_592 : decode M_L_law.2.1 592 = .ok (.aload_n 0, 1) ∧ 592 + 1 = 593 := ⟨dcAll_e (i := 28) da_L_law_9 rfl, rfl⟩
theorem q_L_law_593 : decode M_L_law.2.1 593 = .ok (.iload_n 3, 1) ∧ 593 + 1 = 594 := ⟨dcAll_e (i := 29) da_L_law_9 rfl, rfl⟩
theorem q_L_law_594 : decode M_L_law.2.1 594 = .ok (.iconst 2, 1) ∧ 594 + 1 = 595 := ⟨dcAll_e (i := 30) da_L_law_9 rfl, rfl⟩
theorem q_L_law_595 : decode M_L_law.2.1 595 = .ok (.iadd, 1) ∧ 595 + 1 = 596 := ⟨dcAll_e (i := 31) da_L_law_9 rfl, rfl⟩
theorem q_L_law_596 : decode M_L_law.2.1 596 = .ok (.iaload, 1) ∧ 596 + 1 = 597 := ⟨dcAll_e (i := 32) da_L_law_9 rfl, rfl⟩
theorem q_L_law_597 : decode M_L_law.2.1 597 = .ok (.invokevirtual 77, 3) ∧ 597 + 3 = 600 := ⟨dcAll_e (i := 33) da_L_law_9 rfl, rfl⟩
theorem cd_X6_order : Cond.code M_X6_order.1 M_X6_order.2.1 M_X6_order.2.2.1 M_X6_order.2.2.2.1 ∈ en_tbl := inT3 108 rfl rfl
theorem g_L_law_597 : en_C M_L_law M_X6_order 77 2 := ⟨⟨inT3 105 rfl rfl, in_X6, cd_X6_order⟩, ⟨by decide, by decide, by decide +kernel⟩, by decide, by decide⟩
theorem w_X6_order : Cond.instanceMethod M_X6_order.1 ∈ en_tbl ∧ Cond.selects M_X6_order.1.cls M_X6_order.1 M_X6_order.1 ∈ en_tbl := ⟨inT3 106 rfl rfl, inT3 107 rfl rfl⟩
theorem q_L_law_600 : decode M_L_law.2.1 600 = .ok (.pop, 1) ∧ 600 + 1 = 601 := ⟨dcAll_e (i := 34) da_L_law_9 rfl, rfl⟩
theorem q_L_law_601 : decode M_L_law.2.1 601 = .ok (.aload_n 2, 1) ∧ 601 + 1 = 602 := ⟨dcAll_e (i := 35) da_L_law_9 rfl, rfl⟩
theorem q_L_law_602 : decode M_L_law.2.1 602 = .ok (.aload_n 0, 1) ∧ 602 + 1 = 603 := ⟨dcAll_e (i := 36) da_L_law_9 rfl, rfl⟩
theorem q_L_law_603 : decode M_L_law.2.1 603 = .ok (.iload_n 3, 1) ∧ 603 + 1 = 604 := ⟨dcAll_e (i := 37) da_L_law_9 rfl, rfl⟩
theorem q_L_law_604 : decode M_L_law.2.1 604 = .ok (.iconst 1, 1) ∧ 604 + 1 = 605 := ⟨dcAll_e (i := 38) da_L_law_9 rfl, rfl⟩
theorem q_L_law_605 : decode M_L_law.2.1 605 = .ok (.iadd, 1) ∧ 605 + 1 = 606 := ⟨dcAll_e (i := 39) da_L_law_9 rfl, rfl⟩
theorem q_L_law_606 : decode M_L_law.2.1 606 = .ok (.iaload, 1) ∧ 606 + 1 = 607 := ⟨dcAll_e (i := 0) da_L_law_10 rfl, rfl⟩
theorem q_L_law_607 : decode M_L_law.2.1 607 = .ok (.aload_n 0, 1) ∧ 607 + 1 = 608 := ⟨dcAll_e (i := 1) da_L_law_10 rfl, rfl⟩
theorem q_L_law_608 : decode M_L_law.2.1 608 = .ok (.iload_n 3, 1) ∧ 608 + 1 = 609 := ⟨dcAll_e (i := 2) da_L_law_10 rfl, rfl⟩
theorem q_L_law_609 : decode M_L_law.2.1 609 = .ok (.iconst 2, 1) ∧ 609 + 1 = 610 := ⟨dcAll_e (i := 3) da_L_law_10 rfl, rfl⟩
theorem q_L_law_610 : decode M_L_law.2.1 610 = .ok (.iadd, 1) ∧ 610 + 1 = 611 := ⟨dcAll_e (i := 4) da_L_law_10 rfl, rfl⟩
theorem q_L_law_611 : decode M_L_law.2.1 611 = .ok (.iaload, 1) ∧ 611 + 1 = 612 := ⟨dcAll_e (i := 5) da_L_law_10 rfl, rfl⟩
theorem q_L_law_612 : decode M_L_law.2.1 612 = .ok (.invokevirtual 80, 3) ∧ 612 + 3 = 615 := ⟨dcAll_e (i := 6) da_L_law_10 rfl, rfl⟩
theorem cd_X7_order : Cond.code M_X7_order.1 M_X7_order.2.1 M_X7_order.2.2.1 M_X7_order.2.2.2.1 ∈ en_tbl := inT4 158 rfl rfl
theorem g_L_law_612 : en_C M_L_law M_X7_order 80 2 := ⟨⟨inT4 155 rfl rfl, in_X7, cd_X7_order⟩, ⟨by decide, by decide, by decide +kernel⟩, by decide, by decide⟩
theorem w_X7_order : Cond.instanceMethod M_X7_order.1 ∈ en_tbl ∧ Cond.selects M_X7_order.1.cls M_X7_order.1 M_X7_order.1 ∈ en_tbl := ⟨inT4 156 rfl rfl, inT4 157 rfl rfl⟩
theorem q_L_law_615 : decode M_L_law.2.1 615 = .ok (.pop, 1) ∧ 615 + 1 = 616 := ⟨dcAll_e (i := 7) da_L_law_10 rfl, rfl⟩
theorem q_L_law_616 : decode M_L_law.2.1 616 = .ok (.goto 85, 3) ∧ 616 + 3 = 619 ∧ ((616 : Nat) : Int) + 85 = ((701 : Nat) : Int) := ⟨dcAll_e (i := 8) da_L_law_10 rfl, rfl, rfl⟩
theorem q_L_law_619 : decode M_L_law.2.1 619 = .ok (.aload_n 1, 1) ∧ 619 + 1 = 620 := ⟨dcAll_e (i := 9) da_L_law_10 rfl, rfl⟩
theorem q_L_law_620 : decode M_L_law.2.1 620 = .ok (.aload_n 0, 1) ∧ 620 + 1 = 621 := ⟨dcAll_e (i := 10) da_L_law_10 rfl, rfl⟩
theorem q_L_law_621 : decode M_L_law.2.1 621 = .ok (.iload_n 3, 1) ∧ 621 + 1 = 622 := ⟨dcAll_e (i := 11) da_L_law_10 rfl, rfl⟩
theorem q_L_law_622 : decode M_L_law.2.1 622 = .ok (.iconst 1, 1) ∧ 622 + 1 = 623 := ⟨dcAll_e (i := 12) da_L_law_10 rfl, rfl⟩
theorem q_L_law_623 : decode M_L_law.2.1 623 = .ok (.iadd, 1) ∧ 623 + 1 = 624 := ⟨dcAll_e (i := 13) da_L_law_10 rfl, rfl⟩
theorem q_L_law_624 : decode M_L_law.2.1 624 = .ok (.iaload, 1) ∧ 624 + 1 = 625 := ⟨dcAll_e (i := 14) da_L_law_10 rfl, rfl⟩
theorem q_L_law_625 : decode M_L_law.2.1 625 = .ok (.aload_n 0, 1) ∧ 625 + 1 = 626 := ⟨dcAll_e (i := 15) da_L_law_10 rfl, rfl⟩
theorem q_L_law_626 : decode M_L_law.2.1 626 = .ok (.iload_n 3, 1) ∧ 626 + 1 = 627 := ⟨dcAll_e (i := 16) da_L_law_10 rfl, rfl⟩
theorem q_L_law_627 : decode M_L_law.2.1 627 = .ok (.iconst 2, 1) ∧ 627 + 1 = 628 := ⟨dcAll_e (i := 17) da_L_law_10 rfl, rfl⟩
theorem q_L_law_628 : decode M_L_law.2.1 628 = .ok (.iadd, 1) ∧ 628 + 1 = 629 := ⟨dcAll_e (i := 18) da_L_law_10 rfl, rfl⟩
theorem q_L_law_629 : decode M_L_law.2.1 629 = .ok (.iaload, 1) ∧ 629 + 1 = 630 := ⟨dcAll_e (i := 19) da_L_law_10 rfl, rfl⟩
theorem q_L_law_630 : decode M_L_law.2.1 630 = .ok (.invokevirtual 81, 3) ∧ 630 + 3 = 633 := ⟨dcAll_e (i := 20) da_L_law_10 rfl, rfl⟩
theorem cd_X6_quotients : Cond.code M_X6_quotients.1 M_X6_quotients.2.1 M_X6_quotients.2.2.1 M_X6_quotients.2.2.2.1 ∈ en_tbl := inT3 115 rfl rfl
theorem g_L_law_630 : en_C M_L_law M_X6_quotients 81 2 := ⟨⟨inT3 112 rfl rfl, in_X6, cd_X6_quotients⟩, ⟨by decide, by decide, by decide +kernel⟩, by decide, by decide⟩
theorem w_X6_quotients : Cond.instanceMethod M_X6_quotients.1 ∈ en_tbl ∧ Cond.selects M_X6_quotients.1.cls M_X6_quotients.1 M_X6_quotients.1 ∈ en_tbl := ⟨inT3 113 rfl rfl, inT3 114 rfl rfl⟩
theorem q_L_law_633 : decode M_L_law.2.1 633 = .ok (.pop, 1) ∧ 633 + 1 = 634 := ⟨dcAll_e (i := 21) da_L_law_10 rfl, rfl⟩
theorem q_L_law_634 : decode M_L_law.2.1 634 = .ok (.aload_n 2, 1) ∧ 634 + 1 = 635 := ⟨dcAll_e (i := 22) da_L_law_10 rfl, rfl⟩
theorem q_L_law_635 : decode M_L_law.2.1 635 = .ok (.aload_n 0, 1) ∧ 635 + 1 = 636 := ⟨dcAll_e (i := 23) da_L_law_10 rfl, rfl⟩
theorem q_L_law_636 : decode M_L_law.2.1 636 = .ok (.iload_n 3, 1) ∧ 636 + 1 = 637 := ⟨dcAll_e (i := 24) da_L_law_10 rfl, rfl⟩
theorem q_L_law_637 : decode M_L_law.2.1 637 = .ok (.iconst 1, 1) ∧ 637 + 1 = 638 := ⟨dcAll_e (i := 25) da_L_law_10 rfl, rfl⟩
theorem q_L_law_638 : decode M_L_law.2.1 638 = .ok (.iadd, 1) ∧ 638 + 1 = 639 := ⟨dcAll_e (i := 26) da_L_law_10 rfl, rfl⟩
theorem q_L_law_639 : decode M_L_law.2.1 639 = .ok (.iaload, 1) ∧ 639 + 1 = 640 := ⟨dcAll_e (i := 27) da_L_law_10 rfl, rfl⟩
theorem q_L_law_640 : decode M_L_law.2.1 640 = .ok (.aload_n 0, 1) ∧ 640 + 1 = 641 := ⟨dcAll_e (i := 28) da_L_law_10 rfl, rfl⟩
theorem q_L_law_641 : decode M_L_law.2.1 641 = .ok (.iload_n 3, 1) ∧ 641 + 1 = 642 := ⟨dcAll_e (i := 29) da_L_law_10 rfl, rfl⟩
theorem q_L_law_642 : decode M_L_law.2.1 642 = .ok (.iconst 2, 1) ∧ 642 + 1 = 643 := ⟨dcAll_e (i := 30) da_L_law_10 rfl, rfl⟩
theorem q_L_law_643 : decode M_L_law.2.1 643 = .ok (.iadd, 1) ∧ 643 + 1 = 644 := ⟨dcAll_e (i := 31) da_L_law_10 rfl, rfl⟩
theorem q_L_law_644 : decode M_L_law.2.1 644 = .ok (.iaload, 1) ∧ 644 + 1 = 645 := ⟨dcAll_e (i := 32) da_L_law_10 rfl, rfl⟩
theorem q_L_law_645 : decode M_L_law.2.1 645 = .ok (.invokevirtual 84, 3) ∧ 645 + 3 = 648 := ⟨dcAll_e (i := 33) da_L_law_10 rfl, rfl⟩
theorem cd_X7_quotients : Cond.code M_X7_quotients.1 M_X7_quotients.2.1 M_X7_quotients.2.2.1 M_X7_quotients.2.2.2.1 ∈ en_tbl := inT4 162 rfl rfl
theorem g_L_law_645 : en_C M_L_law M_X7_quotients 84 2 := ⟨⟨inT4 159 rfl rfl, in_X7, cd_X7_quotients⟩, ⟨by decide, by decide, by decide +kernel⟩, by decide, by decide⟩
theorem w_X7_quotients : Cond.instanceMethod M_X7_quotients.1 ∈ en_tbl ∧ Cond.selects M_X7_quotients.1.cls M_X7_quotients.1 M_X7_quotients.1 ∈ en_tbl := ⟨inT4 160 rfl rfl, inT4 161 rfl rfl⟩
theorem q_L_law_648 : decode M_L_law.2.1 648 = .ok (.pop, 1) ∧ 648 + 1 = 649 := ⟨dcAll_e (i := 34) da_L_law_10 rfl, rfl⟩
theorem q_L_law_649 : decode M_L_law.2.1 649 = .ok (.goto 52, 3) ∧ 649 + 3 = 652 ∧ ((649 : Nat) : Int) + 52 = ((701 : Nat) : Int) := ⟨dcAll_e (i := 35) da_L_law_10 rfl, rfl, rfl⟩
theorem q_L_law_652 : decode M_L_law.2.1 652 = .ok (.aload_n 1, 1) ∧ 652 + 1 = 653 := ⟨dcAll_e (i := 36) da_L_law_10 rfl, rfl⟩
theorem q_L_law_653 : decode M_L_law.2.1 653 = .ok (.aload_n 0, 1) ∧ 653 + 1 = 654 := ⟨dcAll_e (i := 37) da_L_law_10 rfl, rfl⟩
theorem q_L_law_654 : decode M_L_law.2.1 654 = .ok (.iload_n 3, 1) ∧ 654 + 1 = 655 := ⟨dcAll_e (i := 38) da_L_law_10 rfl, rfl⟩
theorem q_L_law_655 : decode M_L_law.2.1 655 = .ok (.iconst 1, 1) ∧ 655 + 1 = 656 := ⟨dcAll_e (i := 39) da_L_law_10 rfl, rfl⟩
theorem q_L_law_656 : decode M_L_law.2.1 656 = .ok (.iadd, 1) ∧ 656 + 1 = 657 := ⟨dcAll_e (i := 0) da_L_law_11 rfl, rfl⟩
theorem q_L_law_657 : decode M_L_law.2.1 657 = .ok (.iaload, 1) ∧ 657 + 1 = 658 := ⟨dcAll_e (i := 1) da_L_law_11 rfl, rfl⟩
theorem q_L_law_658 : decode M_L_law.2.1 658 = .ok (.invokevirtual 85, 3) ∧ 658 + 3 = 661 := ⟨dcAll_e (i := 2) da_L_law_11 rfl, rfl⟩
theorem cd_X6_quotient : Cond.code M_X6_quotient.1 M_X6_quotient.2.1 M_X6_quotient.2.2.1 M_X6_quotient.2.2.2.1 ∈ en_tbl := inT3 151 rfl rfl
theorem g_L_law_658 : en_C M_L_law M_X6_quotient 85 1 := ⟨⟨inT3 148 rfl rfl, in_X6, cd_X6_quotient⟩, ⟨by decide, by decide, by decide +kernel⟩, by decide, by decide⟩
theorem w_X6_quotient : Cond.instanceMethod M_X6_quotient.1 ∈ en_tbl ∧ Cond.selects M_X6_quotient.1.cls M_X6_quotient.1 M_X6_quotient.1 ∈ en_tbl := ⟨inT3 149 rfl rfl, inT3 150 rfl rfl⟩
theorem q_L_law_661 : decode M_L_law.2.1 661 = .ok (.pop2, 1) ∧ 661 + 1 = 662 := ⟨dcAll_e (i := 3) da_L_law_11 rfl, rfl⟩
theorem q_L_law_662 : decode M_L_law.2.1 662 = .ok (.aload_n 2, 1) ∧ 662 + 1 = 663 := ⟨dcAll_e (i := 4) da_L_law_11 rfl, rfl⟩
theorem q_L_law_663 : decode M_L_law.2.1 663 = .ok (.aload_n 0, 1) ∧ 663 + 1 = 664 := ⟨dcAll_e (i := 5) da_L_law_11 rfl, rfl⟩
theorem q_L_law_664 : decode M_L_law.2.1 664 = .ok (.iload_n 3, 1) ∧ 664 + 1 = 665 := ⟨dcAll_e (i := 6) da_L_law_11 rfl, rfl⟩
theorem q_L_law_665 : decode M_L_law.2.1 665 = .ok (.iconst 1, 1) ∧ 665 + 1 = 666 := ⟨dcAll_e (i := 7) da_L_law_11 rfl, rfl⟩
theorem q_L_law_666 : decode M_L_law.2.1 666 = .ok (.iadd, 1) ∧ 666 + 1 = 667 := ⟨dcAll_e (i := 8) da_L_law_11 rfl, rfl⟩
theorem q_L_law_667 : decode M_L_law.2.1 667 = .ok (.iaload, 1) ∧ 667 + 1 = 668 := ⟨dcAll_e (i := 9) da_L_law_11 rfl, rfl⟩
theorem q_L_law_668 : decode M_L_law.2.1 668 = .ok (.invokevirtual 89, 3) ∧ 668 + 3 = 671 := ⟨dcAll_e (i := 10) da_L_law_11 rfl, rfl⟩
theorem cd_X7_quotient : Cond.code M_X7_quotient.1 M_X7_quotient.2.1 M_X7_quotient.2.2.1 M_X7_quotient.2.2.2.1 ∈ en_tbl := inT4 177 rfl rfl
theorem g_L_law_668 : en_C M_L_law M_X7_quotient 89 1 := ⟨⟨inT4 174 rfl rfl, in_X7, cd_X7_quotient⟩, ⟨by decide, by decide, by decide +kernel⟩, by decide, by decide⟩
theorem w_X7_quotient : Cond.instanceMethod M_X7_quotient.1 ∈ en_tbl ∧ Cond.selects M_X7_quotient.1.cls M_X7_quotient.1 M_X7_quotient.1 ∈ en_tbl := ⟨inT4 175 rfl rfl, inT4 176 rfl rfl⟩
theorem q_L_law_671 : decode M_L_law.2.1 671 = .ok (.pop2, 1) ∧ 671 + 1 = 672 := ⟨dcAll_e (i := 11) da_L_law_11 rfl, rfl⟩
theorem q_L_law_672 : decode M_L_law.2.1 672 = .ok (.goto 29, 3) ∧ 672 + 3 = 675 ∧ ((672 : Nat) : Int) + 29 = ((701 : Nat) : Int) := ⟨dcAll_e (i := 12) da_L_law_11 rfl, rfl, rfl⟩
theorem q_L_law_675 : decode M_L_law.2.1 675 = .ok (.aload_n 1, 1) ∧ 675 + 1 = 676 := ⟨dcAll_e (i := 13) da_L_law_11 rfl, rfl⟩
theorem q_L_law_676 : decode M_L_law.2.1 676 = .ok (.invokevirtual 90, 3) ∧ 676 + 3 = 679 := ⟨dcAll_e (i := 14) da_L_law_11 rfl, rfl⟩
theorem cd_X6_many : Cond.code M_X6_many.1 M_X6_many.2.1 M_X6_many.2.2.1 M_X6_many.2.2.2.1 ∈ en_tbl := inT3 155 rfl rfl
theorem g_L_law_676 : en_C M_L_law M_X6_many 90 0 := ⟨⟨inT3 152 rfl rfl, in_X6, cd_X6_many⟩, ⟨by decide, by decide, by decide +kernel⟩, by decide, by decide⟩
theorem w_X6_many : Cond.instanceMethod M_X6_many.1 ∈ en_tbl ∧ Cond.selects M_X6_many.1.cls M_X6_many.1 M_X6_many.1 ∈ en_tbl := ⟨inT3 153 rfl rfl, inT3 154 rfl rfl⟩
theorem q_L_law_679 : decode M_L_law.2.1 679 = .ok (.pop, 1) ∧ 679 + 1 = 680 := ⟨dcAll_e (i := 15) da_L_law_11 rfl, rfl⟩
theorem q_L_law_680 : decode M_L_law.2.1 680 = .ok (.aload_n 2, 1) ∧ 680 + 1 = 681 := ⟨dcAll_e (i := 16) da_L_law_11 rfl, rfl⟩
theorem q_L_law_681 : decode M_L_law.2.1 681 = .ok (.invokevirtual 93, 3) ∧ 681 + 3 = 684 := ⟨dcAll_e (i := 17) da_L_law_11 rfl, rfl⟩
theorem cd_X7_many : Cond.code M_X7_many.1 M_X7_many.2.1 M_X7_many.2.2.1 M_X7_many.2.2.2.1 ∈ en_tbl := inT4 181 rfl rfl
theorem g_L_law_681 : en_C M_L_law M_X7_many 93 0 := ⟨⟨inT4 178 rfl rfl, in_X7, cd_X7_many⟩, ⟨by decide, by decide, by decide +kernel⟩, by decide, by decide⟩
theorem w_X7_many : Cond.instanceMethod M_X7_many.1 ∈ en_tbl ∧ Cond.selects M_X7_many.1.cls M_X7_many.1 M_X7_many.1 ∈ en_tbl := ⟨inT4 179 rfl rfl, inT4 180 rfl rfl⟩
theorem q_L_law_684 : decode M_L_law.2.1 684 = .ok (.pop, 1) ∧ 684 + 1 = 685 := ⟨dcAll_e (i := 18) da_L_law_11 rfl, rfl⟩
theorem q_L_law_685 : decode M_L_law.2.1 685 = .ok (.goto 16, 3) ∧ 685 + 3 = 688 ∧ ((685 : Nat) : Int) + 16 = ((701 : Nat) : Int) := ⟨dcAll_e (i := 19) da_L_law_11 rfl, rfl, rfl⟩
theorem q_L_law_688 : decode M_L_law.2.1 688 = .ok (.aload_n 1, 1) ∧ 688 + 1 = 689 := ⟨dcAll_e (i := 20) da_L_law_11 rfl, rfl⟩
theorem q_L_law_689 : decode M_L_law.2.1 689 = .ok (.invokevirtual 94, 3) ∧ 689 + 3 = 692 := ⟨dcAll_e (i := 21) da_L_law_11 rfl, rfl⟩
theorem cd_X6_precision : Cond.code M_X6_precision.1 M_X6_precision.2.1 M_X6_precision.2.2.1 M_X6_precision.2.2.2.1 ∈ en_tbl := inT3 159 rfl rfl
theorem g_L_law_689 : en_C M_L_law M_X6_precision 94 0 := ⟨⟨inT3 156 rfl rfl, in_X6, cd_X6_precision⟩, ⟨by decide, by decide, by decide +kernel⟩, by decide, by decide⟩
theorem w_X6_precision : Cond.instanceMethod M_X6_precision.1 ∈ en_tbl ∧ Cond.selects M_X6_precision.1.cls M_X6_precision.1 M_X6_precision.1 ∈ en_tbl := ⟨inT3 157 rfl rfl, inT3 158 rfl rfl⟩
theorem q_L_law_692 : decode M_L_law.2.1 692 = .ok (.pop, 1) ∧ 692 + 1 = 693 := ⟨dcAll_e (i := 22) da_L_law_11 rfl, rfl⟩
theorem q_L_law_693 : decode M_L_law.2.1 693 = .ok (.aload_n 2, 1) ∧ 693 + 1 = 694 := ⟨dcAll_e (i := 23) da_L_law_11 rfl, rfl⟩
theorem q_L_law_694 : decode M_L_law.2.1 694 = .ok (.invokevirtual 97, 3) ∧ 694 + 3 = 697 := ⟨dcAll_e (i := 24) da_L_law_11 rfl, rfl⟩
theorem cd_X7_precision : Cond.code M_X7_precision.1 M_X7_precision.2.1 M_X7_precision.2.2.1 M_X7_precision.2.2.2.1 ∈ en_tbl := inT4 185 rfl rfl
theorem g_L_law_694 : en_C M_L_law M_X7_precision 97 0 := ⟨⟨inT4 182 rfl rfl, in_X7, cd_X7_precision⟩, ⟨by decide, by decide, by decide +kernel⟩, by decide, by decide⟩
theorem w_X7_precision : Cond.instanceMethod M_X7_precision.1 ∈ en_tbl ∧ Cond.selects M_X7_precision.1.cls M_X7_precision.1 M_X7_precision.1 ∈ en_tbl := ⟨inT4 183 rfl rfl, inT4 184 rfl rfl⟩
theorem q_L_law_697 : decode M_L_law.2.1 697 = .ok (.pop, 1) ∧ 697 + 1 = 698 := ⟨dcAll_e (i := 25) da_L_law_11 rfl, rfl⟩
theorem q_L_law_698 : decode M_L_law.2.1 698 = .ok (.goto 3, 3) ∧ 698 + 3 = 701 ∧ ((698 : Nat) : Int) + 3 = ((701 : Nat) : Int) := ⟨dcAll_e (i := 26) da_L_law_11 rfl, rfl, rfl⟩
theorem q_L_law_701 : decode M_L_law.2.1 701 = .ok (.iinc 3 5, 3) ∧ 701 + 3 = 704 := ⟨dcAll_e (i := 27) da_L_law_11 rfl, rfl⟩
theorem q_L_law_704 : decode M_L_law.2.1 704 = .ok (.goto (-686), 3) ∧ 704 + 3 = 707 ∧ ((704 : Nat) : Int) + (-686) = ((18 : Nat) : Int) := ⟨dcAll_e (i := 28) da_L_law_11 rfl, rfl, rfl⟩
theorem q_L_law_707 : decode M_L_law.2.1 707 = .ok (.iconst 1, 1) ∧ 707 + 1 = 708 := ⟨dcAll_e (i := 29) da_L_law_11 rfl, rfl⟩
theorem q_L_law_708 : decode M_L_law.2.1 708 = .ok (.ireturn, 1) ∧ 708 + 1 = 709 := ⟨dcAll_e (i := 30) da_L_law_11 rfl, rfl⟩
