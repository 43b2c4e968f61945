/-! ===== 71a: the law: tables, rules (gen71.py) ===== -/
def ftL : List (Nat × Nat × Nat) := [(7, 9, 0), (13, 9, 1), (16, 9, 2), (19, 9, 3), (22, 9, 4), (25, 9, 5), (28, 9, 6), (31, 9, 7), (55, 9, 10), (90, 9, 8), (97, 9, 9), (122, 9, 11)]
theorem ftL_ok : ∀ q ∈ ftL, okF RL q = true := by decide +kernel
def z_L_acts : MZ := (yL_acts, cL_acts, 8, (some .boolean), [(0, .iload_n 2, 1), (1, .iconst 4, 1), (2, .iconst 4, 1), (3, .invokestatic 86, 3), (6, .aload_n 0, 1), (7, .getfield 90, 3), (10, .irem, 1), (11, .istore_n 3, 1), (12, .aload_n 0, 1), (13, .getfield 55, 3), (16, .ifCond .ne 7, 3), (19, .iconst (-1), 1), (20, .goto 16, 3), (23, .iload_n 2, 1), (24, .bipush 8, 2), (26, .bipush 6, 2), (28, .invokestatic 86, 3), (31, .aload_n 0, 1), (32, .getfield 55, 3), (35, .irem, 1), (36, .istore 4, 2), (38, .iload_n 2, 1), (39, .bipush 14, 2), (41, .iconst 4, 1), (42, .invokestatic 86, 3), (45, .iconst 5, 1), (46, .imul, 1), (47, .istore 5, 2), (49, .iload_n 2, 1), (50, .iconst 0, 1), (51, .iconst 4, 1), (52, .invokestatic 86, 3), (55, .tableswitch 620 0 13 #[69, 69, 69, 69, 69, 69, 205, 205, 307, 378, 378, 466, 466, 543], 69), (124, .aload_n 0, 1), (125, .getfield 55, 3), (128, .bipush 40, 2), (130, .if_icmp .ne 11, 3), (133, .aload_n 1, 1), (134, .iconst 4, 1), (135, .iconst 0, 1), (136, .iconst 0, 1), (137, .invokestatic 93, 3), (140, .ireturn, 1), (141, .iload_n 2, 1), (142, .bipush 8, 2), (144, .iconst 4, 1), (145, .invokestatic 86, 3), (148, .aload_n 0, 1), (149, .getfield 97, 3), (152, .irem, 1), (153, .istore 6, 2), (155, .aload_n 0, 1), (156, .getfield 7, 3), (159, .aload_n 0, 1), (160, .getfield 55, 3), (163, .iload 6, 2), (165, .iastore, 1), (166, .aload_n 0, 1), (167, .getfield 13, 3), (170, .aload_n 0, 1), (171, .getfield 55, 3), (174, .iload 5, 2), (176, .iastore, 1), (177, .aload_n 0, 1), (178, .getfield 16, 3), (181, .aload_n 0, 1), (182, .getfield 55, 3), (185, .iconst 1, 1), (186, .iload_n 2, 1), (187, .bipush 18, 2), (189, .iconst 5, 1), (190, .invokestatic 86, 3), (193, .iadd, 1), (194, .iastore, 1), (195, .aload_n 0, 1), (196, .getfield 19, 3), (199, .aload_n 0, 1), (200, .getfield 55, 3), (203, .iconst 0, 1), (204, .iastore, 1), (205, .aload_n 0, 1), (206, .getfield 22, 3), (209, .aload_n 0, 1), (210, .getfield 55, 3), (213, .iload_n 3, 1), (214, .iastore, 1), (215, .aload_n 0, 1), (216, .dup, 1), (217, .getfield 55, 3), (220, .iconst 1, 1), (221, .iadd, 1), (222, .putfield 55, 3), (225, .aload_n 1, 1), (226, .iload_n 3, 1), (227, .iload 6, 2), (229, .iload 5, 2), (231, .aload_n 0, 1), (232, .getfield 16, 3), (235, .aload_n 0, 1), (236, .getfield 55, 3), (239, .iconst 1, 1), (240, .isub, 1), (241, .iaload, 1), (242, .invokevirtual 80, 3), (245, .aload_n 0, 1), (246, .getfield 55, 3), (249, .iconst 1, 1), (250, .isub, 1), (251, .if_icmp .ne 7, 3), (254, .iconst 1, 1), (255, .goto 4, 3), (258, .iconst 0, 1), (259, .ireturn, 1), (260, .aload_n 0, 1), (261, .iload_n 3, 1), (262, .invokevirtual 100, 3), (265, .istore 6, 2), (267, .aload_n 1, 1), (268, .iload_n 3, 1), (269, .invokevirtual 103, 3), (272, .aload_n 0, 1), (273, .getfield 31, 3), (276, .iload_n 3, 1), (277, .baload, 1), (278, .ifCond .eq 7, 3), (281, .iconst 1, 1), (282, .goto 13, 3), (285, .iload 6, 2), (287, .ifCond .ge 7, 3), (290, .iconst 2, 1), (291, .goto 4, 3), (294, .iconst 0, 1), (295, .if_icmp .eq 5, 3), (298, .iconst 0, 1), (299, .ireturn, 1), (300, .aload_n 0, 1), (301, .getfield 31, 3), (304, .iload_n 3, 1), (305, .baload, 1), (306, .ifCond .ne 8, 3), (309, .iload 6, 2), (311, .ifCond .ge 11, 3), (314, .aload_n 1, 1), (315, .iconst 0, 1), (316, .iload_n 3, 1), (317, .iconst 0, 1), (318, .invokestatic 93, 3), (321, .ireturn, 1), (322, .aload_n 0, 1), (323, .getfield 19, 3), (326, .iload 6, 2), (328, .iconst 1, 1), (329, .iastore, 1), (330, .aload_n 0, 1), (331, .getfield 28, 3), (334, .iload_n 3, 1), (335, .dup2, 1), (336, .iaload, 1), (337, .aload_n 0, 1), (338, .getfield 16, 3), (341, .iload 6, 2), (343, .iaload, 1), (344, .iadd, 1), (345, .iastore, 1), (346, .aload_n 1, 1), (347, .iload_n 3, 1), (348, .invokevirtual 66, 3), (351, .iload 6, 2), (353, .if_icmp .ne 7, 3), (356, .iconst 1, 1), (357, .goto 4, 3), (360, .iconst 0, 1), (361, .ireturn, 1), (362, .iload 4, 2), (364, .ifCond .ge 16, 3), (367, .aload_n 1, 1), (368, .invokevirtual 106, 3), (371, .ifCond .ne 7, 3), (374, .iconst 1, 1), (375, .goto 4, 3), (378, .iconst 0, 1), (379, .ireturn, 1), (380, .aload_n 0, 1), (381, .getfield 19, 3), (384, .iload 4, 2), (386, .iaload, 1), (387, .ifCond .le 12, 3), (390, .aload_n 1, 1), (391, .iconst 1, 1), (392, .iload 4, 2), (394, .iconst 0, 1), (395, .invokestatic 93, 3), (398, .ireturn, 1), (399, .aload_n 0, 1), (400, .getfield 19, 3), (403, .iload 4, 2), (405, .iconst 2, 1), (406, .iastore, 1), (407, .aload_n 1, 1), (408, .iload 4, 2), (410, .invokevirtual 70, 3), (413, .aload_n 0, 1), (414, .aload_n 0, 1), (415, .getfield 22, 3), (418, .iload 4, 2), (420, .iaload, 1), (421, .invokevirtual 109, 3), (424, .if_icmp .ne 7, 3), (427, .iconst 1, 1), (428, .goto 4, 3), (431, .iconst 0, 1), (432, .ireturn, 1), (433, .iload 4, 2), (435, .ifCond .ge 16, 3), (438, .aload_n 1, 1), (439, .invokevirtual 106, 3), (442, .ifCond .ne 7, 3), (445, .iconst 1, 1), (446, .goto 4, 3), (449, .iconst 0, 1), (450, .ireturn, 1), (451, .aload_n 0, 1), (452, .getfield 19, 3), (455, .iload 4, 2), (457, .iaload, 1), (458, .ifCond .le 13, 3), (461, .aload_n 1, 1), (462, .iconst 2, 1), (463, .iload 4, 2), (465, .iload 5, 2), (467, .invokestatic 93, 3), (470, .ireturn, 1), (471, .aload_n 0, 1), (472, .getfield 13, 3), (475, .iload 4, 2), (477, .iaload, 1), (478, .istore 6, 2), (480, .aload_n 1, 1), (481, .iload 4, 2), (483, .iload 5, 2), (485, .invokevirtual 112, 3), (488, .ifCond .ge 5, 3), (491, .iconst 0, 1), (492, .ireturn, 1), (493, .aload_n 0, 1), (494, .getfield 13, 3), (497, .iload 4, 2), (499, .iload 5, 2), (501, .iastore, 1), (502, .aload_n 1, 1), (503, .iload 4, 2), (505, .iload 5, 2), (507, .invokevirtual 73, 3), (510, .iload 6, 2), (512, .if_icmp .ne 7, 3), (515, .iconst 1, 1), (516, .goto 4, 3), (519, .iconst 0, 1), (520, .ireturn, 1), (521, .iload 4, 2), (523, .ifCond .ge 16, 3), (526, .aload_n 1, 1), (527, .invokevirtual 106, 3), (530, .ifCond .ne 7, 3), (533, .iconst 1, 1), (534, .goto 4, 3), (537, .iconst 0, 1), (538, .ireturn, 1), (539, .aload_n 0, 1), (540, .getfield 19, 3), (543, .iload 4, 2), (545, .iaload, 1), (546, .ifCond .gt 14, 3), (549, .aload_n 0, 1), (550, .getfield 22, 3), (553, .iload 4, 2), (555, .iaload, 1), (556, .iload_n 3, 1), (557, .if_icmp .ne 12, 3), (560, .aload_n 1, 1), (561, .iconst 3, 1), (562, .iload 4, 2), (564, .iload_n 3, 1), (565, .invokestatic 93, 3), (568, .ireturn, 1), (569, .aload_n 0, 1), (570, .getfield 22, 3), (573, .iload 4, 2), (575, .iload_n 3, 1), (576, .iastore, 1), (577, .aload_n 1, 1), (578, .iload 4, 2), (580, .iload_n 3, 1), (581, .invokevirtual 77, 3), (584, .aload_n 0, 1), (585, .iload_n 3, 1), (586, .invokevirtual 100, 3), (589, .if_icmp .ne 7, 3), (592, .iconst 1, 1), (593, .goto 4, 3), (596, .iconst 0, 1), (597, .ireturn, 1), (598, .iload_n 3, 1), (599, .iconst 1, 1), (600, .iadd, 1), (601, .aload_n 0, 1), (602, .getfield 90, 3), (605, .irem, 1), (606, .istore 6, 2), (608, .iload 6, 2), (610, .iload_n 3, 1), (611, .if_icmp .ne 5, 3), (614, .iconst 1, 1), (615, .ireturn, 1), (616, .iconst 0, 1), (617, .istore 7, 2), (619, .iload 7, 2), (621, .aload_n 0, 1), (622, .getfield 55, 3), (625, .if_icmp .ge 28, 3), (628, .aload_n 0, 1), (629, .iload 7, 2), (631, .iload_n 3, 1), (632, .invokevirtual 59, 3), (635, .ifCond .eq 12, 3), (638, .aload_n 0, 1), (639, .getfield 22, 3), (642, .iload 7, 2), (644, .iload 6, 2), (646, .iastore, 1), (647, .iinc 7 1, 3), (650, .goto (-31), 3), (653, .aload_n 1, 1), (654, .iload_n 3, 1), (655, .iload 6, 2), (657, .invokevirtual 115, 3), (660, .aload_n 0, 1), (661, .iload 6, 2), (663, .invokevirtual 109, 3), (666, .if_icmp .ne 7, 3), (669, .iconst 1, 1), (670, .goto 4, 3), (673, .iconst 0, 1), (674, .ireturn, 1), (675, .aload_n 0, 1), (676, .getfield 31, 3), (679, .iload_n 3, 1), (680, .baload, 1), (681, .istore 6, 2), (683, .aload_n 0, 1), (684, .getfield 31, 3), (687, .iload_n 3, 1), (688, .iload_n 2, 1), (689, .bipush 8, 2), (691, .iconst 2, 1), (692, .invokestatic 86, 3), (695, .ifCond .ne 7, 3), (698, .iconst 1, 1), (699, .goto 4, 3), (702, .iconst 0, 1), (703, .bastore, 1), (704, .aload_n 1, 1), (705, .iload_n 3, 1), (706, .aload_n 0, 1), (707, .getfield 31, 3), (710, .iload_n 3, 1), (711, .baload, 1), (712, .invokevirtual 118, 3), (715, .iload 6, 2), (717, .if_icmp .ne 7, 3), (720, .iconst 1, 1), (721, .goto 4, 3), (724, .iconst 0, 1), (725, .ireturn, 1)], ftL)
set_option maxRecDepth 20000 in
theorem zo_L_acts : ZOK z_L_acts := ⟨by decide +kernel, ftL_ok⟩
set_option maxRecDepth 20000 in
theorem k_L_acts : LKV z_L_acts 2 := ⟨⟨ALL_at 628 rfl rfl, (inALL_at 30 (by decide +kernel) rfl), by decide +kernel⟩, (inALL_at 627 (by decide +kernel) rfl), (inALL_at 14 (by decide +kernel) rfl)⟩
def z_L_before : MZ := (yL_before, cL_before, 4, (some .int), [(0, .iconst 0, 1), (1, .istore_n 2, 1), (2, .iconst 0, 1), (3, .istore_n 3, 1), (4, .iload_n 3, 1), (5, .aload_n 0, 1), (6, .getfield 55, 3), (9, .if_icmp .ge 41, 3), (12, .aload_n 0, 1), (13, .iload_n 3, 1), (14, .aload_n 0, 1), (15, .getfield 22, 3), (18, .iload_n 1, 1), (19, .iaload, 1), (20, .invokevirtual 59, 3), (23, .ifCond .eq 21, 3), (26, .aload_n 0, 1), (27, .iload_n 3, 1), (28, .iload_n 1, 1), (29, .invokevirtual 63, 3), (32, .ifCond .eq 12, 3), (35, .iload_n 2, 1), (36, .aload_n 0, 1), (37, .getfield 16, 3), (40, .iload_n 3, 1), (41, .iaload, 1), (42, .iadd, 1), (43, .istore_n 2, 1), (44, .iinc 3 1, 3), (47, .goto (-43), 3), (50, .iload_n 2, 1), (51, .ireturn, 1)], ftL)
set_option maxRecDepth 20000 in
theorem zo_L_before : ZOK z_L_before := ⟨by decide +kernel, ftL_ok⟩
set_option maxRecDepth 20000 in
theorem k_L_before : LKV z_L_before 1 := ⟨⟨ALL_at 958 (by decide +kernel) rfl, (inALL_at 30 (by decide +kernel) rfl), by decide +kernel⟩, (inALL_at 957 (by decide +kernel) rfl), (inALL_at 27 (by decide +kernel) rfl)⟩
def z_L_bits : MZ := (yL_bits, cL_bits, 3, (some .int), [(0, .iload_n 0, 1), (1, .iload_n 1, 1), (2, .iushr, 1), (3, .iconst 1, 1), (4, .iload_n 2, 1), (5, .ishl, 1), (6, .iconst 1, 1), (7, .isub, 1), (8, .iand, 1), (9, .ireturn, 1)], ftL)
set_option maxRecDepth 20000 in
theorem zo_L_bits : ZOK z_L_bits := ⟨by decide +kernel, ftL_ok⟩
set_option maxRecDepth 20000 in
theorem k_L_bits : LKS z_L_bits 3 := ⟨⟨ALL_at 607 (by decide +kernel) rfl, (inALL_at 30 (by decide +kernel) rfl), by decide +kernel⟩, (inALL_at 606 (by decide +kernel) rfl)⟩
def z_L_cell : MZ := (yL_cell, cL_cell, 2, (some .int), [(0, .iload_n 1, 1), (1, .aload_n 0, 1), (2, .arraylength, 1), (3, .if_icmp .ge 9, 3), (6, .aload_n 0, 1), (7, .iload_n 1, 1), (8, .iaload, 1), (9, .goto 10, 3), (12, .bipush 113, 2), (14, .iload_n 1, 1), (15, .imul, 1), (16, .bipush 67, 2), (18, .iadd, 1), (19, .ireturn, 1)], ftL)
set_option maxRecDepth 20000 in
theorem zo_L_cell : ZOK z_L_cell := ⟨by decide +kernel, ftL_ok⟩
set_option maxRecDepth 20000 in
theorem k_L_cell : LKS z_L_cell 2 := ⟨⟨ALL_at 604 (by decide +kernel) rfl, (inALL_at 30 (by decide +kernel) rfl), by decide +kernel⟩, (inALL_at 603 (by decide +kernel) rfl)⟩
def z_L_first : MZ := (yL_first, cL_first, 4, (some .int), [(0, .iconst (-1), 1), (1, .istore_n 2, 1), (2, .iconst 0, 1), (3, .istore_n 3, 1), (4, .iload_n 3, 1), (5, .aload_n 0, 1), (6, .getfield 55, 3), (9, .if_icmp .ge 33, 3), (12, .aload_n 0, 1), (13, .iload_n 3, 1), (14, .iload_n 1, 1), (15, .invokevirtual 59, 3), (18, .ifCond .eq 18, 3), (21, .iload_n 2, 1), (22, .ifCond .lt 12, 3), (25, .aload_n 0, 1), (26, .iload_n 3, 1), (27, .iload_n 2, 1), (28, .invokevirtual 63, 3), (31, .ifCond .eq 5, 3), (34, .iload_n 3, 1), (35, .istore_n 2, 1), (36, .iinc 3 1, 3), (39, .goto (-35), 3), (42, .iload_n 2, 1), (43, .ireturn, 1)], ftL)
set_option maxRecDepth 20000 in
theorem zo_L_first : ZOK z_L_first := ⟨by decide +kernel, ftL_ok⟩
set_option maxRecDepth 20000 in
theorem k_L_first : LKV z_L_first 1 := ⟨⟨ALL_at 819 (by decide +kernel) rfl, (inALL_at 30 (by decide +kernel) rfl), by decide +kernel⟩, (inALL_at 818 (by decide +kernel) rfl), (inALL_at 20 (by decide +kernel) rfl)⟩
def z_L_init : MZ := (yL_init, cL_init, 1, none, [(0, .aload_n 0, 1), (1, .invokespecial 1, 3), (4, .aload_n 0, 1), (5, .bipush 40, 2), (7, .newarray .int, 2), (9, .putfield 7, 3), (12, .aload_n 0, 1), (13, .bipush 40, 2), (15, .newarray .int, 2), (17, .putfield 13, 3), (20, .aload_n 0, 1), (21, .bipush 40, 2), (23, .newarray .int, 2), (25, .putfield 16, 3), (28, .aload_n 0, 1), (29, .bipush 40, 2), (31, .newarray .int, 2), (33, .putfield 19, 3), (36, .aload_n 0, 1), (37, .bipush 40, 2), (39, .newarray .int, 2), (41, .putfield 22, 3), (44, .aload_n 0, 1), (45, .iconst 4, 1), (46, .newarray .int, 2), (48, .putfield 25, 3), (51, .aload_n 0, 1), (52, .iconst 4, 1), (53, .newarray .int, 2), (55, .putfield 28, 3), (58, .aload_n 0, 1), (59, .iconst 4, 1), (60, .newarray .boolean, 2), (62, .putfield 31, 3), (65, .return_, 1)], ftL)
set_option maxRecDepth 20000 in
theorem zo_L_init : ZOK z_L_init := ⟨by decide +kernel, ftL_ok⟩
set_option maxRecDepth 20000 in
theorem k_L_init : LKI z_L_init 0 := ⟨⟨ALL_at 563 (by decide +kernel) rfl, (inALL_at 30 (by decide +kernel) rfl), by decide +kernel⟩, rfl, rfl, (inALL_at 562 (by decide +kernel) rfl)⟩
def z_L_isBefore : MZ := (yL_isBefore, cL_isBefore, 3, (some .boolean), [(0, .aload_n 0, 1), (1, .getfield 13, 3), (4, .iload_n 1, 1), (5, .iaload, 1), (6, .aload_n 0, 1), (7, .getfield 13, 3), (10, .iload_n 2, 1), (11, .iaload, 1), (12, .if_icmp .lt 23, 3), (15, .aload_n 0, 1), (16, .getfield 13, 3), (19, .iload_n 1, 1), (20, .iaload, 1), (21, .aload_n 0, 1), (22, .getfield 13, 3), (25, .iload_n 2, 1), (26, .iaload, 1), (27, .if_icmp .ne 12, 3), (30, .iload_n 1, 1), (31, .iload_n 2, 1), (32, .if_icmp .ge 7, 3), (35, .iconst 1, 1), (36, .goto 4, 3), (39, .iconst 0, 1), (40, .ireturn, 1)], ftL)
set_option maxRecDepth 20000 in
theorem zo_L_isBefore : ZOK z_L_isBefore := ⟨by decide +kernel, ftL_ok⟩
set_option maxRecDepth 20000 in
theorem k_L_isBefore : LKV z_L_isBefore 2 := ⟨⟨ALL_at 827 (by decide +kernel) rfl, (inALL_at 30 (by decide +kernel) rfl), by decide +kernel⟩, (inALL_at 826 (by decide +kernel) rfl), (inALL_at 22 (by decide +kernel) rfl)⟩
def z_L_isHeap : MZ := (yL_isHeap, cL_isHeap, 10, (some .boolean), [(0, .iload_n 2, 1), (1, .ifCond .ge 5, 3), (4, .iconst 1, 1), (5, .ireturn, 1), (6, .aload_n 0, 1), (7, .dup, 1), (8, .getfield 122, 3), (11, .iconst 1, 1), (12, .iadd, 1), (13, .putfield 122, 3), (16, .aload_n 1, 1), (17, .iload_n 2, 1), (18, .invokevirtual 125, 3), (21, .istore 6, 2), (23, .aload_n 1, 1), (24, .iload_n 2, 1), (25, .invokevirtual 128, 3), (28, .istore 7, 2), (30, .iload 6, 2), (32, .ifCond .ge 7, 3), (35, .iconst 0, 1), (36, .goto 9, 3), (39, .aload_n 1, 1), (40, .iload 6, 2), (42, .invokevirtual 131, 3), (45, .istore 8, 2), (47, .iload 7, 2), (49, .ifCond .ge 7, 3), (52, .iconst 0, 1), (53, .goto 9, 3), (56, .aload_n 1, 1), (57, .iload 7, 2), (59, .invokevirtual 131, 3), (62, .istore 9, 2), (64, .aload_n 0, 1), (65, .iload_n 2, 1), (66, .iload_n 3, 1), (67, .invokevirtual 59, 3), (70, .ifCond .eq 57, 3), (73, .aload_n 1, 1), (74, .iload_n 2, 1), (75, .invokevirtual 134, 3), (78, .iload 4, 2), (80, .if_icmp .ne 47, 3), (83, .aload_n 1, 1), (84, .iload_n 2, 1), (85, .invokevirtual 137, 3), (88, .iload 5, 2), (90, .if_icmp .ne 37, 3), (93, .iload 4, 2), (95, .ifCond .lt 13, 3), (98, .aload_n 0, 1), (99, .iload_n 2, 1), (100, .iload 4, 2), (102, .invokevirtual 63, 3), (105, .ifCond .ne 22, 3), (108, .iload 8, 2), (110, .iload 9, 2), (112, .if_icmp .lt 15, 3), (115, .aload_n 1, 1), (116, .iload_n 2, 1), (117, .invokevirtual 131, 3), (120, .iload 9, 2), (122, .iconst 1, 1), (123, .iadd, 1), (124, .if_icmp .eq 5, 3), (127, .iconst 0, 1), (128, .ireturn, 1), (129, .aload_n 0, 1), (130, .aload_n 1, 1), (131, .iload 6, 2), (133, .iload_n 3, 1), (134, .iload_n 2, 1), (135, .iload 5, 2), (137, .iconst 1, 1), (138, .iadd, 1), (139, .invokevirtual 140, 3), (142, .ifCond .eq 23, 3), (145, .aload_n 0, 1), (146, .aload_n 1, 1), (147, .iload 7, 2), (149, .iload_n 3, 1), (150, .iload_n 2, 1), (151, .iload 5, 2), (153, .iconst 1, 1), (154, .iadd, 1), (155, .invokevirtual 140, 3), (158, .ifCond .eq 7, 3), (161, .iconst 1, 1), (162, .goto 4, 3), (165, .iconst 0, 1), (166, .ireturn, 1)], ftL)
set_option maxRecDepth 20000 in
theorem zo_L_isHeap : ZOK z_L_isHeap := ⟨by decide +kernel, ftL_ok⟩
set_option maxRecDepth 20000 in
theorem k_L_isHeap : LKV z_L_isHeap 5 := ⟨⟨ALL_at 881 (by decide +kernel) rfl, (inALL_at 30 (by decide +kernel) rfl), by decide +kernel⟩, (inALL_at 880 (by decide +kernel) rfl), (inALL_at 26 (by decide +kernel) rfl)⟩
def z_L_isIn : MZ := (yL_isIn, cL_isIn, 3, (some .boolean), [(0, .aload_n 0, 1), (1, .getfield 19, 3), (4, .iload_n 1, 1), (5, .iaload, 1), (6, .ifCond .ne 17, 3), (9, .aload_n 0, 1), (10, .getfield 22, 3), (13, .iload_n 1, 1), (14, .iaload, 1), (15, .iload_n 2, 1), (16, .if_icmp .ne 7, 3), (19, .iconst 1, 1), (20, .goto 4, 3), (23, .iconst 0, 1), (24, .ireturn, 1)], ftL)
set_option maxRecDepth 20000 in
theorem zo_L_isIn : ZOK z_L_isIn := ⟨by decide +kernel, ftL_ok⟩
set_option maxRecDepth 20000 in
theorem k_L_isIn : LKV z_L_isIn 2 := ⟨⟨ALL_at 823 (by decide +kernel) rfl, (inALL_at 30 (by decide +kernel) rfl), by decide +kernel⟩, (inALL_at 822 (by decide +kernel) rfl), (inALL_at 21 (by decide +kernel) rfl)⟩
def z_L_isLike : MZ := (yL_isLike, cL_isLike, 5, (some .boolean), [(0, .aload_n 1, 1), (1, .invokevirtual 106, 3), (4, .aload_n 0, 1), (5, .getfield 55, 3), (8, .if_icmp .eq 5, 3), (11, .iconst 0, 1), (12, .ireturn, 1), (13, .iconst 0, 1), (14, .istore_n 2, 1), (15, .iload_n 2, 1), (16, .aload_n 0, 1), (17, .getfield 90, 3), (20, .if_icmp .ge 148, 3), (23, .aload_n 0, 1), (24, .iconst 0, 1), (25, .putfield 122, 3), (28, .aload_n 1, 1), (29, .iload_n 2, 1), (30, .invokevirtual 144, 3), (33, .aload_n 0, 1), (34, .iload_n 2, 1), (35, .invokevirtual 100, 3), (38, .if_icmp .ne 71, 3), (41, .aload_n 0, 1), (42, .aload_n 1, 1), (43, .aload_n 1, 1), (44, .iload_n 2, 1), (45, .invokevirtual 144, 3), (48, .iload_n 2, 1), (49, .iconst (-1), 1), (50, .iconst 0, 1), (51, .invokevirtual 140, 3), (54, .ifCond .eq 55, 3), (57, .aload_n 0, 1), (58, .getfield 122, 3), (61, .aload_n 0, 1), (62, .iload_n 2, 1), (63, .invokevirtual 109, 3), (66, .if_icmp .ne 43, 3), (69, .aload_n 1, 1), (70, .iload_n 2, 1), (71, .invokevirtual 147, 3), (74, .aload_n 0, 1), (75, .getfield 122, 3), (78, .if_icmp .ne 31, 3), (81, .aload_n 1, 1), (82, .iload_n 2, 1), (83, .invokevirtual 148, 3), (86, .aload_n 0, 1), (87, .getfield 28, 3), (90, .iload_n 2, 1), (91, .iaload, 1), (92, .if_icmp .ne 17, 3), (95, .aload_n 1, 1), (96, .iload_n 2, 1), (97, .invokevirtual 151, 3), (100, .aload_n 0, 1), (101, .getfield 31, 3), (104, .iload_n 2, 1), (105, .baload, 1), (106, .if_icmp .eq 5, 3), (109, .iconst 0, 1), (110, .ireturn, 1), (111, .iconst 0, 1), (112, .istore_n 3, 1), (113, .iconst 0, 1), (114, .istore 4, 2), (116, .iload 4, 2), (118, .aload_n 0, 1), (119, .getfield 55, 3), (122, .if_icmp .ge 29, 3), (125, .aload_n 0, 1), (126, .iload 4, 2), (128, .iload_n 2, 1), (129, .invokevirtual 59, 3), (132, .ifCond .eq 13, 3), (135, .iload_n 3, 1), (136, .aload_n 0, 1), (137, .getfield 16, 3), (140, .iload 4, 2), (142, .iaload, 1), (143, .iadd, 1), (144, .istore_n 3, 1), (145, .iinc 4 1, 3), (148, .goto (-32), 3), (151, .aload_n 1, 1), (152, .iload_n 2, 1), (153, .invokevirtual 154, 3), (156, .iload_n 3, 1), (157, .if_icmp .eq 5, 3), (160, .iconst 0, 1), (161, .ireturn, 1), (162, .iinc 2 1, 3), (165, .goto (-150), 3), (168, .iconst 0, 1), (169, .istore_n 2, 1), (170, .iload_n 2, 1), (171, .aload_n 0, 1), (172, .getfield 55, 3), (175, .if_icmp .ge 279, 3), (178, .aload_n 1, 1), (179, .iload_n 2, 1), (180, .invokevirtual 157, 3), (183, .aload_n 0, 1), (184, .getfield 19, 3), (187, .iload_n 2, 1), (188, .iaload, 1), (189, .ifCond .ne 7, 3), (192, .iconst 1, 1), (193, .goto 4, 3), (196, .iconst 0, 1), (197, .if_icmp .ne 91, 3), (200, .aload_n 1, 1), (201, .iload_n 2, 1), (202, .invokevirtual 160, 3), (205, .aload_n 0, 1), (206, .getfield 19, 3), (209, .iload_n 2, 1), (210, .iaload, 1), (211, .iconst 1, 1), (212, .if_icmp .ne 7, 3), (215, .iconst 1, 1), (216, .goto 4, 3), (219, .iconst 0, 1), (220, .if_icmp .ne 68, 3), (223, .aload_n 1, 1), (224, .iload_n 2, 1), (225, .invokevirtual 163, 3), (228, .aload_n 0, 1), (229, .getfield 19, 3), (232, .iload_n 2, 1), (233, .iaload, 1), (234, .iconst 2, 1), (235, .if_icmp .ne 7, 3), (238, .iconst 1, 1), (239, .goto 4, 3), (242, .iconst 0, 1), (243, .if_icmp .ne 45, 3), (246, .aload_n 1, 1), (247, .iload_n 2, 1), (248, .invokevirtual 166, 3), (251, .aload_n 0, 1), (252, .getfield 13, 3), (255, .iload_n 2, 1), (256, .iaload, 1), (257, .if_icmp .ne 31, 3), (260, .aload_n 1, 1), (261, .iload_n 2, 1), (262, .invokevirtual 168, 3), (265, .aload_n 0, 1), (266, .getfield 16, 3), (269, .iload_n 2, 1), (270, .iaload, 1), (271, .if_icmp .ne 17, 3), (274, .aload_n 1, 1), (275, .iload_n 2, 1), (276, .invokevirtual 170, 3), (279, .aload_n 0, 1), (280, .getfield 7, 3), (283, .iload_n 2, 1), (284, .iaload, 1), (285, .if_icmp .eq 5, 3), (288, .iconst 0, 1), (289, .ireturn, 1), (290, .aload_n 0, 1), (291, .getfield 19, 3), (294, .iload_n 2, 1), (295, .iaload, 1), (296, .ifCond .le 40, 3), (299, .aload_n 1, 1), (300, .iload_n 2, 1), (301, .invokevirtual 173, 3), (304, .iconst (-1), 1), (305, .if_icmp .ne 29, 3), (308, .aload_n 1, 1), (309, .iload_n 2, 1), (310, .invokevirtual 131, 3), (313, .ifCond .ne 21, 3), (316, .aload_n 1, 1), (317, .iload_n 2, 1), (318, .invokevirtual 134, 3), (321, .iconst (-1), 1), (322, .if_icmp .ne 12, 3), (325, .aload_n 1, 1), (326, .iload_n 2, 1), (327, .invokevirtual 125, 3), (330, .iconst (-1), 1), (331, .if_icmp .eq 117, 3), (334, .iconst 0, 1), (335, .ireturn, 1), (336, .aload_n 0, 1), (337, .iload_n 2, 1), (338, .invokevirtual 176, 3), (341, .aload_n 0, 1), (342, .getfield 16, 3), (345, .iload_n 2, 1), (346, .iaload, 1), (347, .iadd, 1), (348, .istore_n 3, 1), (349, .aload_n 0, 1), (350, .getfield 25, 3), (353, .aload_n 0, 1), (354, .getfield 22, 3), (357, .iload_n 2, 1), (358, .iaload, 1), (359, .iaload, 1), (360, .istore 4, 2), (362, .aload_n 1, 1), (363, .iload_n 2, 1), (364, .invokevirtual 173, 3), (367, .aload_n 0, 1), (368, .getfield 22, 3), (371, .iload_n 2, 1), (372, .iaload, 1), (373, .if_icmp .ne 73, 3), (376, .aload_n 1, 1), (377, .iload_n 2, 1), (378, .invokevirtual 179, 3), (381, .aload_n 0, 1), (382, .iload_n 2, 1), (383, .invokevirtual 182, 3), (386, .if_icmp .ne 60, 3), (389, .aload_n 1, 1), (390, .aload_n 0, 1), (391, .getfield 22, 3), (394, .iload_n 2, 1), (395, .iaload, 1), (396, .aload_n 0, 1), (397, .iload_n 2, 1), (398, .invokevirtual 182, 3), (401, .invokevirtual 185, 3), (404, .iload_n 2, 1), (405, .if_icmp .ne 41, 3), (408, .aload_n 1, 1), (409, .iload_n 2, 1), (410, .invokevirtual 188, 3), (413, .aload_n 0, 1), (414, .iload_n 2, 1), (415, .invokevirtual 176, 3), (418, .if_icmp .ne 28, 3), (421, .aload_n 1, 1), (422, .iload_n 2, 1), (423, .invokevirtual 191, 3), (426, .iload_n 3, 1), (427, .iload 4, 2), (429, .idiv, 1), (430, .iload_n 3, 1), (431, .iload 4, 2), (433, .irem, 1), (434, .ifCond .le 7, 3), (437, .iconst 1, 1), (438, .goto 4, 3), (441, .iconst 0, 1), (442, .iadd, 1), (443, .if_icmp .eq 5, 3), (446, .iconst 0, 1), (447, .ireturn, 1), (448, .iinc 2 1, 3), (451, .goto (-281), 3), (454, .aload_n 1, 1), (455, .invokevirtual 194, 3), (458, .ireturn, 1)], ftL)
set_option maxRecDepth 20000 in
theorem zo_L_isLike : ZOK z_L_isLike := ⟨by decide +kernel, ftL_ok⟩
set_option maxRecDepth 20000 in
theorem k_L_isLike : LKV z_L_isLike 1 := ⟨⟨ALL_at 873 (by decide +kernel) rfl, (inALL_at 30 (by decide +kernel) rfl), by decide +kernel⟩, (inALL_at 872 (by decide +kernel) rfl), (inALL_at 25 (by decide +kernel) rfl)⟩
def z_L_isRefused : MZ := (yL_isRefused, cL_isRefused, 5, (some .boolean), [(0, .iload_n 1, 1), (1, .ifCond .ne 11, 3), (4, .aload_n 0, 1), (5, .iload_n 2, 1), (6, .invokevirtual 66, 3), (9, .goto 52, 3), (12, .iload_n 1, 1), (13, .iconst 1, 1), (14, .if_icmp .ne 11, 3), (17, .aload_n 0, 1), (18, .iload_n 2, 1), (19, .invokevirtual 70, 3), (22, .goto 39, 3), (25, .iload_n 1, 1), (26, .iconst 2, 1), (27, .if_icmp .ne 12, 3), (30, .aload_n 0, 1), (31, .iload_n 2, 1), (32, .iload_n 3, 1), (33, .invokevirtual 73, 3), (36, .goto 25, 3), (39, .iload_n 1, 1), (40, .iconst 3, 1), (41, .if_icmp .ne 12, 3), (44, .aload_n 0, 1), (45, .iload_n 2, 1), (46, .iload_n 3, 1), (47, .invokevirtual 77, 3), (50, .goto 11, 3), (53, .aload_n 0, 1), (54, .iconst 0, 1), (55, .iconst 0, 1), (56, .iconst 0, 1), (57, .iconst 1, 1), (58, .invokevirtual 80, 3), (61, .istore 4, 2), (63, .iconst 0, 1), (64, .ireturn, 1), (65, .astore 4, 2), (67, .iconst 1, 1), (68, .ireturn, 1)], ftL)
set_option maxRecDepth 20000 in
theorem zo_L_isRefused : ZOK z_L_isRefused := ⟨by decide +kernel, ftL_ok⟩
set_option maxRecDepth 20000 in
abbrev hhRef : List (Nat × Nat × Nat × Nat) := [((0 : Nat), (64 : Nat), (65 : Nat), (84 : Nat))]
theorem k_L_isRefused : Cond.codeWith (zY z_L_isRefused) (zB z_L_isRefused) (zN z_L_isRefused) (zR z_L_isRefused) hhRef ∈ ALL ∧ inALL (.initialized (zY z_L_isRefused).cls) = true ∧ ((zY z_L_isRefused).cls ≠ "java/lang/invoke/MethodHandle" ∧ (zY z_L_isRefused).cls ≠ "java/lang/invoke/VarHandle" ∧ (parseMethodDescriptor (zY z_L_isRefused).desc).map (fun d => d.parameters.length) = some 4) ∧ inALL (.static (zY z_L_isRefused)) = true := ⟨ALL_at 631 (by decide +kernel) rfl, (inALL_at 30 (by decide +kernel) rfl), by decide +kernel, (inALL_at 630 (by decide +kernel) rfl)⟩
def z_L_position : MZ := (yL_position, cL_position, 4, (some .int), [(0, .iconst 0, 1), (1, .istore_n 2, 1), (2, .iconst 0, 1), (3, .istore_n 3, 1), (4, .iload_n 3, 1), (5, .aload_n 0, 1), (6, .getfield 55, 3), (9, .if_icmp .ge 35, 3), (12, .aload_n 0, 1), (13, .iload_n 3, 1), (14, .aload_n 0, 1), (15, .getfield 22, 3), (18, .iload_n 1, 1), (19, .iaload, 1), (20, .invokevirtual 59, 3), (23, .ifCond .eq 15, 3), (26, .aload_n 0, 1), (27, .iload_n 3, 1), (28, .iload_n 1, 1), (29, .invokevirtual 63, 3), (32, .ifCond .eq 6, 3), (35, .iinc 2 1, 3), (38, .iinc 3 1, 3), (41, .goto (-37), 3), (44, .iload_n 2, 1), (45, .ireturn, 1)], ftL)
set_option maxRecDepth 20000 in
theorem zo_L_position : ZOK z_L_position := ⟨by decide +kernel, ftL_ok⟩
set_option maxRecDepth 20000 in
theorem k_L_position : LKV z_L_position 1 := ⟨⟨ALL_at 966 (by decide +kernel) rfl, (inALL_at 30 (by decide +kernel) rfl), by decide +kernel⟩, (inALL_at 965 (by decide +kernel) rfl), (inALL_at 28 (by decide +kernel) rfl)⟩
def z_L_size : MZ := (yL_size, cL_size, 4, (some .int), [(0, .iconst 0, 1), (1, .istore_n 2, 1), (2, .iconst 0, 1), (3, .istore_n 3, 1), (4, .iload_n 3, 1), (5, .aload_n 0, 1), (6, .getfield 55, 3), (9, .if_icmp .ge 21, 3), (12, .aload_n 0, 1), (13, .iload_n 3, 1), (14, .iload_n 1, 1), (15, .invokevirtual 59, 3), (18, .ifCond .eq 6, 3), (21, .iinc 2 1, 3), (24, .iinc 3 1, 3), (27, .goto (-23), 3), (30, .iload_n 2, 1), (31, .ireturn, 1)], ftL)
set_option maxRecDepth 20000 in
theorem zo_L_size : ZOK z_L_size := ⟨by decide +kernel, ftL_ok⟩
set_option maxRecDepth 20000 in
theorem k_L_size : LKV z_L_size 1 := ⟨⟨ALL_at 839 (by decide +kernel) rfl, (inALL_at 30 (by decide +kernel) rfl), by decide +kernel⟩, (inALL_at 838 (by decide +kernel) rfl), (inALL_at 23 (by decide +kernel) rfl)⟩
def z_L_told : MZ := (yL_told, cL_told, 5, none, [(0, .iconst 0, 1), (1, .istore_n 2, 1), (2, .iload_n 2, 1), (3, .aload_n 1, 1), (4, .invokevirtual 35, 3), (7, .if_icmp .ge 89, 3), (10, .iconst 5, 1), (11, .newarray .int, 2), (13, .astore_n 3, 1), (14, .iconst 0, 1), (15, .istore 4, 2), (17, .iload 4, 2), (19, .bipush 20, 2), (21, .if_icmp .ge 49, 3), (24, .aload_n 3, 1), (25, .iload 4, 2), (27, .iconst 4, 1), (28, .idiv, 1), (29, .aload_n 3, 1), (30, .iload 4, 2), (32, .iconst 4, 1), (33, .idiv, 1), (34, .iaload, 1), (35, .bipush 8, 2), (37, .ishl, 1), (38, .iload_n 2, 1), (39, .iload 4, 2), (41, .iadd, 1), (42, .aload_n 1, 1), (43, .invokevirtual 35, 3), (46, .if_icmp .ge 14, 3), (49, .aload_n 1, 1), (50, .iload_n 2, 1), (51, .iload 4, 2), (53, .iadd, 1), (54, .invokevirtual 41, 3), (57, .goto 5, 3), (60, .bipush 32, 2), (62, .ior, 1), (63, .iastore, 1), (64, .iinc 4 1, 3), (67, .goto (-50), 3), (70, .aload_n 0, 1), (71, .aload_n 3, 1), (72, .iconst 0, 1), (73, .iaload, 1), (74, .aload_n 3, 1), (75, .iconst 1, 1), (76, .iaload, 1), (77, .aload_n 3, 1), (78, .iconst 2, 1), (79, .iaload, 1), (80, .aload_n 3, 1), (81, .iconst 3, 1), (82, .iaload, 1), (83, .aload_n 3, 1), (84, .iconst 4, 1), (85, .iaload, 1), (86, .invokevirtual 45, 3), (89, .pop, 1), (90, .iinc 2 20, 3), (93, .goto (-91), 3), (96, .aload_n 0, 1), (97, .aload_n 1, 1), (98, .invokevirtual 35, 3), (101, .invokevirtual 51, 3), (104, .pop, 1), (105, .return_, 1)], ftL)
set_option maxRecDepth 20000 in
theorem zo_L_told : ZOK z_L_told := ⟨by decide +kernel, ftL_ok⟩
set_option maxRecDepth 20000 in
theorem k_L_told : LKS z_L_told 2 := ⟨⟨ALL_at 610 (by decide +kernel) rfl, (inALL_at 30 (by decide +kernel) rfl), by decide +kernel⟩, (inALL_at 609 (by decide +kernel) rfl)⟩
set_option maxRecDepth 20000 in
theorem l_L_45 : LKA RL 45 z_X8_appendInput := Or.inl (inALL_at 613 (by decide +kernel) rfl)
set_option maxRecDepth 20000 in
theorem l_L_51 : LKA RL 51 z_X8_truncateInput := Or.inl (inALL_at 621 (by decide +kernel) rfl)
set_option maxRecDepth 20000 in
theorem l_L_59 : LKA RL 59 z_L_isIn := Or.inl (inALL_at 820 (by decide +kernel) rfl)
set_option maxRecDepth 20000 in
theorem l_L_63 : LKA RL 63 z_L_isBefore := Or.inl (inALL_at 824 (by decide +kernel) rfl)
set_option maxRecDepth 20000 in
theorem l_L_66 : LKA RL 66 z_X8_printNext := Or.inl (inALL_at 633 (by decide +kernel) rfl)
set_option maxRecDepth 20000 in
theorem l_L_70 : LKA RL 70 z_X8_cancel := Or.inl (inALL_at 750 (by decide +kernel) rfl)
set_option maxRecDepth 20000 in
theorem l_L_73 : LKA RL 73 z_X8_changePriority := Or.inl (inALL_at 769 (by decide +kernel) rfl)
set_option maxRecDepth 20000 in
theorem l_L_77 : LKA RL 77 z_X8_moveJob := Or.inl (inALL_at 796 (by decide +kernel) rfl)
set_option maxRecDepth 20000 in
theorem l_L_80 : LKA RL 80 z_X8_submit := Or.inl (inALL_at 805 (by decide +kernel) rfl)
set_option maxRecDepth 20000 in
theorem l_L_86 : LKA RL 86 z_L_bits := Or.inl (inALL_at 605 (by decide +kernel) rfl)
set_option maxRecDepth 20000 in
theorem l_L_93 : LKA RL 93 z_L_isRefused := Or.inl (inALL_at 629 (by decide +kernel) rfl)
set_option maxRecDepth 20000 in
theorem l_L_100 : LKA RL 100 z_L_first := Or.inl (inALL_at 816 (by decide +kernel) rfl)
set_option maxRecDepth 20000 in
theorem l_L_103 : LKA RL 103 z_X8_printingObstacle := Or.inl (inALL_at 828 (by decide +kernel) rfl)
set_option maxRecDepth 20000 in
theorem l_L_106 : LKA RL 106 z_X8_jobCount := Or.inl (inALL_at 832 (by decide +kernel) rfl)
set_option maxRecDepth 20000 in
theorem l_L_109 : LKA RL 109 z_L_size := Or.inl (inALL_at 836 (by decide +kernel) rfl)
set_option maxRecDepth 20000 in
theorem l_L_112 : LKA RL 112 z_X8_positionWith := Or.inl (inALL_at 840 (by decide +kernel) rfl)
set_option maxRecDepth 20000 in
theorem l_L_115 : LKA RL 115 z_X8_mergeQueues := Or.inl (inALL_at 849 (by decide +kernel) rfl)
set_option maxRecDepth 20000 in
theorem l_L_118 : LKA RL 118 z_X8_setPaused := Or.inl (inALL_at 862 (by decide +kernel) rfl)
set_option maxRecDepth 20000 in
theorem l_L_125 : LKA RL 125 z_X8_leftChild := Or.inl (inALL_at 882 (by decide +kernel) rfl)
set_option maxRecDepth 20000 in
theorem l_L_128 : LKA RL 128 z_X8_rightChild := Or.inl (inALL_at 886 (by decide +kernel) rfl)
set_option maxRecDepth 20000 in
theorem l_L_131 : LKA RL 131 z_X8_rank := Or.inl (inALL_at 890 (by decide +kernel) rfl)
set_option maxRecDepth 20000 in
theorem l_L_134 : LKA RL 134 z_X8_parent := Or.inl (inALL_at 895 (by decide +kernel) rfl)
set_option maxRecDepth 20000 in
theorem l_L_137 : LKA RL 137 z_X8_depth := Or.inl (inALL_at 899 (by decide +kernel) rfl)
set_option maxRecDepth 20000 in
theorem l_L_140 : LKA RL 140 z_L_isHeap := Or.inl (inALL_at 878 (by decide +kernel) rfl)
set_option maxRecDepth 20000 in
theorem l_L_144 : LKA RL 144 z_X8_root := Or.inl (inALL_at 874 (by decide +kernel) rfl)
set_option maxRecDepth 20000 in
theorem l_L_147 : LKA RL 147 z_X8_size := Or.inl (inALL_at 907 (by decide +kernel) rfl)
set_option maxRecDepth 20000 in
theorem l_L_148 : LKA RL 148 z_X8_printedPages := Or.inl (inALL_at 911 (by decide +kernel) rfl)
set_option maxRecDepth 20000 in
theorem l_L_151 : LKA RL 151 z_X8_isPaused := Or.inl (inALL_at 915 (by decide +kernel) rfl)
set_option maxRecDepth 20000 in
theorem l_L_154 : LKA RL 154 z_X8_waitingPages := Or.inl (inALL_at 919 (by decide +kernel) rfl)
set_option maxRecDepth 20000 in
theorem l_L_157 : LKA RL 157 z_X8_isWaiting := Or.inl (inALL_at 927 (by decide +kernel) rfl)
set_option maxRecDepth 20000 in
theorem l_L_160 : LKA RL 160 z_X8_isPrinted := Or.inl (inALL_at 931 (by decide +kernel) rfl)
set_option maxRecDepth 20000 in
theorem l_L_163 : LKA RL 163 z_X8_isCancelled := Or.inl (inALL_at 935 (by decide +kernel) rfl)
set_option maxRecDepth 20000 in
theorem l_L_166 : LKA RL 166 z_X8_priority := Or.inl (inALL_at 939 (by decide +kernel) rfl)
set_option maxRecDepth 20000 in
theorem l_L_168 : LKA RL 168 z_X8_pages := Or.inl (inALL_at 943 (by decide +kernel) rfl)
set_option maxRecDepth 20000 in
theorem l_L_170 : LKA RL 170 z_X8_ownerOf := Or.inl (inALL_at 947 (by decide +kernel) rfl)
set_option maxRecDepth 20000 in
theorem l_L_173 : LKA RL 173 z_X8_queueOf := Or.inl (inALL_at 951 (by decide +kernel) rfl)
set_option maxRecDepth 20000 in
theorem l_L_176 : LKA RL 176 z_L_before := Or.inl (inALL_at 955 (by decide +kernel) rfl)
set_option maxRecDepth 20000 in
theorem l_L_179 : LKA RL 179 z_X8_positionOf := Or.inl (inALL_at 959 (by decide +kernel) rfl)
set_option maxRecDepth 20000 in
theorem l_L_182 : LKA RL 182 z_L_position := Or.inl (inALL_at 963 (by decide +kernel) rfl)
set_option maxRecDepth 20000 in
theorem l_L_185 : LKA RL 185 z_X8_jobAt := Or.inl (inALL_at 967 (by decide +kernel) rfl)
set_option maxRecDepth 20000 in
theorem l_L_188 : LKA RL 188 z_X8_pagesBefore := Or.inl (inALL_at 976 (by decide +kernel) rfl)
set_option maxRecDepth 20000 in
theorem l_L_191 : LKA RL 191 z_X8_minutesUntilPrinted := Or.inl (inALL_at 984 (by decide +kernel) rfl)
set_option maxRecDepth 20000 in
theorem l_L_194 : LKA RL 194 z_X8_isConsistent := Or.inl (inALL_at 992 (by decide +kernel) rfl)
set_option maxRecDepth 20000 in
theorem l_L_198 : LKA RL 198 z_X8_init := Or.inl (inALL_at 60 (by decide +kernel) rfl)
set_option maxRecDepth 20000 in
theorem l_L_199 : LKA RL 199 z_L_init := Or.inl (inALL_at 561 (by decide +kernel) rfl)
set_option maxRecDepth 20000 in
theorem l_L_200 : LKA RL 200 z_L_cell := Or.inl (inALL_at 602 (by decide +kernel) rfl)
set_option maxRecDepth 20000 in
theorem l_L_225 : LKA RL 225 z_L_told := Or.inl (inALL_at 608 (by decide +kernel) rfl)
set_option maxRecDepth 20000 in
theorem l_L_229 : LKA RL 229 z_X8_loadSetup := Or.inl (inALL_at 555 (by decide +kernel) rfl)
set_option maxRecDepth 20000 in
theorem l_L_232 : LKA RL 232 z_L_isLike := Or.inl (inALL_at 870 (by decide +kernel) rfl)
set_option maxRecDepth 20000 in
theorem l_L_236 : LKA RL 236 z_L_acts := Or.inl (inALL_at 625 (by decide +kernel) rfl)
def bnd0 {α γ : Type} (x : Option (α ⊕ String)) (k : α → Option γ) : Option γ := match x with
  | some (.inl a) => k a
  | _ => none
theorem bnd0_ok {α γ : Type} {a : α} {k : α → Option γ} : bnd0 (some (.inl a)) k = k a := rfl
theorem bnd0_inv {α γ : Type} {x : Option (α ⊕ String)} {k : α → Option γ} {y : γ} (h : bnd0 x k = some y) : ∃ a, x = some (.inl a) ∧ k a = some y := by
  rcases x with _ | (a | e)
  · cases h
  · exact ⟨a, rfl, h⟩
  · cases h
def bnd0X {α β γ : Type} (x : Option ((α ⊕ String) × β)) (k : α → β → Option γ) : Option γ := match x with
  | some (.inl a, b) => k a b
  | _ => none
theorem bnd0X_ok {α β γ : Type} {a : α} {b : β} {k : α → β → Option γ} : bnd0X (some (.inl a, b)) k = k a b := rfl
theorem bnd0X_inv {α β γ : Type} {x : Option ((α ⊕ String) × β)} {k : α → β → Option γ} {y : γ} (h : bnd0X x k = some y) : ∃ a b, x = some (.inl a, b) ∧ k a b = some y := by
  rcases x with _ | ⟨(a | e), b⟩
  · cases h
  · exact ⟨a, b, rfl, h⟩
  · cases h
/-- refused: an IllegalStateException, caught -/
def refX {β γ : Type} (x : Option ((Int32 ⊕ String) × β)) (k : β → γ) : Option (Int32 × γ) := match x with
  | some (.inr e, b) => if e = "java/lang/IllegalStateException" then some (1, k b) else none
  | _ => none
theorem refX_ok {β γ : Type} {b : β} {k : β → γ} : refX (some ((.inr "java/lang/IllegalStateException" : Int32 ⊕ String), b)) k = some (1, k b) := by
  show (if ("java/lang/IllegalStateException" : String) = "java/lang/IllegalStateException" then some (1, k b) else none) = _
  exact if_pos rfl
theorem refX_inv {β γ : Type} {x : Option ((Int32 ⊕ String) × β)} {k : β → γ} {y : Int32 × γ} (h : refX x k = some y) : ∃ b, x = some (.inr "java/lang/IllegalStateException", b) ∧ some (1, k b) = some y := by
  rcases x with _ | ⟨(a | e), b⟩
  · cases h
  · cases h
  · unfold refX at h
    dsimp only at h
    split at h
    · rename_i he
      subst he
      exact ⟨b, rfl, h⟩
    · cases h
section CATCH
variable {κ : KX} {z y : MZ} {Q : State → Prop} {pc : Nat} {ls : List (Option Value)} {st rest : List Value} {AH AHs : List AC} {nc ns d mc ms : Nat} {As : List Value}
theorem q_callVc (X : CX κ z) (ι δ : List Nat) {o ci index n : Nat} {fs : List Value} {r9 : vw_C} {E : String} {W2 AH2 : List AC} (hM : Sem y d mc ms (.ref o :: As) AHs (PST (.inr E) W2)) (hk : PK ι δ AH AHs) (hd : fetch (zC z) pc = some (.invokevirtual index, 3)) (hy : LKV y n) (hl : LKA (zY z).cls index y) (hn : As.length = n) (ho : AHs[o]? = some (.inr (ci, fs))) (hr9 : vwCl[ci]? = some r9) (hcl : r9.1 = (zY y).cls) (hst : st = (As.map (cvV (iof ι δ AH.length))).reverse ++ cvV (iof ι δ AH.length) (.ref o) :: rest) (hfit : FitR (κR κ) y d mc ms nc ns) (hsum : csum rest ≤ 8) (hsb : ι.length ≤ SB) (hlen : W2.length = AHs.length) (hput : putB AH ι (W2.map (rnE (iof ι δ AH.length))) = AH2)
    (k : AX κ Q E pc ls rest AH2 (nc + mc) (ns + ms)) : AW κ Q pc ls st AH nc ns := by
  subst hput
  exact r_callV X ι δ hM hk hd hy hl hn ho hr9 hcl hst hfit hsum hsb (fun _ _ e => (congrArg List.length e.2).trans hlen) (fun v9 A9 e => by
    have e1 := e.1
    cases e1) (fun E9 A9 e => by
    obtain ⟨e1, rfl⟩ := e
    cases e1
    exact k)
theorem q_callSX (X : CX κ z) (ι δ : List Nat) {index n : Nat} {hh : List (Nat × Nat × Nat × Nat)} {st2 : List Value} {x : Value} {W2 AH2 : List AC} (hM : SemX y hh d mc ms As AHs (PST (.inl (some x)) W2)) (hk : PK ι δ AH AHs) (hd : fetch (zC z) pc = some (.invokestatic index, 3)) (hy : Cond.codeWith (zY y) (zB y) (zN y) (zR y) hh ∈ ALL ∧ inALL (.initialized (zY y).cls) = true ∧ ((zY y).cls ≠ "java/lang/invoke/MethodHandle" ∧ (zY y).cls ≠ "java/lang/invoke/VarHandle" ∧ (parseMethodDescriptor (zY y).desc).map (fun d => d.parameters.length) = some n) ∧ inALL (.static (zY y)) = true) (hl : LKA (zY z).cls index y) (hn : As.length = n) (hst : st = (As.map (cvV (iof ι δ AH.length))).reverse ++ rest) (hfit : FitR (κR κ) y d mc ms nc ns) (hsum : csum rest ≤ 8) (hsb : ι.length ≤ SB) (hlen : W2.length = AHs.length) (hput : putB AH ι (W2.map (rnE (iof ι δ AH.length))) = AH2) (hst2 : cvV (iof ι δ AH.length) x :: rest = st2)
    (k : AW κ Q (pc + 3) ls st2 AH2 (nc + mc) (ns + ms)) (hnn : ∀ q ∈ nestTab, ¬ q.2.2 = zY y := by decide +kernel) : AW κ Q pc ls st AH nc ns := by
  subst hput
  subst hst2
  refine r_callSX X ι δ hM hk hd hy (lkA hl hnn) hn hst hfit hsum hsb (fun _ _ e => (congrArg List.length e.2).trans hlen) (fun v9 A9 e => ?_) (fun E9 A9 e => ?_)
  · obtain ⟨e1, rfl⟩ := e
    cases e1
    exact k
  · have e1 := e.1
    cases e1
end CATCH
theorem sw_out14 {x : Int32} (h0 : ¬ x = 0) (h1 : ¬ x = 1) (h2 : ¬ x = 2) (h3 : ¬ x = 3) (h4 : ¬ x = 4) (h5 : ¬ x = 5) (h6 : ¬ x = 6) (h7 : ¬ x = 7) (h8 : ¬ x = 8) (h9 : ¬ x = 9) (h10 : ¬ x = 10) (h11 : ¬ x = 11) (h12 : ¬ x = 12) (h13 : ¬ x = 13) : x.toInt < 0 ∨ 13 < x.toInt := by
  refine Classical.byContradiction fun hn => ?_
  have hr : 0 ≤ x.toInt ∧ x.toInt ≤ 13 := by omega
  have e : x.toInt = 0 ∨ x.toInt = 1 ∨ x.toInt = 2 ∨ x.toInt = 3 ∨ x.toInt = 4 ∨ x.toInt = 5 ∨ x.toInt = 6 ∨ x.toInt = 7 ∨ x.toInt = 8 ∨ x.toInt = 9 ∨ x.toInt = 10 ∨ x.toInt = 11 ∨ x.toInt = 12 ∨ x.toInt = 13 := by omega
  rcases e with e | e | e | e | e | e | e | e | e | e | e | e | e | e
  · exact h0 (Int32.toInt_inj.mp (e.trans rfl))
  · exact h1 (Int32.toInt_inj.mp (e.trans rfl))
  · exact h2 (Int32.toInt_inj.mp (e.trans rfl))
  · exact h3 (Int32.toInt_inj.mp (e.trans rfl))
  · exact h4 (Int32.toInt_inj.mp (e.trans rfl))
  · exact h5 (Int32.toInt_inj.mp (e.trans rfl))
  · exact h6 (Int32.toInt_inj.mp (e.trans rfl))
  · exact h7 (Int32.toInt_inj.mp (e.trans rfl))
  · exact h8 (Int32.toInt_inj.mp (e.trans rfl))
  · exact h9 (Int32.toInt_inj.mp (e.trans rfl))
  · exact h10 (Int32.toInt_inj.mp (e.trans rfl))
  · exact h11 (Int32.toInt_inj.mp (e.trans rfl))
  · exact h12 (Int32.toInt_inj.mp (e.trans rfl))
  · exact h13 (Int32.toInt_inj.mp (e.trans rfl))
