/-! ===== 09b.tabm: methods by program: code, fields, links ===== -/
def ftX9 : List (Nat × Nat × Nat) := [(9, 9, 0), (13, 9, 1), (16, 9, 2), (19, 9, 3), (22, 9, 7), (25, 9, 9), (29, 9, 12), (33, 9, 19), (36, 9, 21), (39, 9, 22), (50, 9, 8), (67, 9, 6), (74, 9, 4), (146, 9, 10), (156, 9, 11), (167, 9, 17), (170, 9, 14), (173, 9, 13), (176, 9, 15), (185, 9, 16), (188, 9, 18), (265, 9, 5), (287, 9, 20), (402, 9, 23)]
theorem ftX9_ok : ∀ q ∈ ftX9, okF RX9 q = true := by decide +kernel
def z_X9_init : MZ := (yX9_init, cX9_init, 6, none, [(0, .aload_n 0, 1), (1, .invokespecial 3, 3), (4, .aload_n 0, 1), (5, .sipush 500, 3), (8, .newarray .int, 2), (10, .putfield 9, 3), (13, .aload_n 0, 1), (14, .sipush 500, 3), (17, .newarray .int, 2), (19, .putfield 13, 3), (22, .aload_n 0, 1), (23, .sipush 500, 3), (26, .newarray .int, 2), (28, .putfield 16, 3), (31, .aload_n 0, 1), (32, .sipush 4000, 3), (35, .newarray .int, 2), (37, .putfield 19, 3), (40, .aload_n 0, 1), (41, .bipush 6, 2), (43, .newarray .int, 2), (45, .putfield 22, 3), (48, .aload_n 0, 1), (49, .sipush 600, 3), (52, .newarray .byte, 2), (54, .putfield 25, 3), (57, .aload_n 0, 1), (58, .iconst (-1), 1), (59, .putfield 29, 3), (62, .aload_n 0, 1), (63, .sipush 150, 3), (66, .newarray .int, 2), (68, .putfield 33, 3), (71, .aload_n 0, 1), (72, .bipush 40, 2), (74, .newarray .int, 2), (76, .putfield 36, 3), (79, .aload_n 0, 1), (80, .sipush 240, 3), (83, .newarray .byte, 2), (85, .putfield 39, 3), (88, .ldc 42, 2), (90, .astore_n 1, 1), (91, .iconst 0, 1), (92, .istore_n 2, 1), (93, .iconst 0, 1), (94, .istore_n 3, 1), (95, .iload_n 3, 1), (96, .iconst 4, 1), (97, .if_icmp .ge 83, 3), (100, .iload_n 2, 1), (101, .istore 4, 2), (103, .aload_n 1, 1), (104, .iload 4, 2), (106, .invokevirtual 44, 3), (109, .bipush 32, 2), (111, .if_icmp .eq 24, 3), (114, .aload_n 0, 1), (115, .getfield 22, 3), (118, .iload 4, 2), (120, .iload_n 2, 1), (121, .isub, 1), (122, .aload_n 1, 1), (123, .iload 4, 2), (125, .invokevirtual 44, 3), (128, .iastore, 1), (129, .iinc 4 1, 3), (132, .goto (-29), 3), (135, .aload_n 0, 1), (136, .iload 4, 2), (138, .iload_n 2, 1), (139, .isub, 1), (140, .putfield 50, 3), (143, .iload 4, 2), (145, .iconst 1, 1), (146, .iadd, 1), (147, .istore_n 2, 1), (148, .iload_n 3, 1), (149, .iconst 2, 1), (150, .if_icmp .ge 20, 3), (153, .aload_n 0, 1), (154, .iload_n 3, 1), (155, .ifCond .ne 8, 3), (158, .bipush 20, 2), (160, .goto 4, 3), (163, .iconst 5, 1), (164, .invokevirtual 53, 3), (167, .goto 7, 3), (170, .aload_n 0, 1), (171, .invokevirtual 57, 3), (174, .iinc 3 1, 3), (177, .goto (-82), 3), (180, .bipush 24, 2), (182, .newarray .int, 2), (184, .dup, 1), (185, .iconst 0, 1), (186, .iconst 0, 1), (187, .iastore, 1), (188, .dup, 1), (189, .iconst 1, 1), (190, .iconst 0, 1), (191, .iastore, 1), (192, .dup, 1), (193, .iconst 2, 1), (194, .bipush 50, 2), (196, .iastore, 1), (197, .dup, 1), (198, .iconst 3, 1), (199, .bipush 10, 2), (201, .iastore, 1), (202, .dup, 1), (203, .iconst 4, 1), (204, .iconst 0, 1), (205, .iastore, 1), (206, .dup, 1), (207, .iconst 5, 1), (208, .iconst 1, 1), (209, .iastore, 1), (210, .dup, 1), (211, .bipush 6, 2), (213, .bipush 30, 2), (215, .iastore, 1), (216, .dup, 1), (217, .bipush 7, 2), (219, .iconst 4, 1), (220, .iastore, 1), (221, .dup, 1), (222, .bipush 8, 2), (224, .iconst 0, 1), (225, .iastore, 1), (226, .dup, 1), (227, .bipush 9, 2), (229, .iconst 0, 1), (230, .iastore, 1), (231, .dup, 1), (232, .bipush 10, 2), (234, .bipush 70, 2), (236, .iastore, 1), (237, .dup, 1), (238, .bipush 11, 2), (240, .bipush 25, 2), (242, .iastore, 1), (243, .dup, 1), (244, .bipush 12, 2), (246, .iconst 0, 1), (247, .iastore, 1), (248, .dup, 1), (249, .bipush 13, 2), (251, .iconst 1, 1), (252, .iastore, 1), (253, .dup, 1), (254, .bipush 14, 2), (256, .bipush 40, 2), (258, .iastore, 1), (259, .dup, 1), (260, .bipush 15, 2), (262, .bipush 8, 2), (264, .iastore, 1), (265, .dup, 1), (266, .bipush 16, 2), (268, .iconst 1, 1), (269, .iastore, 1), (270, .dup, 1), (271, .bipush 17, 2), (273, .iconst 0, 1), (274, .iastore, 1), (275, .dup, 1), (276, .bipush 18, 2), (278, .bipush 20, 2), (280, .iastore, 1), (281, .dup, 1), (282, .bipush 19, 2), (284, .iconst 3, 1), (285, .iastore, 1), (286, .dup, 1), (287, .bipush 20, 2), (289, .iconst 1, 1), (290, .iastore, 1), (291, .dup, 1), (292, .bipush 21, 2), (294, .iconst 1, 1), (295, .iastore, 1), (296, .dup, 1), (297, .bipush 22, 2), (299, .bipush 60, 2), (301, .iastore, 1), (302, .dup, 1), (303, .bipush 23, 2), (305, .bipush 6, 2), (307, .iastore, 1), (308, .astore_n 3, 1), (309, .iconst 0, 1), (310, .istore 4, 2), (312, .iload 4, 2), (314, .aload_n 3, 1), (315, .arraylength, 1), (316, .if_icmp .ge 37, 3), (319, .aload_n 0, 1), (320, .aload_n 3, 1), (321, .iload 4, 2), (323, .iaload, 1), (324, .aload_n 3, 1), (325, .iload 4, 2), (327, .iconst 1, 1), (328, .iadd, 1), (329, .iaload, 1), (330, .aload_n 3, 1), (331, .iload 4, 2), (333, .iconst 2, 1), (334, .iadd, 1), (335, .iaload, 1), (336, .aload_n 3, 1), (337, .iload 4, 2), (339, .iconst 3, 1), (340, .iadd, 1), (341, .iaload, 1), (342, .invokevirtual 60, 3), (345, .istore 5, 2), (347, .iinc 4 4, 3), (350, .goto (-38), 3), (353, .aload_n 0, 1), (354, .invokevirtual 64, 3), (357, .return_, 1)], ftX9)
set_option maxRecDepth 20000 in
theorem zo_X9_init : ZOK z_X9_init := ⟨by decide +kernel, ftX9_ok⟩
set_option maxRecDepth 20000 in
theorem k_X9_init : LKI z_X9_init 0 := ⟨⟨ALL_at 1343 (by decide +kernel) rfl, (inALL_at 125 (by decide +kernel) rfl), by decide +kernel⟩, rfl, rfl, (inALL_at 1342 (by decide +kernel) rfl)⟩
def z_X9_addQueue : MZ := (yX9_addQueue, cX9_addQueue, 3, none, [(0, .aload_n 0, 1), (1, .getfield 9, 3), (4, .iconst 0, 1), (5, .iaload, 1), (6, .invokestatic 77, 3), (9, .istore_n 2, 1), (10, .aload_n 0, 1), (11, .iload_n 2, 1), (12, .invokevirtual 87, 3), (15, .aload_n 0, 1), (16, .getfield 9, 3), (19, .iload_n 2, 1), (20, .bipush 7, 2), (22, .iadd, 1), (23, .iload_n 1, 1), (24, .iastore, 1), (25, .aload_n 0, 1), (26, .getfield 9, 3), (29, .iload_n 2, 1), (30, .bipush 9, 2), (32, .iadd, 1), (33, .iconst (-1), 1), (34, .iastore, 1), (35, .aload_n 0, 1), (36, .getfield 9, 3), (39, .iconst 0, 1), (40, .dup2, 1), (41, .iaload, 1), (42, .iconst 1, 1), (43, .iadd, 1), (44, .iastore, 1), (45, .return_, 1)], ftX9)
set_option maxRecDepth 20000 in
theorem zo_X9_addQueue : ZOK z_X9_addQueue := ⟨by decide +kernel, ftX9_ok⟩
set_option maxRecDepth 20000 in
theorem k_X9_addQueue : LKV z_X9_addQueue 1 := ⟨⟨ALL_at 1350 (by decide +kernel) rfl, (inALL_at 125 (by decide +kernel) rfl), by decide +kernel⟩, (inALL_at 1349 (by decide +kernel) rfl), (inALL_at 25 (by decide +kernel) rfl)⟩
def z_X9_q : MZ := (yX9_q, cX9_q, 1, (some .int), [(0, .bipush 10, 2), (2, .bipush 11, 2), (4, .iload_n 0, 1), (5, .imul, 1), (6, .iadd, 1), (7, .ireturn, 1)], ftX9)
set_option maxRecDepth 20000 in
theorem zo_X9_q : ZOK z_X9_q := ⟨by decide +kernel, ftX9_ok⟩
set_option maxRecDepth 20000 in
theorem k_X9_q : LKS z_X9_q 1 := ⟨⟨ALL_at 1353 (by decide +kernel) rfl, (inALL_at 125 (by decide +kernel) rfl), by decide +kernel⟩, (inALL_at 1352 (by decide +kernel) rfl)⟩
def z_X9_putName : MZ := (yX9_putName, cX9_putName, 3, none, [(0, .aload_n 0, 1), (1, .getfield 9, 3), (4, .iload_n 1, 1), (5, .aload_n 0, 1), (6, .getfield 50, 3), (9, .iastore, 1), (10, .iconst 0, 1), (11, .istore_n 2, 1), (12, .iload_n 2, 1), (13, .aload_n 0, 1), (14, .getfield 50, 3), (17, .if_icmp .ge 25, 3), (20, .aload_n 0, 1), (21, .getfield 9, 3), (24, .iload_n 1, 1), (25, .iconst 1, 1), (26, .iadd, 1), (27, .iload_n 2, 1), (28, .iadd, 1), (29, .aload_n 0, 1), (30, .getfield 22, 3), (33, .iload_n 2, 1), (34, .iaload, 1), (35, .iastore, 1), (36, .iinc 2 1, 3), (39, .goto (-27), 3), (42, .return_, 1)], ftX9)
set_option maxRecDepth 20000 in
theorem zo_X9_putName : ZOK z_X9_putName := ⟨by decide +kernel, ftX9_ok⟩
set_option maxRecDepth 20000 in
theorem k_X9_putName : LKV z_X9_putName 1 := ⟨⟨ALL_at 1357 (by decide +kernel) rfl, (inALL_at 125 (by decide +kernel) rfl), by decide +kernel⟩, (inALL_at 1356 (by decide +kernel) rfl), (inALL_at 26 (by decide +kernel) rfl)⟩
def z_X9_addOwner : MZ := (yX9_addOwner, cX9_addOwner, 1, none, [(0, .aload_n 0, 1), (1, .aload_n 0, 1), (2, .getfield 9, 3), (5, .iconst 1, 1), (6, .iaload, 1), (7, .invokestatic 84, 3), (10, .invokevirtual 87, 3), (13, .aload_n 0, 1), (14, .getfield 9, 3), (17, .iconst 1, 1), (18, .dup2, 1), (19, .iaload, 1), (20, .iconst 1, 1), (21, .iadd, 1), (22, .iastore, 1), (23, .return_, 1)], ftX9)
set_option maxRecDepth 20000 in
theorem zo_X9_addOwner : ZOK z_X9_addOwner := ⟨by decide +kernel, ftX9_ok⟩
set_option maxRecDepth 20000 in
theorem k_X9_addOwner : LKV z_X9_addOwner 0 := ⟨⟨ALL_at 1361 (by decide +kernel) rfl, (inALL_at 125 (by decide +kernel) rfl), by decide +kernel⟩, (inALL_at 1360 (by decide +kernel) rfl), (inALL_at 27 (by decide +kernel) rfl)⟩
def z_X9_o : MZ := (yX9_o, cX9_o, 1, (some .int), [(0, .bipush 80, 2), (2, .bipush 7, 2), (4, .iload_n 0, 1), (5, .imul, 1), (6, .iadd, 1), (7, .ireturn, 1)], ftX9)
set_option maxRecDepth 20000 in
theorem zo_X9_o : ZOK z_X9_o := ⟨by decide +kernel, ftX9_ok⟩
set_option maxRecDepth 20000 in
theorem k_X9_o : LKS z_X9_o 1 := ⟨⟨ALL_at 1364 (by decide +kernel) rfl, (inALL_at 125 (by decide +kernel) rfl), by decide +kernel⟩, (inALL_at 1363 (by decide +kernel) rfl)⟩
def z_X9_addJob : MZ := (yX9_addJob, cX9_addJob, 6, (some .int), [(0, .aload_n 0, 1), (1, .getfield 9, 3), (4, .iconst 2, 1), (5, .iaload, 1), (6, .istore 5, 2), (8, .aload_n 0, 1), (9, .iload 5, 2), (11, .iconst 0, 1), (12, .iload_n 2, 1), (13, .invokevirtual 94, 3), (16, .aload_n 0, 1), (17, .iload 5, 2), (19, .iconst 1, 1), (20, .iload_n 3, 1), (21, .invokevirtual 94, 3), (24, .aload_n 0, 1), (25, .iload 5, 2), (27, .iconst 2, 1), (28, .iload 4, 2), (30, .invokevirtual 94, 3), (33, .aload_n 0, 1), (34, .iload 5, 2), (36, .iconst 3, 1), (37, .iconst 0, 1), (38, .invokevirtual 94, 3), (41, .aload_n 0, 1), (42, .getfield 9, 3), (45, .iconst 2, 1), (46, .dup2, 1), (47, .iaload, 1), (48, .iconst 1, 1), (49, .iadd, 1), (50, .iastore, 1), (51, .aload_n 0, 1), (52, .iload_n 1, 1), (53, .iload 5, 2), (55, .invokevirtual 127, 3), (58, .iload 5, 2), (60, .ireturn, 1)], ftX9)
set_option maxRecDepth 20000 in
theorem zo_X9_addJob : ZOK z_X9_addJob := ⟨by decide +kernel, ftX9_ok⟩
set_option maxRecDepth 20000 in
theorem k_X9_addJob : LKV z_X9_addJob 4 := ⟨⟨ALL_at 1368 (by decide +kernel) rfl, (inALL_at 125 (by decide +kernel) rfl), by decide +kernel⟩, (inALL_at 1367 (by decide +kernel) rfl), (inALL_at 28 (by decide +kernel) rfl)⟩
def z_X9_set : MZ := (yX9_set, cX9_set, 4, none, [(0, .aload_n 0, 1), (1, .getfield 9, 3), (4, .iload_n 1, 1), (5, .invokestatic 70, 3), (8, .iload_n 2, 1), (9, .iadd, 1), (10, .iload_n 3, 1), (11, .iastore, 1), (12, .return_, 1)], ftX9)
set_option maxRecDepth 20000 in
theorem zo_X9_set : ZOK z_X9_set := ⟨by decide +kernel, ftX9_ok⟩
set_option maxRecDepth 20000 in
theorem k_X9_set : LKV z_X9_set 3 := ⟨⟨ALL_at 1372 (by decide +kernel) rfl, (inALL_at 125 (by decide +kernel) rfl), by decide +kernel⟩, (inALL_at 1371 (by decide +kernel) rfl), (inALL_at 29 (by decide +kernel) rfl)⟩
def z_X9_j : MZ := (yX9_j, cX9_j, 1, (some .int), [(0, .sipush 140, 3), (3, .bipush 9, 2), (5, .iload_n 0, 1), (6, .imul, 1), (7, .iadd, 1), (8, .ireturn, 1)], ftX9)
set_option maxRecDepth 20000 in
theorem zo_X9_j : ZOK z_X9_j := ⟨by decide +kernel, ftX9_ok⟩
set_option maxRecDepth 20000 in
theorem k_X9_j : LKS z_X9_j 1 := ⟨⟨ALL_at 1375 (by decide +kernel) rfl, (inALL_at 125 (by decide +kernel) rfl), by decide +kernel⟩, (inALL_at 1374 (by decide +kernel) rfl)⟩
def z_X9_insert : MZ := (yX9_insert, cX9_insert, 3, none, [(0, .aload_n 0, 1), (1, .iload_n 2, 1), (2, .invokevirtual 114, 3), (5, .aload_n 0, 1), (6, .iload_n 2, 1), (7, .iconst 4, 1), (8, .iload_n 1, 1), (9, .invokevirtual 94, 3), (12, .aload_n 0, 1), (13, .iload_n 1, 1), (14, .aload_n 0, 1), (15, .aload_n 0, 1), (16, .iload_n 1, 1), (17, .invokevirtual 117, 3), (20, .iload_n 2, 1), (21, .invokevirtual 105, 3), (24, .invokevirtual 120, 3), (27, .return_, 1)], ftX9)
set_option maxRecDepth 20000 in
theorem zo_X9_insert : ZOK z_X9_insert := ⟨by decide +kernel, ftX9_ok⟩
set_option maxRecDepth 20000 in
theorem k_X9_insert : LKV z_X9_insert 2 := ⟨⟨ALL_at 1379 (by decide +kernel) rfl, (inALL_at 125 (by decide +kernel) rfl), by decide +kernel⟩, (inALL_at 1378 (by decide +kernel) rfl), (inALL_at 30 (by decide +kernel) rfl)⟩
def z_X9_single : MZ := (yX9_single, cX9_single, 2, none, [(0, .aload_n 0, 1), (1, .iload_n 1, 1), (2, .iconst 5, 1), (3, .iconst (-1), 1), (4, .invokevirtual 94, 3), (7, .aload_n 0, 1), (8, .iload_n 1, 1), (9, .bipush 6, 2), (11, .iconst (-1), 1), (12, .invokevirtual 94, 3), (15, .aload_n 0, 1), (16, .iload_n 1, 1), (17, .bipush 7, 2), (19, .iconst (-1), 1), (20, .invokevirtual 94, 3), (23, .aload_n 0, 1), (24, .iload_n 1, 1), (25, .bipush 8, 2), (27, .iconst 1, 1), (28, .invokevirtual 94, 3), (31, .return_, 1)], ftX9)
set_option maxRecDepth 20000 in
theorem zo_X9_single : ZOK z_X9_single := ⟨by decide +kernel, ftX9_ok⟩
set_option maxRecDepth 20000 in
theorem k_X9_single : LKV z_X9_single 1 := ⟨⟨ALL_at 1383 (by decide +kernel) rfl, (inALL_at 125 (by decide +kernel) rfl), by decide +kernel⟩, (inALL_at 1382 (by decide +kernel) rfl), (inALL_at 31 (by decide +kernel) rfl)⟩
def z_X9_rootOf : MZ := (yX9_rootOf, cX9_rootOf, 2, (some .int), [(0, .aload_n 0, 1), (1, .getfield 9, 3), (4, .iload_n 1, 1), (5, .invokestatic 77, 3), (8, .bipush 9, 2), (10, .iadd, 1), (11, .iaload, 1), (12, .ireturn, 1)], ftX9)
set_option maxRecDepth 20000 in
theorem zo_X9_rootOf : ZOK z_X9_rootOf := ⟨by decide +kernel, ftX9_ok⟩
set_option maxRecDepth 20000 in
theorem k_X9_rootOf : LKV z_X9_rootOf 1 := ⟨⟨ALL_at 1387 (by decide +kernel) rfl, (inALL_at 125 (by decide +kernel) rfl), by decide +kernel⟩, (inALL_at 1386 (by decide +kernel) rfl), (inALL_at 32 (by decide +kernel) rfl)⟩
def z_X9_merge : MZ := (yX9_merge, cX9_merge, 7, (some .int), [(0, .iload_n 1, 1), (1, .iconst (-1), 1), (2, .if_icmp .ne 5, 3), (5, .iload_n 2, 1), (6, .ireturn, 1), (7, .iload_n 2, 1), (8, .iconst (-1), 1), (9, .if_icmp .ne 5, 3), (12, .iload_n 1, 1), (13, .ireturn, 1), (14, .aload_n 0, 1), (15, .getfield 9, 3), (18, .iconst 3, 1), (19, .dup2, 1), (20, .iaload, 1), (21, .iconst 1, 1), (22, .iadd, 1), (23, .iastore, 1), (24, .aload_n 0, 1), (25, .iload_n 1, 1), (26, .iload_n 2, 1), (27, .invokevirtual 101, 3), (30, .istore_n 3, 1), (31, .iload_n 3, 1), (32, .ifCond .eq 7, 3), (35, .iload_n 1, 1), (36, .goto 4, 3), (39, .iload_n 2, 1), (40, .istore 4, 2), (42, .iload_n 3, 1), (43, .ifCond .eq 7, 3), (46, .iload_n 2, 1), (47, .goto 4, 3), (50, .iload_n 1, 1), (51, .istore 5, 2), (53, .aload_n 0, 1), (54, .aload_n 0, 1), (55, .iload 4, 2), (57, .bipush 6, 2), (59, .invokevirtual 90, 3), (62, .iload 5, 2), (64, .invokevirtual 105, 3), (67, .istore 6, 2), (69, .aload_n 0, 1), (70, .iload 4, 2), (72, .bipush 6, 2), (74, .iload 6, 2), (76, .invokevirtual 108, 3), (79, .aload_n 0, 1), (80, .iload 4, 2), (82, .invokevirtual 111, 3), (85, .iload 4, 2), (87, .ireturn, 1)], ftX9)
set_option maxRecDepth 20000 in
theorem zo_X9_merge : ZOK z_X9_merge := ⟨by decide +kernel, ftX9_ok⟩
set_option maxRecDepth 20000 in
theorem k_X9_merge : LKV z_X9_merge 2 := ⟨⟨ALL_at 1391 (by decide +kernel) rfl, (inALL_at 125 (by decide +kernel) rfl), by decide +kernel⟩, (inALL_at 1390 (by decide +kernel) rfl), (inALL_at 33 (by decide +kernel) rfl)⟩
def z_X9_precedes : MZ := (yX9_precedes, cX9_precedes, 4, (some .boolean), [(0, .aload_n 0, 1), (1, .iload_n 2, 1), (2, .iconst 1, 1), (3, .invokevirtual 90, 3), (6, .aload_n 0, 1), (7, .iload_n 1, 1), (8, .iconst 1, 1), (9, .invokevirtual 90, 3), (12, .isub, 1), (13, .istore_n 3, 1), (14, .iload_n 3, 1), (15, .ifCond .gt 12, 3), (18, .iload_n 3, 1), (19, .ifCond .ne 12, 3), (22, .iload_n 1, 1), (23, .iload_n 2, 1), (24, .if_icmp .ge 7, 3), (27, .iconst 1, 1), (28, .goto 4, 3), (31, .iconst 0, 1), (32, .ireturn, 1)], ftX9)
set_option maxRecDepth 20000 in
theorem zo_X9_precedes : ZOK z_X9_precedes := ⟨by decide +kernel, ftX9_ok⟩
set_option maxRecDepth 20000 in
theorem k_X9_precedes : LKV z_X9_precedes 2 := ⟨⟨ALL_at 1395 (by decide +kernel) rfl, (inALL_at 125 (by decide +kernel) rfl), by decide +kernel⟩, (inALL_at 1394 (by decide +kernel) rfl), (inALL_at 34 (by decide +kernel) rfl)⟩
def z_X9_get : MZ := (yX9_get, cX9_get, 3, (some .int), [(0, .aload_n 0, 1), (1, .getfield 9, 3), (4, .iload_n 1, 1), (5, .invokestatic 70, 3), (8, .iload_n 2, 1), (9, .iadd, 1), (10, .iaload, 1), (11, .ireturn, 1)], ftX9)
set_option maxRecDepth 20000 in
theorem zo_X9_get : ZOK z_X9_get := ⟨by decide +kernel, ftX9_ok⟩
set_option maxRecDepth 20000 in
theorem k_X9_get : LKV z_X9_get 2 := ⟨⟨ALL_at 1399 (by decide +kernel) rfl, (inALL_at 125 (by decide +kernel) rfl), by decide +kernel⟩, (inALL_at 1398 (by decide +kernel) rfl), (inALL_at 35 (by decide +kernel) rfl)⟩
def z_X9_link : MZ := (yX9_link, cX9_link, 4, none, [(0, .aload_n 0, 1), (1, .iload_n 1, 1), (2, .iload_n 2, 1), (3, .iload_n 3, 1), (4, .invokevirtual 94, 3), (7, .iload_n 3, 1), (8, .iconst (-1), 1), (9, .if_icmp .eq 11, 3), (12, .aload_n 0, 1), (13, .iload_n 3, 1), (14, .bipush 7, 2), (16, .iload_n 1, 1), (17, .invokevirtual 94, 3), (20, .return_, 1)], ftX9)
set_option maxRecDepth 20000 in
theorem zo_X9_link : ZOK z_X9_link := ⟨by decide +kernel, ftX9_ok⟩
set_option maxRecDepth 20000 in
theorem k_X9_link : LKV z_X9_link 3 := ⟨⟨ALL_at 1403 (by decide +kernel) rfl, (inALL_at 125 (by decide +kernel) rfl), by decide +kernel⟩, (inALL_at 1402 (by decide +kernel) rfl), (inALL_at 36 (by decide +kernel) rfl)⟩
def z_X9_repair : MZ := (yX9_repair, cX9_repair, 4, none, [(0, .aload_n 0, 1), (1, .iload_n 1, 1), (2, .iconst 5, 1), (3, .invokevirtual 90, 3), (6, .istore_n 2, 1), (7, .aload_n 0, 1), (8, .iload_n 1, 1), (9, .bipush 6, 2), (11, .invokevirtual 90, 3), (14, .istore_n 3, 1), (15, .aload_n 0, 1), (16, .iload_n 2, 1), (17, .invokevirtual 98, 3), (20, .aload_n 0, 1), (21, .iload_n 3, 1), (22, .invokevirtual 98, 3), (25, .if_icmp .ge 28, 3), (28, .aload_n 0, 1), (29, .iload_n 1, 1), (30, .iconst 5, 1), (31, .iload_n 3, 1), (32, .invokevirtual 94, 3), (35, .aload_n 0, 1), (36, .iload_n 1, 1), (37, .bipush 6, 2), (39, .iload_n 2, 1), (40, .invokevirtual 94, 3), (43, .aload_n 0, 1), (44, .getfield 9, 3), (47, .iconst 4, 1), (48, .dup2, 1), (49, .iaload, 1), (50, .iconst 1, 1), (51, .iadd, 1), (52, .iastore, 1), (53, .aload_n 0, 1), (54, .iload_n 1, 1), (55, .bipush 8, 2), (57, .iconst 1, 1), (58, .aload_n 0, 1), (59, .aload_n 0, 1), (60, .iload_n 1, 1), (61, .bipush 6, 2), (63, .invokevirtual 90, 3), (66, .invokevirtual 98, 3), (69, .iadd, 1), (70, .invokevirtual 94, 3), (73, .return_, 1)], ftX9)
set_option maxRecDepth 20000 in
theorem zo_X9_repair : ZOK z_X9_repair := ⟨by decide +kernel, ftX9_ok⟩
set_option maxRecDepth 20000 in
theorem k_X9_repair : LKV z_X9_repair 1 := ⟨⟨ALL_at 1407 (by decide +kernel) rfl, (inALL_at 125 (by decide +kernel) rfl), by decide +kernel⟩, (inALL_at 1406 (by decide +kernel) rfl), (inALL_at 37 (by decide +kernel) rfl)⟩
def z_X9_rankOf : MZ := (yX9_rankOf, cX9_rankOf, 2, (some .int), [(0, .iload_n 1, 1), (1, .iconst (-1), 1), (2, .if_icmp .ne 7, 3), (5, .iconst 0, 1), (6, .goto 10, 3), (9, .aload_n 0, 1), (10, .iload_n 1, 1), (11, .bipush 8, 2), (13, .invokevirtual 90, 3), (16, .ireturn, 1)], ftX9)
set_option maxRecDepth 20000 in
theorem zo_X9_rankOf : ZOK z_X9_rankOf := ⟨by decide +kernel, ftX9_ok⟩
set_option maxRecDepth 20000 in
theorem k_X9_rankOf : LKV z_X9_rankOf 1 := ⟨⟨ALL_at 1411 (by decide +kernel) rfl, (inALL_at 125 (by decide +kernel) rfl), by decide +kernel⟩, (inALL_at 1410 (by decide +kernel) rfl), (inALL_at 38 (by decide +kernel) rfl)⟩
def z_X9_setRoot : MZ := (yX9_setRoot, cX9_setRoot, 3, none, [(0, .aload_n 0, 1), (1, .getfield 9, 3), (4, .iload_n 1, 1), (5, .invokestatic 77, 3), (8, .bipush 9, 2), (10, .iadd, 1), (11, .iload_n 2, 1), (12, .iastore, 1), (13, .iload_n 2, 1), (14, .iconst (-1), 1), (15, .if_icmp .eq 11, 3), (18, .aload_n 0, 1), (19, .iload_n 2, 1), (20, .bipush 7, 2), (22, .iconst (-1), 1), (23, .invokevirtual 94, 3), (26, .return_, 1)], ftX9)
set_option maxRecDepth 20000 in
theorem zo_X9_setRoot : ZOK z_X9_setRoot := ⟨by decide +kernel, ftX9_ok⟩
set_option maxRecDepth 20000 in
theorem k_X9_setRoot : LKV z_X9_setRoot 2 := ⟨⟨ALL_at 1415 (by decide +kernel) rfl, (inALL_at 125 (by decide +kernel) rfl), by decide +kernel⟩, (inALL_at 1414 (by decide +kernel) rfl), (inALL_at 39 (by decide +kernel) rfl)⟩
def z_X9_clearCounters : MZ := (yX9_clearCounters, cX9_clearCounters, 1, none, [(0, .aload_n 0, 1), (1, .getfield 9, 3), (4, .iconst 3, 1), (5, .iconst 0, 1), (6, .iastore, 1), (7, .aload_n 0, 1), (8, .getfield 9, 3), (11, .iconst 4, 1), (12, .iconst 0, 1), (13, .iastore, 1), (14, .return_, 1)], ftX9)
set_option maxRecDepth 20000 in
theorem zo_X9_clearCounters : ZOK z_X9_clearCounters := ⟨by decide +kernel, ftX9_ok⟩
set_option maxRecDepth 20000 in
theorem k_X9_clearCounters : LKV z_X9_clearCounters 0 := ⟨⟨ALL_at 1419 (by decide +kernel) rfl, (inALL_at 125 (by decide +kernel) rfl), by decide +kernel⟩, (inALL_at 1418 (by decide +kernel) rfl), (inALL_at 40 (by decide +kernel) rfl)⟩
def z_X9_thrown : MZ := (yX9_thrown, cX9_thrown, 1, (some .int), [(0, .aload_n 0, 1), (1, .getfield 67, 3), (4, .ireturn, 1)], ftX9)
set_option maxRecDepth 20000 in
theorem zo_X9_thrown : ZOK z_X9_thrown := ⟨by decide +kernel, ftX9_ok⟩
set_option maxRecDepth 20000 in
theorem k_X9_thrown : LKV z_X9_thrown 0 := ⟨⟨ALL_at 1496 (by decide +kernel) rfl, (inALL_at 125 (by decide +kernel) rfl), by decide +kernel⟩, (inALL_at 1494 (by decide +kernel) rfl), (inALL_at 1495 (by decide +kernel) rfl)⟩
def z_X9_appendInput : MZ := (yX9_appendInput, cX9_appendInput, 6, (some .int), [(0, .aload_n 0, 1), (1, .iconst 0, 1), (2, .putfield 67, 3), (5, .aload_n 0, 1), (6, .getfield 146, 3), (9, .sipush 580, 3), (12, .if_icmp .le 5, 3), (15, .iconst (-1), 1), (16, .ireturn, 1), (17, .aload_n 0, 1), (18, .iload_n 1, 1), (19, .invokevirtual 149, 3), (22, .aload_n 0, 1), (23, .iload_n 2, 1), (24, .invokevirtual 149, 3), (27, .aload_n 0, 1), (28, .iload_n 3, 1), (29, .invokevirtual 149, 3), (32, .aload_n 0, 1), (33, .iload 4, 2), (35, .invokevirtual 149, 3), (38, .aload_n 0, 1), (39, .iload 5, 2), (41, .invokevirtual 149, 3), (44, .aload_n 0, 1), (45, .getfield 146, 3), (48, .ireturn, 1)], ftX9)
set_option maxRecDepth 20000 in
theorem zo_X9_appendInput : ZOK z_X9_appendInput := ⟨by decide +kernel, ftX9_ok⟩
set_option maxRecDepth 20000 in
theorem k_X9_appendInput : LKV z_X9_appendInput 5 := ⟨⟨ALL_at 1500 (by decide +kernel) rfl, (inALL_at 125 (by decide +kernel) rfl), by decide +kernel⟩, (inALL_at 1498 (by decide +kernel) rfl), (inALL_at 1499 (by decide +kernel) rfl)⟩
def z_X9_appendWord : MZ := (yX9_appendWord, cX9_appendWord, 3, none, [(0, .iconst 3, 1), (1, .istore_n 2, 1), (2, .iload_n 2, 1), (3, .ifCond .lt 35, 3), (6, .aload_n 0, 1), (7, .getfield 25, 3), (10, .aload_n 0, 1), (11, .getfield 146, 3), (14, .iload_n 1, 1), (15, .bipush 8, 2), (17, .iload_n 2, 1), (18, .imul, 1), (19, .ishr, 1), (20, .i2b, 1), (21, .bastore, 1), (22, .aload_n 0, 1), (23, .dup, 1), (24, .getfield 146, 3), (27, .iconst 1, 1), (28, .iadd, 1), (29, .putfield 146, 3), (32, .iinc 2 (-1), 3), (35, .goto (-33), 3), (38, .return_, 1)], ftX9)
set_option maxRecDepth 20000 in
theorem zo_X9_appendWord : ZOK z_X9_appendWord := ⟨by decide +kernel, ftX9_ok⟩
set_option maxRecDepth 20000 in
theorem k_X9_appendWord : LKV z_X9_appendWord 1 := ⟨⟨ALL_at 1504 (by decide +kernel) rfl, (inALL_at 125 (by decide +kernel) rfl), by decide +kernel⟩, (inALL_at 1503 (by decide +kernel) rfl), (inALL_at 41 (by decide +kernel) rfl)⟩
def z_X9_truncateInput : MZ := (yX9_truncateInput, cX9_truncateInput, 2, (some .boolean), [(0, .aload_n 0, 1), (1, .iconst 0, 1), (2, .putfield 67, 3), (5, .iload_n 1, 1), (6, .i2l, 1), (7, .lconst 0, 1), (8, .aload_n 0, 1), (9, .getfield 146, 3), (12, .i2l, 1), (13, .invokestatic 152, 3), (16, .ifCond .ne 5, 3), (19, .iconst 0, 1), (20, .ireturn, 1), (21, .aload_n 0, 1), (22, .iload_n 1, 1), (23, .putfield 146, 3), (26, .iconst 1, 1), (27, .ireturn, 1)], ftX9)
set_option maxRecDepth 20000 in
theorem zo_X9_truncateInput : ZOK z_X9_truncateInput := ⟨by decide +kernel, ftX9_ok⟩
set_option maxRecDepth 20000 in
theorem k_X9_truncateInput : LKV z_X9_truncateInput 1 := ⟨⟨ALL_at 1508 (by decide +kernel) rfl, (inALL_at 125 (by decide +kernel) rfl), by decide +kernel⟩, (inALL_at 1506 (by decide +kernel) rfl), (inALL_at 1507 (by decide +kernel) rfl)⟩
def z_X9_isWithin : MZ := (yX9_isWithin, cX9_isWithin, 6, (some .boolean), [(0, .lload_n 0, 1), (1, .lload_n 2, 1), (2, .lcmp, 1), (3, .ifCond .lt 14, 3), (6, .lload_n 0, 1), (7, .lload 4, 2), (9, .lcmp, 1), (10, .ifCond .gt 7, 3), (13, .iconst 1, 1), (14, .goto 4, 3), (17, .iconst 0, 1), (18, .ireturn, 1)], ftX9)
set_option maxRecDepth 20000 in
theorem zo_X9_isWithin : ZOK z_X9_isWithin := ⟨by decide +kernel, ftX9_ok⟩
set_option maxRecDepth 20000 in
theorem k_X9_isWithin : LKS z_X9_isWithin 3 := ⟨⟨ALL_at 1511 (by decide +kernel) rfl, (inALL_at 125 (by decide +kernel) rfl), by decide +kernel⟩, (inALL_at 1510 (by decide +kernel) rfl)⟩
def z_X9_errorCode : MZ := (yX9_errorCode, cX9_errorCode, 1, (some .int), [(0, .aload_n 0, 1), (1, .iconst 0, 1), (2, .putfield 67, 3), (5, .aload_n 0, 1), (6, .getfield 156, 3), (9, .ireturn, 1)], ftX9)
set_option maxRecDepth 20000 in
theorem zo_X9_errorCode : ZOK z_X9_errorCode := ⟨by decide +kernel, ftX9_ok⟩
set_option maxRecDepth 20000 in
theorem k_X9_errorCode : LKV z_X9_errorCode 0 := ⟨⟨ALL_at 1515 (by decide +kernel) rfl, (inALL_at 125 (by decide +kernel) rfl), by decide +kernel⟩, (inALL_at 1513 (by decide +kernel) rfl), (inALL_at 1514 (by decide +kernel) rfl)⟩
def z_X9_errorOffset : MZ := (yX9_errorOffset, cX9_errorOffset, 1, (some .int), [(0, .aload_n 0, 1), (1, .iconst 0, 1), (2, .putfield 67, 3), (5, .aload_n 0, 1), (6, .getfield 29, 3), (9, .ireturn, 1)], ftX9)
set_option maxRecDepth 20000 in
theorem zo_X9_errorOffset : ZOK z_X9_errorOffset := ⟨by decide +kernel, ftX9_ok⟩
set_option maxRecDepth 20000 in
theorem k_X9_errorOffset : LKV z_X9_errorOffset 0 := ⟨⟨ALL_at 1519 (by decide +kernel) rfl, (inALL_at 125 (by decide +kernel) rfl), by decide +kernel⟩, (inALL_at 1517 (by decide +kernel) rfl), (inALL_at 1518 (by decide +kernel) rfl)⟩
def z_X9_loadSetup : MZ := (yX9_loadSetup, cX9_loadSetup, 1, (some .int), [(0, .aload_n 0, 1), (1, .iconst 0, 1), (2, .putfield 67, 3), (5, .aload_n 0, 1), (6, .aload_n 0, 1), (7, .getfield 13, 3), (10, .invokevirtual 246, 3), (13, .aload_n 0, 1), (14, .invokevirtual 250, 3), (17, .aload_n 0, 1), (18, .invokevirtual 253, 3), (21, .aload_n 0, 1), (22, .getfield 167, 3), (25, .ifCond .ne 17, 3), (28, .aload_n 0, 1), (29, .getfield 176, 3), (32, .ifCond .eq 10, 3), (35, .aload_n 0, 1), (36, .invokevirtual 256, 3), (39, .goto (-18), 3), (42, .aload_n 0, 1), (43, .aload_n 0, 1), (44, .getfield 9, 3), (47, .iconst 0, 1), (48, .iaload, 1), (49, .ifCond .le 16, 3), (52, .aload_n 0, 1), (53, .getfield 9, 3), (56, .iconst 1, 1), (57, .iaload, 1), (58, .ifCond .le 7, 3), (61, .iconst 1, 1), (62, .goto 4, 3), (65, .iconst 0, 1), (66, .iconst 5, 1), (67, .invokevirtual 197, 3), (70, .aload_n 0, 1), (71, .invokevirtual 259, 3), (74, .aload_n 0, 1), (75, .getfield 167, 3), (78, .ifCond .le 13, 3), (81, .aload_n 0, 1), (82, .aload_n 0, 1), (83, .getfield 13, 3), (86, .invokevirtual 262, 3), (89, .iconst (-1), 1), (90, .ireturn, 1), (91, .aload_n 0, 1), (92, .invokevirtual 64, 3), (95, .aload_n 0, 1), (96, .iconst 0, 1), (97, .putfield 74, 3), (100, .aload_n 0, 1), (101, .iconst 0, 1), (102, .putfield 265, 3), (105, .aload_n 0, 1), (106, .getfield 9, 3), (109, .iconst 2, 1), (110, .iaload, 1), (111, .ireturn, 1)], ftX9)
set_option maxRecDepth 20000 in
theorem zo_X9_loadSetup : ZOK z_X9_loadSetup := ⟨by decide +kernel, ftX9_ok⟩
set_option maxRecDepth 20000 in
theorem k_X9_loadSetup : LKV z_X9_loadSetup 0 := ⟨⟨ALL_at 1523 (by decide +kernel) rfl, (inALL_at 125 (by decide +kernel) rfl), by decide +kernel⟩, (inALL_at 1521 (by decide +kernel) rfl), (inALL_at 1522 (by decide +kernel) rfl)⟩
def z_X9_copyTo : MZ := (yX9_copyTo, cX9_copyTo, 3, none, [(0, .iconst 0, 1), (1, .istore_n 2, 1), (2, .iload_n 2, 1), (3, .sipush 500, 3), (6, .if_icmp .ge 18, 3), (9, .aload_n 1, 1), (10, .iload_n 2, 1), (11, .aload_n 0, 1), (12, .getfield 9, 3), (15, .iload_n 2, 1), (16, .iaload, 1), (17, .iastore, 1), (18, .iinc 2 1, 3), (21, .goto (-19), 3), (24, .return_, 1)], ftX9)
set_option maxRecDepth 20000 in
theorem zo_X9_copyTo : ZOK z_X9_copyTo := ⟨by decide +kernel, ftX9_ok⟩
set_option maxRecDepth 20000 in
theorem k_X9_copyTo : LKV z_X9_copyTo 1 := ⟨⟨ALL_at 1527 (by decide +kernel) rfl, (inALL_at 125 (by decide +kernel) rfl), by decide +kernel⟩, (inALL_at 1526 (by decide +kernel) rfl), (inALL_at 42 (by decide +kernel) rfl)⟩
def z_X9_clear : MZ := (yX9_clear, cX9_clear, 2, none, [(0, .iconst 0, 1), (1, .istore_n 1, 1), (2, .iload_n 1, 1), (3, .sipush 500, 3), (6, .if_icmp .ge 16, 3), (9, .aload_n 0, 1), (10, .getfield 9, 3), (13, .iload_n 1, 1), (14, .iconst 0, 1), (15, .iastore, 1), (16, .iinc 1 1, 3), (19, .goto (-17), 3), (22, .return_, 1)], ftX9)
set_option maxRecDepth 20000 in
theorem zo_X9_clear : ZOK z_X9_clear := ⟨by decide +kernel, ftX9_ok⟩
set_option maxRecDepth 20000 in
theorem k_X9_clear : LKV z_X9_clear 0 := ⟨⟨ALL_at 1531 (by decide +kernel) rfl, (inALL_at 125 (by decide +kernel) rfl), by decide +kernel⟩, (inALL_at 1530 (by decide +kernel) rfl), (inALL_at 43 (by decide +kernel) rfl)⟩
def z_X9_beginText : MZ := (yX9_beginText, cX9_beginText, 1, none, [(0, .aload_n 0, 1), (1, .iconst 0, 1), (2, .putfield 167, 3), (5, .aload_n 0, 1), (6, .iconst 0, 1), (7, .putfield 170, 3), (10, .aload_n 0, 1), (11, .invokevirtual 191, 3), (14, .return_, 1)], ftX9)
set_option maxRecDepth 20000 in
theorem zo_X9_beginText : ZOK z_X9_beginText := ⟨by decide +kernel, ftX9_ok⟩
set_option maxRecDepth 20000 in
theorem k_X9_beginText : LKV z_X9_beginText 0 := ⟨⟨ALL_at 1535 (by decide +kernel) rfl, (inALL_at 125 (by decide +kernel) rfl), by decide +kernel⟩, (inALL_at 1534 (by decide +kernel) rfl), (inALL_at 44 (by decide +kernel) rfl)⟩
def z_X9_advanceToken : MZ := (yX9_advanceToken, cX9_advanceToken, 1, none, [(0, .aload_n 0, 1), (1, .getfield 167, 3), (4, .ifCond .le 4, 3), (7, .return_, 1), (8, .aload_n 0, 1), (9, .aload_n 0, 1), (10, .getfield 170, 3), (13, .putfield 173, 3), (16, .aload_n 0, 1), (17, .getfield 173, 3), (20, .aload_n 0, 1), (21, .getfield 146, 3), (24, .if_icmp .ge 44, 3), (27, .aload_n 0, 1), (28, .getfield 25, 3), (31, .aload_n 0, 1), (32, .getfield 173, 3), (35, .baload, 1), (36, .bipush 32, 2), (38, .if_icmp .eq 17, 3), (41, .aload_n 0, 1), (42, .getfield 25, 3), (45, .aload_n 0, 1), (46, .getfield 173, 3), (49, .baload, 1), (50, .bipush 10, 2), (52, .if_icmp .ne 16, 3), (55, .aload_n 0, 1), (56, .dup, 1), (57, .getfield 173, 3), (60, .iconst 1, 1), (61, .iadd, 1), (62, .putfield 173, 3), (65, .goto (-49), 3), (68, .aload_n 0, 1), (69, .aload_n 0, 1), (70, .getfield 173, 3), (73, .putfield 170, 3), (76, .aload_n 0, 1), (77, .getfield 173, 3), (80, .aload_n 0, 1), (81, .getfield 146, 3), (84, .if_icmp .ne 11, 3), (87, .aload_n 0, 1), (88, .iconst 0, 1), (89, .putfield 176, 3), (92, .goto 206, 3), (95, .aload_n 0, 1), (96, .aload_n 0, 1), (97, .getfield 173, 3), (100, .invokevirtual 179, 3), (103, .ifCond .eq 53, 3), (106, .aload_n 0, 1), (107, .aload_n 0, 1), (108, .getfield 170, 3), (111, .invokevirtual 179, 3), (114, .ifCond .eq 16, 3), (117, .aload_n 0, 1), (118, .dup, 1), (119, .getfield 170, 3), (122, .iconst 1, 1), (123, .iadd, 1), (124, .putfield 170, 3), (127, .goto (-21), 3), (130, .aload_n 0, 1), (131, .aload_n 0, 1), (132, .getfield 170, 3), (135, .aload_n 0, 1), (136, .getfield 173, 3), (139, .isub, 1), (140, .bipush 8, 2), (142, .if_icmp .le 7, 3), (145, .iconst 4, 1), (146, .goto 4, 3), (149, .iconst 1, 1), (150, .putfield 176, 3), (153, .goto 145, 3), (156, .aload_n 0, 1), (157, .aload_n 0, 1), (158, .getfield 173, 3), (161, .invokevirtual 182, 3), (164, .ifCond .eq 101, 3), (167, .aload_n 0, 1), (168, .iconst 0, 1), (169, .putfield 185, 3), (172, .aload_n 0, 1), (173, .aload_n 0, 1), (174, .getfield 170, 3), (177, .invokevirtual 182, 3), (180, .ifCond .eq 60, 3), (183, .aload_n 0, 1), (184, .aload_n 0, 1), (185, .getfield 170, 3), (188, .aload_n 0, 1), (189, .getfield 173, 3), (192, .isub, 1), (193, .iconst 3, 1), (194, .if_icmp .ge 26, 3), (197, .bipush 10, 2), (199, .aload_n 0, 1), (200, .getfield 185, 3), (203, .imul, 1), (204, .aload_n 0, 1), (205, .getfield 25, 3), (208, .aload_n 0, 1), (209, .getfield 170, 3), (212, .baload, 1), (213, .iadd, 1), (214, .bipush 48, 2), (216, .isub, 1), (217, .goto 7, 3), (220, .aload_n 0, 1), (221, .getfield 185, 3), (224, .putfield 185, 3), (227, .aload_n 0, 1), (228, .dup, 1), (229, .getfield 170, 3), (232, .iconst 1, 1), (233, .iadd, 1), (234, .putfield 170, 3), (237, .goto (-65), 3), (240, .aload_n 0, 1), (241, .aload_n 0, 1), (242, .getfield 170, 3), (245, .aload_n 0, 1), (246, .getfield 173, 3), (249, .isub, 1), (250, .iconst 3, 1), (251, .if_icmp .le 7, 3), (254, .iconst 4, 1), (255, .goto 4, 3), (258, .iconst 2, 1), (259, .putfield 176, 3), (262, .goto 36, 3), (265, .aload_n 0, 1), (266, .aload_n 0, 1), (267, .getfield 25, 3), (270, .aload_n 0, 1), (271, .getfield 173, 3), (274, .baload, 1), (275, .bipush 59, 2), (277, .if_icmp .ne 7, 3), (280, .iconst 3, 1), (281, .goto 4, 3), (284, .iconst 4, 1), (285, .putfield 176, 3), (288, .aload_n 0, 1), (289, .dup, 1), (290, .getfield 170, 3), (293, .iconst 1, 1), (294, .iadd, 1), (295, .putfield 170, 3), (298, .return_, 1)], ftX9)
set_option maxRecDepth 20000 in
theorem zo_X9_advanceToken : ZOK z_X9_advanceToken := ⟨by decide +kernel, ftX9_ok⟩
set_option maxRecDepth 20000 in
theorem k_X9_advanceToken : LKV z_X9_advanceToken 0 := ⟨⟨ALL_at 1539 (by decide +kernel) rfl, (inALL_at 125 (by decide +kernel) rfl), by decide +kernel⟩, (inALL_at 1538 (by decide +kernel) rfl), (inALL_at 45 (by decide +kernel) rfl)⟩
def z_X9_isLetter : MZ := (yX9_isLetter, cX9_isLetter, 2, (some .boolean), [(0, .iload_n 1, 1), (1, .aload_n 0, 1), (2, .getfield 146, 3), (5, .if_icmp .ge 26, 3), (8, .aload_n 0, 1), (9, .getfield 25, 3), (12, .iload_n 1, 1), (13, .baload, 1), (14, .i2l, 1), (15, .ldc2_w 159, 3), (18, .ldc2_w 161, 3), (21, .invokestatic 152, 3), (24, .ifCond .eq 7, 3), (27, .iconst 1, 1), (28, .goto 4, 3), (31, .iconst 0, 1), (32, .ireturn, 1)], ftX9)
set_option maxRecDepth 20000 in
theorem zo_X9_isLetter : ZOK z_X9_isLetter := ⟨by decide +kernel, ftX9_ok⟩
set_option maxRecDepth 20000 in
theorem k_X9_isLetter : LKV z_X9_isLetter 1 := ⟨⟨ALL_at 1543 (by decide +kernel) rfl, (inALL_at 125 (by decide +kernel) rfl), by decide +kernel⟩, (inALL_at 1542 (by decide +kernel) rfl), (inALL_at 46 (by decide +kernel) rfl)⟩
def z_X9_isDigit : MZ := (yX9_isDigit, cX9_isDigit, 2, (some .boolean), [(0, .iload_n 1, 1), (1, .aload_n 0, 1), (2, .getfield 146, 3), (5, .if_icmp .ge 26, 3), (8, .aload_n 0, 1), (9, .getfield 25, 3), (12, .iload_n 1, 1), (13, .baload, 1), (14, .i2l, 1), (15, .ldc2_w 163, 3), (18, .ldc2_w 165, 3), (21, .invokestatic 152, 3), (24, .ifCond .eq 7, 3), (27, .iconst 1, 1), (28, .goto 4, 3), (31, .iconst 0, 1), (32, .ireturn, 1)], ftX9)
set_option maxRecDepth 20000 in
theorem zo_X9_isDigit : ZOK z_X9_isDigit := ⟨by decide +kernel, ftX9_ok⟩
set_option maxRecDepth 20000 in
theorem k_X9_isDigit : LKV z_X9_isDigit 1 := ⟨⟨ALL_at 1549 (by decide +kernel) rfl, (inALL_at 125 (by decide +kernel) rfl), by decide +kernel⟩, (inALL_at 1548 (by decide +kernel) rfl), (inALL_at 47 (by decide +kernel) rfl)⟩
def z_X9_parsePart : MZ := (yX9_parsePart, cX9_parsePart, 1, none, [(0, .aload_n 0, 1), (1, .ldc 224, 2), (3, .invokevirtual 226, 3), (6, .ifCond .eq 10, 3), (9, .aload_n 0, 1), (10, .invokevirtual 230, 3), (13, .goto 41, 3), (16, .aload_n 0, 1), (17, .ldc 233, 2), (19, .invokevirtual 226, 3), (22, .ifCond .eq 10, 3), (25, .aload_n 0, 1), (26, .invokevirtual 235, 3), (29, .goto 25, 3), (32, .aload_n 0, 1), (33, .ldc 238, 2), (35, .invokevirtual 226, 3), (38, .ifCond .eq 10, 3), (41, .aload_n 0, 1), (42, .invokevirtual 240, 3), (45, .goto 9, 3), (48, .aload_n 0, 1), (49, .iconst 0, 1), (50, .iconst 1, 1), (51, .invokevirtual 197, 3), (54, .aload_n 0, 1), (55, .invokevirtual 243, 3), (58, .return_, 1)], ftX9)
set_option maxRecDepth 20000 in
theorem zo_X9_parsePart : ZOK z_X9_parsePart := ⟨by decide +kernel, ftX9_ok⟩
set_option maxRecDepth 20000 in
theorem k_X9_parsePart : LKV z_X9_parsePart 0 := ⟨⟨ALL_at 1555 (by decide +kernel) rfl, (inALL_at 125 (by decide +kernel) rfl), by decide +kernel⟩, (inALL_at 1554 (by decide +kernel) rfl), (inALL_at 48 (by decide +kernel) rfl)⟩
def z_X9_isWord : MZ := (yX9_isWord, cX9_isWord, 3, (some .boolean), [(0, .aload_n 0, 1), (1, .getfield 167, 3), (4, .ifCond .gt 27, 3), (7, .aload_n 0, 1), (8, .getfield 176, 3), (11, .iconst 1, 1), (12, .if_icmp .ne 19, 3), (15, .aload_n 0, 1), (16, .getfield 170, 3), (19, .aload_n 0, 1), (20, .getfield 173, 3), (23, .isub, 1), (24, .aload_n 1, 1), (25, .invokevirtual 194, 3), (28, .if_icmp .eq 5, 3), (31, .iconst 0, 1), (32, .ireturn, 1), (33, .iconst 0, 1), (34, .istore_n 2, 1), (35, .iload_n 2, 1), (36, .aload_n 1, 1), (37, .invokevirtual 194, 3), (40, .if_icmp .ge 30, 3), (43, .aload_n 0, 1), (44, .getfield 25, 3), (47, .aload_n 0, 1), (48, .getfield 173, 3), (51, .iload_n 2, 1), (52, .iadd, 1), (53, .baload, 1), (54, .aload_n 1, 1), (55, .iload_n 2, 1), (56, .invokevirtual 44, 3), (59, .if_icmp .eq 5, 3), (62, .iconst 0, 1), (63, .ireturn, 1), (64, .iinc 2 1, 3), (67, .goto (-32), 3), (70, .iconst 1, 1), (71, .ireturn, 1)], ftX9)
set_option maxRecDepth 20000 in
theorem zo_X9_isWord : ZOK z_X9_isWord := ⟨by decide +kernel, ftX9_ok⟩
set_option maxRecDepth 20000 in
theorem k_X9_isWord : LKV z_X9_isWord 1 := ⟨⟨ALL_at 1560 (by decide +kernel) rfl, (inALL_at 125 (by decide +kernel) rfl), by decide +kernel⟩, (inALL_at 1559 (by decide +kernel) rfl), (inALL_at 49 (by decide +kernel) rfl)⟩
def z_X9_parseQueue : MZ := (yX9_parseQueue, cX9_parseQueue, 2, none, [(0, .aload_n 0, 1), (1, .aload_n 0, 1), (2, .getfield 9, 3), (5, .iconst 0, 1), (6, .iaload, 1), (7, .bipush 6, 2), (9, .if_icmp .ge 7, 3), (12, .iconst 1, 1), (13, .goto 4, 3), (16, .iconst 0, 1), (17, .iconst 4, 1), (18, .invokevirtual 197, 3), (21, .aload_n 0, 1), (22, .invokevirtual 191, 3), (25, .aload_n 0, 1), (26, .invokevirtual 201, 3), (29, .aload_n 0, 1), (30, .aload_n 0, 1), (31, .getfield 167, 3), (34, .ifCond .gt 11, 3), (37, .aload_n 0, 1), (38, .invokevirtual 204, 3), (41, .iconst (-1), 1), (42, .if_icmp .ne 7, 3), (45, .iconst 1, 1), (46, .goto 4, 3), (49, .iconst 0, 1), (50, .iconst 3, 1), (51, .invokevirtual 197, 3), (54, .aload_n 0, 1), (55, .invokevirtual 191, 3), (58, .aload_n 0, 1), (59, .iconst 1, 1), (60, .bipush 50, 2), (62, .invokevirtual 215, 3), (65, .istore_n 1, 1), (66, .aload_n 0, 1), (67, .getfield 167, 3), (70, .ifCond .ne 8, 3), (73, .aload_n 0, 1), (74, .iload_n 1, 1), (75, .invokevirtual 53, 3), (78, .return_, 1)], ftX9)
set_option maxRecDepth 20000 in
theorem zo_X9_parseQueue : ZOK z_X9_parseQueue := ⟨by decide +kernel, ftX9_ok⟩
set_option maxRecDepth 20000 in
theorem k_X9_parseQueue : LKV z_X9_parseQueue 0 := ⟨⟨ALL_at 1565 (by decide +kernel) rfl, (inALL_at 125 (by decide +kernel) rfl), by decide +kernel⟩, (inALL_at 1564 (by decide +kernel) rfl), (inALL_at 50 (by decide +kernel) rfl)⟩
def z_X9_expect : MZ := (yX9_expect, cX9_expect, 3, none, [(0, .aload_n 0, 1), (1, .getfield 167, 3), (4, .ifCond .ne 20, 3), (7, .iload_n 1, 1), (8, .ifCond .ne 16, 3), (11, .aload_n 0, 1), (12, .iload_n 2, 1), (13, .putfield 167, 3), (16, .aload_n 0, 1), (17, .aload_n 0, 1), (18, .getfield 173, 3), (21, .putfield 188, 3), (24, .return_, 1)], ftX9)
set_option maxRecDepth 20000 in
theorem zo_X9_expect : ZOK z_X9_expect := ⟨by decide +kernel, ftX9_ok⟩
set_option maxRecDepth 20000 in
theorem k_X9_expect : LKV z_X9_expect 2 := ⟨⟨ALL_at 1569 (by decide +kernel) rfl, (inALL_at 125 (by decide +kernel) rfl), by decide +kernel⟩, (inALL_at 1568 (by decide +kernel) rfl), (inALL_at 51 (by decide +kernel) rfl)⟩
def z_X9_spellName : MZ := (yX9_spellName, cX9_spellName, 2, none, [(0, .aload_n 0, 1), (1, .aload_n 0, 1), (2, .getfield 176, 3), (5, .iconst 1, 1), (6, .if_icmp .ne 21, 3), (9, .aload_n 0, 1), (10, .getfield 170, 3), (13, .aload_n 0, 1), (14, .getfield 173, 3), (17, .isub, 1), (18, .bipush 6, 2), (20, .if_icmp .gt 7, 3), (23, .iconst 1, 1), (24, .goto 4, 3), (27, .iconst 0, 1), (28, .iconst 1, 1), (29, .invokevirtual 197, 3), (32, .aload_n 0, 1), (33, .aload_n 0, 1), (34, .getfield 167, 3), (37, .ifCond .ne 15, 3), (40, .aload_n 0, 1), (41, .getfield 170, 3), (44, .aload_n 0, 1), (45, .getfield 173, 3), (48, .isub, 1), (49, .goto 4, 3), (52, .iconst 0, 1), (53, .putfield 50, 3), (56, .iconst 0, 1), (57, .istore_n 1, 1), (58, .iload_n 1, 1), (59, .aload_n 0, 1), (60, .getfield 50, 3), (63, .if_icmp .ge 26, 3), (66, .aload_n 0, 1), (67, .getfield 22, 3), (70, .iload_n 1, 1), (71, .aload_n 0, 1), (72, .getfield 25, 3), (75, .aload_n 0, 1), (76, .getfield 173, 3), (79, .iload_n 1, 1), (80, .iadd, 1), (81, .baload, 1), (82, .iastore, 1), (83, .iinc 1 1, 3), (86, .goto (-28), 3), (89, .return_, 1)], ftX9)
set_option maxRecDepth 20000 in
theorem zo_X9_spellName : ZOK z_X9_spellName := ⟨by decide +kernel, ftX9_ok⟩
set_option maxRecDepth 20000 in
theorem k_X9_spellName : LKV z_X9_spellName 0 := ⟨⟨ALL_at 1573 (by decide +kernel) rfl, (inALL_at 125 (by decide +kernel) rfl), by decide +kernel⟩, (inALL_at 1572 (by decide +kernel) rfl), (inALL_at 52 (by decide +kernel) rfl)⟩
def z_X9_spelledQueue : MZ := (yX9_spelledQueue, cX9_spelledQueue, 2, (some .int), [(0, .iconst 0, 1), (1, .istore_n 1, 1), (2, .iload_n 1, 1), (3, .aload_n 0, 1), (4, .getfield 9, 3), (7, .iconst 0, 1), (8, .iaload, 1), (9, .if_icmp .ge 22, 3), (12, .aload_n 0, 1), (13, .iload_n 1, 1), (14, .invokestatic 77, 3), (17, .invokevirtual 80, 3), (20, .ifCond .eq 5, 3), (23, .iload_n 1, 1), (24, .ireturn, 1), (25, .iinc 1 1, 3), (28, .goto (-26), 3), (31, .iconst (-1), 1), (32, .ireturn, 1)], ftX9)
set_option maxRecDepth 20000 in
theorem zo_X9_spelledQueue : ZOK z_X9_spelledQueue := ⟨by decide +kernel, ftX9_ok⟩
set_option maxRecDepth 20000 in
theorem k_X9_spelledQueue : LKV z_X9_spelledQueue 0 := ⟨⟨ALL_at 1577 (by decide +kernel) rfl, (inALL_at 125 (by decide +kernel) rfl), by decide +kernel⟩, (inALL_at 1576 (by decide +kernel) rfl), (inALL_at 53 (by decide +kernel) rfl)⟩
def z_X9_isSpelledAt : MZ := (yX9_isSpelledAt, cX9_isSpelledAt, 4, (some .boolean), [(0, .aload_n 0, 1), (1, .getfield 9, 3), (4, .iload_n 1, 1), (5, .iaload, 1), (6, .aload_n 0, 1), (7, .getfield 50, 3), (10, .if_icmp .ne 7, 3), (13, .iconst 1, 1), (14, .goto 4, 3), (17, .iconst 0, 1), (18, .istore_n 2, 1), (19, .iconst 0, 1), (20, .istore_n 3, 1), (21, .iload_n 3, 1), (22, .aload_n 0, 1), (23, .getfield 50, 3), (26, .if_icmp .ge 38, 3), (29, .iload_n 2, 1), (30, .ifCond .eq 34, 3), (33, .aload_n 0, 1), (34, .getfield 9, 3), (37, .iload_n 1, 1), (38, .iconst 1, 1), (39, .iadd, 1), (40, .iload_n 3, 1), (41, .iadd, 1), (42, .iaload, 1), (43, .aload_n 0, 1), (44, .getfield 22, 3), (47, .iload_n 3, 1), (48, .iaload, 1), (49, .if_icmp .ne 7, 3), (52, .iconst 1, 1), (53, .goto 4, 3), (56, .iconst 0, 1), (57, .istore_n 2, 1), (58, .iinc 3 1, 3), (61, .goto (-40), 3), (64, .iload_n 2, 1), (65, .ireturn, 1)], ftX9)
set_option maxRecDepth 20000 in
theorem zo_X9_isSpelledAt : ZOK z_X9_isSpelledAt := ⟨by decide +kernel, ftX9_ok⟩
set_option maxRecDepth 20000 in
theorem k_X9_isSpelledAt : LKV z_X9_isSpelledAt 1 := ⟨⟨ALL_at 1581 (by decide +kernel) rfl, (inALL_at 125 (by decide +kernel) rfl), by decide +kernel⟩, (inALL_at 1580 (by decide +kernel) rfl), (inALL_at 54 (by decide +kernel) rfl)⟩
def z_X9_parseNumber : MZ := (yX9_parseNumber, cX9_parseNumber, 4, (some .int), [(0, .aload_n 0, 1), (1, .aload_n 0, 1), (2, .getfield 176, 3), (5, .iconst 2, 1), (6, .if_icmp .ne 7, 3), (9, .iconst 1, 1), (10, .goto 4, 3), (13, .iconst 0, 1), (14, .iconst 1, 1), (15, .invokevirtual 197, 3), (18, .aload_n 0, 1), (19, .aload_n 0, 1), (20, .getfield 185, 3), (23, .i2l, 1), (24, .iload_n 1, 1), (25, .i2l, 1), (26, .iload_n 2, 1), (27, .i2l, 1), (28, .invokestatic 152, 3), (31, .iconst 2, 1), (32, .invokevirtual 197, 3), (35, .aload_n 0, 1), (36, .getfield 167, 3), (39, .ifCond .ne 10, 3), (42, .aload_n 0, 1), (43, .getfield 185, 3), (46, .goto 4, 3), (49, .iload_n 1, 1), (50, .istore_n 3, 1), (51, .aload_n 0, 1), (52, .invokevirtual 191, 3), (55, .iload_n 3, 1), (56, .ireturn, 1)], ftX9)
set_option maxRecDepth 20000 in
theorem zo_X9_parseNumber : ZOK z_X9_parseNumber := ⟨by decide +kernel, ftX9_ok⟩
set_option maxRecDepth 20000 in
theorem k_X9_parseNumber : LKV z_X9_parseNumber 2 := ⟨⟨ALL_at 1585 (by decide +kernel) rfl, (inALL_at 125 (by decide +kernel) rfl), by decide +kernel⟩, (inALL_at 1584 (by decide +kernel) rfl), (inALL_at 55 (by decide +kernel) rfl)⟩
def z_X9_parseOwner : MZ := (yX9_parseOwner, cX9_parseOwner, 1, none, [(0, .aload_n 0, 1), (1, .aload_n 0, 1), (2, .getfield 9, 3), (5, .iconst 1, 1), (6, .iaload, 1), (7, .bipush 8, 2), (9, .if_icmp .ge 7, 3), (12, .iconst 1, 1), (13, .goto 4, 3), (16, .iconst 0, 1), (17, .iconst 4, 1), (18, .invokevirtual 197, 3), (21, .aload_n 0, 1), (22, .invokevirtual 191, 3), (25, .aload_n 0, 1), (26, .invokevirtual 201, 3), (29, .aload_n 0, 1), (30, .aload_n 0, 1), (31, .getfield 167, 3), (34, .ifCond .gt 11, 3), (37, .aload_n 0, 1), (38, .invokevirtual 212, 3), (41, .iconst (-1), 1), (42, .if_icmp .ne 7, 3), (45, .iconst 1, 1), (46, .goto 4, 3), (49, .iconst 0, 1), (50, .iconst 3, 1), (51, .invokevirtual 197, 3), (54, .aload_n 0, 1), (55, .getfield 167, 3), (58, .ifCond .ne 7, 3), (61, .aload_n 0, 1), (62, .invokevirtual 57, 3), (65, .aload_n 0, 1), (66, .invokevirtual 191, 3), (69, .return_, 1)], ftX9)
set_option maxRecDepth 20000 in
theorem zo_X9_parseOwner : ZOK z_X9_parseOwner := ⟨by decide +kernel, ftX9_ok⟩
set_option maxRecDepth 20000 in
theorem k_X9_parseOwner : LKV z_X9_parseOwner 0 := ⟨⟨ALL_at 1590 (by decide +kernel) rfl, (inALL_at 125 (by decide +kernel) rfl), by decide +kernel⟩, (inALL_at 1589 (by decide +kernel) rfl), (inALL_at 56 (by decide +kernel) rfl)⟩
def z_X9_spelledOwner : MZ := (yX9_spelledOwner, cX9_spelledOwner, 2, (some .int), [(0, .iconst 0, 1), (1, .istore_n 1, 1), (2, .iload_n 1, 1), (3, .aload_n 0, 1), (4, .getfield 9, 3), (7, .iconst 1, 1), (8, .iaload, 1), (9, .if_icmp .ge 22, 3), (12, .aload_n 0, 1), (13, .iload_n 1, 1), (14, .invokestatic 84, 3), (17, .invokevirtual 80, 3), (20, .ifCond .eq 5, 3), (23, .iload_n 1, 1), (24, .ireturn, 1), (25, .iinc 1 1, 3), (28, .goto (-26), 3), (31, .iconst (-1), 1), (32, .ireturn, 1)], ftX9)
set_option maxRecDepth 20000 in
theorem zo_X9_spelledOwner : ZOK z_X9_spelledOwner := ⟨by decide +kernel, ftX9_ok⟩
set_option maxRecDepth 20000 in
theorem k_X9_spelledOwner : LKV z_X9_spelledOwner 0 := ⟨⟨ALL_at 1594 (by decide +kernel) rfl, (inALL_at 125 (by decide +kernel) rfl), by decide +kernel⟩, (inALL_at 1593 (by decide +kernel) rfl), (inALL_at 57 (by decide +kernel) rfl)⟩
def z_X9_parseJob : MZ := (yX9_parseJob, cX9_parseJob, 6, none, [(0, .aload_n 0, 1), (1, .aload_n 0, 1), (2, .getfield 9, 3), (5, .iconst 2, 1), (6, .iaload, 1), (7, .bipush 40, 2), (9, .if_icmp .ge 7, 3), (12, .iconst 1, 1), (13, .goto 4, 3), (16, .iconst 0, 1), (17, .iconst 4, 1), (18, .invokevirtual 197, 3), (21, .aload_n 0, 1), (22, .invokevirtual 191, 3), (25, .aload_n 0, 1), (26, .iconst (-1), 1), (27, .invokevirtual 218, 3), (30, .istore_n 1, 1), (31, .aload_n 0, 1), (32, .invokevirtual 221, 3), (35, .istore_n 2, 1), (36, .aload_n 0, 1), (37, .iconst 0, 1), (38, .bipush 99, 2), (40, .invokevirtual 215, 3), (43, .istore_n 3, 1), (44, .aload_n 0, 1), (45, .iconst 1, 1), (46, .bipush 99, 2), (48, .invokevirtual 215, 3), (51, .istore 4, 2), (53, .aload_n 0, 1), (54, .getfield 167, 3), (57, .ifCond .ne 14, 3), (60, .aload_n 0, 1), (61, .iload_n 1, 1), (62, .iload_n 2, 1), (63, .iload_n 3, 1), (64, .iload 4, 2), (66, .invokevirtual 60, 3), (69, .istore 5, 2), (71, .return_, 1)], ftX9)
set_option maxRecDepth 20000 in
theorem zo_X9_parseJob : ZOK z_X9_parseJob := ⟨by decide +kernel, ftX9_ok⟩
set_option maxRecDepth 20000 in
theorem k_X9_parseJob : LKV z_X9_parseJob 0 := ⟨⟨ALL_at 1599 (by decide +kernel) rfl, (inALL_at 125 (by decide +kernel) rfl), by decide +kernel⟩, (inALL_at 1598 (by decide +kernel) rfl), (inALL_at 58 (by decide +kernel) rfl)⟩
def z_X9_parseKnownQueue : MZ := (yX9_parseKnownQueue, cX9_parseKnownQueue, 3, (some .int), [(0, .aload_n 0, 1), (1, .invokevirtual 201, 3), (4, .aload_n 0, 1), (5, .getfield 167, 3), (8, .ifCond .ne 10, 3), (11, .aload_n 0, 1), (12, .invokevirtual 204, 3), (15, .goto 4, 3), (18, .iconst 0, 1), (19, .istore_n 2, 1), (20, .aload_n 0, 1), (21, .aload_n 0, 1), (22, .getfield 167, 3), (25, .ifCond .gt 13, 3), (28, .iload_n 2, 1), (29, .iconst (-1), 1), (30, .if_icmp .eq 12, 3), (33, .iload_n 2, 1), (34, .iload_n 1, 1), (35, .if_icmp .eq 7, 3), (38, .iconst 1, 1), (39, .goto 4, 3), (42, .iconst 0, 1), (43, .iconst 3, 1), (44, .invokevirtual 197, 3), (47, .aload_n 0, 1), (48, .invokevirtual 191, 3), (51, .iconst 0, 1), (52, .iload_n 2, 1), (53, .invokestatic 207, 3), (56, .ireturn, 1)], ftX9)
set_option maxRecDepth 20000 in
theorem zo_X9_parseKnownQueue : ZOK z_X9_parseKnownQueue := ⟨by decide +kernel, ftX9_ok⟩
set_option maxRecDepth 20000 in
theorem k_X9_parseKnownQueue : LKV z_X9_parseKnownQueue 1 := ⟨⟨ALL_at 1603 (by decide +kernel) rfl, (inALL_at 125 (by decide +kernel) rfl), by decide +kernel⟩, (inALL_at 1602 (by decide +kernel) rfl), (inALL_at 59 (by decide +kernel) rfl)⟩
def z_X9_parseKnownOwner : MZ := (yX9_parseKnownOwner, cX9_parseKnownOwner, 2, (some .int), [(0, .aload_n 0, 1), (1, .invokevirtual 201, 3), (4, .aload_n 0, 1), (5, .getfield 167, 3), (8, .ifCond .ne 10, 3), (11, .aload_n 0, 1), (12, .invokevirtual 212, 3), (15, .goto 4, 3), (18, .iconst 0, 1), (19, .istore_n 1, 1), (20, .aload_n 0, 1), (21, .iload_n 1, 1), (22, .iconst (-1), 1), (23, .if_icmp .eq 7, 3), (26, .iconst 1, 1), (27, .goto 4, 3), (30, .iconst 0, 1), (31, .iconst 3, 1), (32, .invokevirtual 197, 3), (35, .aload_n 0, 1), (36, .invokevirtual 191, 3), (39, .iconst 0, 1), (40, .iload_n 1, 1), (41, .invokestatic 207, 3), (44, .ireturn, 1)], ftX9)
set_option maxRecDepth 20000 in
theorem zo_X9_parseKnownOwner : ZOK z_X9_parseKnownOwner := ⟨by decide +kernel, ftX9_ok⟩
set_option maxRecDepth 20000 in
theorem k_X9_parseKnownOwner : LKV z_X9_parseKnownOwner 0 := ⟨⟨ALL_at 1608 (by decide +kernel) rfl, (inALL_at 125 (by decide +kernel) rfl), by decide +kernel⟩, (inALL_at 1607 (by decide +kernel) rfl), (inALL_at 60 (by decide +kernel) rfl)⟩
def z_X9_parseSemicolon : MZ := (yX9_parseSemicolon, cX9_parseSemicolon, 1, none, [(0, .aload_n 0, 1), (1, .aload_n 0, 1), (2, .getfield 176, 3), (5, .iconst 3, 1), (6, .if_icmp .ne 7, 3), (9, .iconst 1, 1), (10, .goto 4, 3), (13, .iconst 0, 1), (14, .iconst 1, 1), (15, .invokevirtual 197, 3), (18, .aload_n 0, 1), (19, .invokevirtual 191, 3), (22, .return_, 1)], ftX9)
set_option maxRecDepth 20000 in
theorem zo_X9_parseSemicolon : ZOK z_X9_parseSemicolon := ⟨by decide +kernel, ftX9_ok⟩
set_option maxRecDepth 20000 in
theorem k_X9_parseSemicolon : LKV z_X9_parseSemicolon 0 := ⟨⟨ALL_at 1612 (by decide +kernel) rfl, (inALL_at 125 (by decide +kernel) rfl), by decide +kernel⟩, (inALL_at 1611 (by decide +kernel) rfl), (inALL_at 61 (by decide +kernel) rfl)⟩
def z_X9_endText : MZ := (yX9_endText, cX9_endText, 1, none, [(0, .aload_n 0, 1), (1, .aload_n 0, 1), (2, .getfield 167, 3), (5, .putfield 156, 3), (8, .aload_n 0, 1), (9, .aload_n 0, 1), (10, .getfield 167, 3), (13, .ifCond .ne 7, 3), (16, .iconst (-1), 1), (17, .goto 7, 3), (20, .aload_n 0, 1), (21, .getfield 188, 3), (24, .putfield 29, 3), (27, .aload_n 0, 1), (28, .iconst 0, 1), (29, .putfield 146, 3), (32, .return_, 1)], ftX9)
set_option maxRecDepth 20000 in
theorem zo_X9_endText : ZOK z_X9_endText := ⟨by decide +kernel, ftX9_ok⟩
set_option maxRecDepth 20000 in
theorem k_X9_endText : LKV z_X9_endText 0 := ⟨⟨ALL_at 1616 (by decide +kernel) rfl, (inALL_at 125 (by decide +kernel) rfl), by decide +kernel⟩, (inALL_at 1615 (by decide +kernel) rfl), (inALL_at 62 (by decide +kernel) rfl)⟩
def z_X9_copyFrom : MZ := (yX9_copyFrom, cX9_copyFrom, 3, none, [(0, .iconst 0, 1), (1, .istore_n 2, 1), (2, .iload_n 2, 1), (3, .sipush 500, 3), (6, .if_icmp .ge 18, 3), (9, .aload_n 0, 1), (10, .getfield 9, 3), (13, .iload_n 2, 1), (14, .aload_n 1, 1), (15, .iload_n 2, 1), (16, .iaload, 1), (17, .iastore, 1), (18, .iinc 2 1, 3), (21, .goto (-19), 3), (24, .return_, 1)], ftX9)
set_option maxRecDepth 20000 in
theorem zo_X9_copyFrom : ZOK z_X9_copyFrom := ⟨by decide +kernel, ftX9_ok⟩
set_option maxRecDepth 20000 in
theorem k_X9_copyFrom : LKV z_X9_copyFrom 1 := ⟨⟨ALL_at 1620 (by decide +kernel) rfl, (inALL_at 125 (by decide +kernel) rfl), by decide +kernel⟩, (inALL_at 1619 (by decide +kernel) rfl), (inALL_at 63 (by decide +kernel) rfl)⟩
def z_X9_runScript : MZ := (yX9_runScript, cX9_runScript, 2, (some .int), [(0, .aload_n 0, 1), (1, .iconst 0, 1), (2, .putfield 67, 3), (5, .aload_n 0, 1), (6, .iconst 0, 1), (7, .putfield 287, 3), (10, .aload_n 0, 1), (11, .invokevirtual 253, 3), (14, .aload_n 0, 1), (15, .getfield 167, 3), (18, .ifCond .ne 17, 3), (21, .aload_n 0, 1), (22, .getfield 176, 3), (25, .ifCond .eq 10, 3), (28, .aload_n 0, 1), (29, .invokevirtual 323, 3), (32, .goto (-18), 3), (35, .aload_n 0, 1), (36, .invokevirtual 259, 3), (39, .aload_n 0, 1), (40, .getfield 167, 3), (43, .ifCond .le 5, 3), (46, .iconst (-1), 1), (47, .ireturn, 1), (48, .aload_n 0, 1), (49, .invokevirtual 326, 3), (52, .iconst 0, 1), (53, .istore_n 1, 1), (54, .iload_n 1, 1), (55, .aload_n 0, 1), (56, .getfield 287, 3), (59, .if_icmp .ge 17, 3), (62, .aload_n 0, 1), (63, .iload_n 1, 1), (64, .invokevirtual 329, 3), (67, .ifCond .eq 9, 3), (70, .iinc 1 1, 3), (73, .goto (-19), 3), (76, .iload_n 1, 1), (77, .ireturn, 1)], ftX9)
set_option maxRecDepth 20000 in
theorem zo_X9_runScript : ZOK z_X9_runScript := ⟨by decide +kernel, ftX9_ok⟩
set_option maxRecDepth 20000 in
theorem k_X9_runScript : LKV z_X9_runScript 0 := ⟨⟨ALL_at 1624 (by decide +kernel) rfl, (inALL_at 125 (by decide +kernel) rfl), by decide +kernel⟩, (inALL_at 1622 (by decide +kernel) rfl), (inALL_at 1623 (by decide +kernel) rfl)⟩
def z_X9_parseStatement : MZ := (yX9_parseStatement, cX9_parseStatement, 3, none, [(0, .aload_n 0, 1), (1, .invokevirtual 284, 3), (4, .istore_n 1, 1), (5, .aload_n 0, 1), (6, .iload_n 1, 1), (7, .iconst (-1), 1), (8, .if_icmp .eq 7, 3), (11, .iconst 1, 1), (12, .goto 4, 3), (15, .iconst 0, 1), (16, .iconst 1, 1), (17, .invokevirtual 197, 3), (20, .aload_n 0, 1), (21, .aload_n 0, 1), (22, .getfield 287, 3), (25, .bipush 30, 2), (27, .if_icmp .ge 7, 3), (30, .iconst 1, 1), (31, .goto 4, 3), (34, .iconst 0, 1), (35, .iconst 4, 1), (36, .invokevirtual 197, 3), (39, .aload_n 0, 1), (40, .invokevirtual 191, 3), (43, .aload_n 0, 1), (44, .getfield 167, 3), (47, .ifCond .le 4, 3), (50, .return_, 1), (51, .iconst 5, 1), (52, .aload_n 0, 1), (53, .getfield 287, 3), (56, .imul, 1), (57, .istore_n 2, 1), (58, .aload_n 0, 1), (59, .getfield 33, 3), (62, .iload_n 2, 1), (63, .iload_n 1, 1), (64, .iastore, 1), (65, .iload_n 1, 1), (66, .tableswitch 205 0 5 #[38, 205, 96, 111, 141, 169], 38), (104, .aload_n 0, 1), (105, .getfield 33, 3), (108, .iload_n 2, 1), (109, .iconst 1, 1), (110, .iadd, 1), (111, .aload_n 0, 1), (112, .iconst (-1), 1), (113, .invokevirtual 218, 3), (116, .iastore, 1), (117, .aload_n 0, 1), (118, .getfield 33, 3), (121, .iload_n 2, 1), (122, .iconst 2, 1), (123, .iadd, 1), (124, .aload_n 0, 1), (125, .invokevirtual 221, 3), (128, .iastore, 1), (129, .aload_n 0, 1), (130, .getfield 33, 3), (133, .iload_n 2, 1), (134, .iconst 3, 1), (135, .iadd, 1), (136, .aload_n 0, 1), (137, .iconst 0, 1), (138, .bipush 99, 2), (140, .invokevirtual 215, 3), (143, .iastore, 1), (144, .aload_n 0, 1), (145, .getfield 33, 3), (148, .iload_n 2, 1), (149, .iconst 4, 1), (150, .iadd, 1), (151, .aload_n 0, 1), (152, .iconst 1, 1), (153, .bipush 99, 2), (155, .invokevirtual 215, 3), (158, .iastore, 1), (159, .goto 125, 3), (162, .aload_n 0, 1), (163, .getfield 33, 3), (166, .iload_n 2, 1), (167, .iconst 1, 1), (168, .iadd, 1), (169, .aload_n 0, 1), (170, .invokevirtual 290, 3), (173, .iastore, 1), (174, .goto 110, 3), (177, .aload_n 0, 1), (178, .getfield 33, 3), (181, .iload_n 2, 1), (182, .iconst 1, 1), (183, .iadd, 1), (184, .aload_n 0, 1), (185, .invokevirtual 290, 3), (188, .iastore, 1), (189, .aload_n 0, 1), (190, .getfield 33, 3), (193, .iload_n 2, 1), (194, .iconst 2, 1), (195, .iadd, 1), (196, .aload_n 0, 1), (197, .iconst 0, 1), (198, .bipush 99, 2), (200, .invokevirtual 215, 3), (203, .iastore, 1), (204, .goto 80, 3), (207, .aload_n 0, 1), (208, .getfield 33, 3), (211, .iload_n 2, 1), (212, .iconst 1, 1), (213, .iadd, 1), (214, .aload_n 0, 1), (215, .invokevirtual 290, 3), (218, .iastore, 1), (219, .aload_n 0, 1), (220, .getfield 33, 3), (223, .iload_n 2, 1), (224, .iconst 2, 1), (225, .iadd, 1), (226, .aload_n 0, 1), (227, .iconst (-1), 1), (228, .invokevirtual 218, 3), (231, .iastore, 1), (232, .goto 52, 3), (235, .aload_n 0, 1), (236, .getfield 33, 3), (239, .iload_n 2, 1), (240, .iconst 1, 1), (241, .iadd, 1), (242, .aload_n 0, 1), (243, .iconst (-1), 1), (244, .invokevirtual 218, 3), (247, .iastore, 1), (248, .aload_n 0, 1), (249, .getfield 33, 3), (252, .iload_n 2, 1), (253, .iconst 2, 1), (254, .iadd, 1), (255, .aload_n 0, 1), (256, .aload_n 0, 1), (257, .getfield 33, 3), (260, .iload_n 2, 1), (261, .iconst 1, 1), (262, .iadd, 1), (263, .iaload, 1), (264, .invokevirtual 218, 3), (267, .iastore, 1), (268, .goto 16, 3), (271, .aload_n 0, 1), (272, .getfield 33, 3), (275, .iload_n 2, 1), (276, .iconst 1, 1), (277, .iadd, 1), (278, .aload_n 0, 1), (279, .iconst (-1), 1), (280, .invokevirtual 218, 3), (283, .iastore, 1), (284, .aload_n 0, 1), (285, .invokevirtual 243, 3), (288, .aload_n 0, 1), (289, .dup, 1), (290, .getfield 287, 3), (293, .iconst 1, 1), (294, .iadd, 1), (295, .putfield 287, 3), (298, .return_, 1)], ftX9)
set_option maxRecDepth 20000 in
theorem zo_X9_parseStatement : ZOK z_X9_parseStatement := ⟨by decide +kernel, ftX9_ok⟩
set_option maxRecDepth 20000 in
theorem k_X9_parseStatement : LKV z_X9_parseStatement 0 := ⟨⟨ALL_at 1628 (by decide +kernel) rfl, (inALL_at 125 (by decide +kernel) rfl), by decide +kernel⟩, (inALL_at 1627 (by decide +kernel) rfl), (inALL_at 64 (by decide +kernel) rfl)⟩
def z_X9_statementKind : MZ := (yX9_statementKind, cX9_statementKind, 1, (some .int), [(0, .aload_n 0, 1), (1, .ldc_w 269, 3), (4, .invokevirtual 226, 3), (7, .ifCond .eq 5, 3), (10, .iconst 0, 1), (11, .ireturn, 1), (12, .aload_n 0, 1), (13, .ldc_w 271, 3), (16, .invokevirtual 226, 3), (19, .ifCond .eq 5, 3), (22, .iconst 1, 1), (23, .ireturn, 1), (24, .aload_n 0, 1), (25, .ldc_w 273, 3), (28, .invokevirtual 226, 3), (31, .ifCond .eq 5, 3), (34, .iconst 2, 1), (35, .ireturn, 1), (36, .aload_n 0, 1), (37, .ldc_w 275, 3), (40, .invokevirtual 226, 3), (43, .ifCond .eq 5, 3), (46, .iconst 3, 1), (47, .ireturn, 1), (48, .aload_n 0, 1), (49, .ldc_w 277, 3), (52, .invokevirtual 226, 3), (55, .ifCond .eq 5, 3), (58, .iconst 4, 1), (59, .ireturn, 1), (60, .aload_n 0, 1), (61, .ldc_w 279, 3), (64, .invokevirtual 226, 3), (67, .ifCond .eq 5, 3), (70, .iconst 5, 1), (71, .ireturn, 1), (72, .aload_n 0, 1), (73, .ldc_w 280, 3), (76, .invokevirtual 226, 3), (79, .ifCond .eq 6, 3), (82, .bipush 6, 2), (84, .ireturn, 1), (85, .aload_n 0, 1), (86, .ldc_w 282, 3), (89, .invokevirtual 226, 3), (92, .ifCond .eq 8, 3), (95, .bipush 7, 2), (97, .goto 4, 3), (100, .iconst (-1), 1), (101, .ireturn, 1)], ftX9)
set_option maxRecDepth 20000 in
theorem zo_X9_statementKind : ZOK z_X9_statementKind := ⟨by decide +kernel, ftX9_ok⟩
set_option maxRecDepth 20000 in
theorem k_X9_statementKind : LKV z_X9_statementKind 0 := ⟨⟨ALL_at 1632 (by decide +kernel) rfl, (inALL_at 125 (by decide +kernel) rfl), by decide +kernel⟩, (inALL_at 1631 (by decide +kernel) rfl), (inALL_at 65 (by decide +kernel) rfl)⟩
def z_X9_parseHandle : MZ := (yX9_parseHandle, cX9_parseHandle, 1, (some .int), [(0, .aload_n 0, 1), (1, .iconst 0, 1), (2, .bipush 39, 2), (4, .invokevirtual 215, 3), (7, .ireturn, 1)], ftX9)
set_option maxRecDepth 20000 in
theorem zo_X9_parseHandle : ZOK z_X9_parseHandle := ⟨by decide +kernel, ftX9_ok⟩
set_option maxRecDepth 20000 in
theorem k_X9_parseHandle : LKV z_X9_parseHandle 0 := ⟨⟨ALL_at 1644 (by decide +kernel) rfl, (inALL_at 125 (by decide +kernel) rfl), by decide +kernel⟩, (inALL_at 1643 (by decide +kernel) rfl), (inALL_at 66 (by decide +kernel) rfl)⟩
def z_X9_remember : MZ := (yX9_remember, cX9_remember, 2, none, [(0, .aload_n 0, 1), (1, .getfield 74, 3), (4, .bipush 8, 2), (6, .if_icmp .ne 46, 3), (9, .sipush 500, 3), (12, .istore_n 1, 1), (13, .iload_n 1, 1), (14, .sipush 4000, 3), (17, .if_icmp .ge 25, 3), (20, .aload_n 0, 1), (21, .getfield 19, 3), (24, .iload_n 1, 1), (25, .sipush 500, 3), (28, .isub, 1), (29, .aload_n 0, 1), (30, .getfield 19, 3), (33, .iload_n 1, 1), (34, .iaload, 1), (35, .iastore, 1), (36, .iinc 1 1, 3), (39, .goto (-26), 3), (42, .aload_n 0, 1), (43, .dup, 1), (44, .getfield 74, 3), (47, .iconst 1, 1), (48, .isub, 1), (49, .putfield 74, 3), (52, .iconst 0, 1), (53, .istore_n 1, 1), (54, .iload_n 1, 1), (55, .sipush 500, 3), (58, .if_icmp .ge 30, 3), (61, .aload_n 0, 1), (62, .getfield 19, 3), (65, .sipush 500, 3), (68, .aload_n 0, 1), (69, .getfield 74, 3), (72, .imul, 1), (73, .iload_n 1, 1), (74, .iadd, 1), (75, .aload_n 0, 1), (76, .getfield 9, 3), (79, .iload_n 1, 1), (80, .iaload, 1), (81, .iastore, 1), (82, .iinc 1 1, 3), (85, .goto (-31), 3), (88, .aload_n 0, 1), (89, .dup, 1), (90, .getfield 74, 3), (93, .iconst 1, 1), (94, .iadd, 1), (95, .putfield 74, 3), (98, .return_, 1)], ftX9)
set_option maxRecDepth 20000 in
theorem zo_X9_remember : ZOK z_X9_remember := ⟨by decide +kernel, ftX9_ok⟩
set_option maxRecDepth 20000 in
theorem k_X9_remember : LKV z_X9_remember 0 := ⟨⟨ALL_at 1648 (by decide +kernel) rfl, (inALL_at 125 (by decide +kernel) rfl), by decide +kernel⟩, (inALL_at 1647 (by decide +kernel) rfl), (inALL_at 67 (by decide +kernel) rfl)⟩
def z_X9_execute : MZ := (yX9_execute, cX9_execute, 5, (some .boolean), [(0, .iconst 5, 1), (1, .iload_n 1, 1), (2, .imul, 1), (3, .istore_n 2, 1), (4, .aload_n 0, 1), (5, .getfield 33, 3), (8, .iload_n 2, 1), (9, .iconst 1, 1), (10, .iadd, 1), (11, .iaload, 1), (12, .istore_n 3, 1), (13, .aload_n 0, 1), (14, .getfield 33, 3), (17, .iload_n 2, 1), (18, .iconst 2, 1), (19, .iadd, 1), (20, .iaload, 1), (21, .istore 4, 2), (23, .aload_n 0, 1), (24, .getfield 33, 3), (27, .iload_n 2, 1), (28, .iaload, 1), (29, .tableswitch 211 0 6 #[43, 86, 108, 130, 154, 188, 204], 43), (72, .aload_n 0, 1), (73, .getfield 9, 3), (76, .iconst 2, 1), (77, .iaload, 1), (78, .bipush 40, 2), (80, .if_icmp .ge 33, 3), (83, .aload_n 0, 1), (84, .iload_n 3, 1), (85, .iload 4, 2), (87, .aload_n 0, 1), (88, .getfield 33, 3), (91, .iload_n 2, 1), (92, .iconst 3, 1), (93, .iadd, 1), (94, .iaload, 1), (95, .aload_n 0, 1), (96, .getfield 33, 3), (99, .iload_n 2, 1), (100, .iconst 4, 1), (101, .iadd, 1), (102, .iaload, 1), (103, .invokevirtual 60, 3), (106, .ifCond .lt 7, 3), (109, .iconst 1, 1), (110, .goto 4, 3), (113, .iconst 0, 1), (114, .ireturn, 1), (115, .aload_n 0, 1), (116, .iload_n 3, 1), (117, .invokevirtual 299, 3), (120, .ifCond .ne 15, 3), (123, .aload_n 0, 1), (124, .iload_n 3, 1), (125, .invokevirtual 302, 3), (128, .ifCond .lt 7, 3), (131, .iconst 1, 1), (132, .goto 4, 3), (135, .iconst 0, 1), (136, .ireturn, 1), (137, .aload_n 0, 1), (138, .iload_n 3, 1), (139, .invokevirtual 305, 3), (142, .ifCond .eq 15, 3), (145, .aload_n 0, 1), (146, .iload_n 3, 1), (147, .invokevirtual 308, 3), (150, .ifCond .lt 7, 3), (153, .iconst 1, 1), (154, .goto 4, 3), (157, .iconst 0, 1), (158, .ireturn, 1), (159, .aload_n 0, 1), (160, .iload_n 3, 1), (161, .invokevirtual 305, 3), (164, .ifCond .eq 17, 3), (167, .aload_n 0, 1), (168, .iload_n 3, 1), (169, .iload 4, 2), (171, .invokevirtual 311, 3), (174, .ifCond .lt 7, 3), (177, .iconst 1, 1), (178, .goto 4, 3), (181, .iconst 0, 1), (182, .ireturn, 1), (183, .aload_n 0, 1), (184, .iload_n 3, 1), (185, .invokevirtual 305, 3), (188, .ifCond .eq 27, 3), (191, .aload_n 0, 1), (192, .iload_n 3, 1), (193, .iload 4, 2), (195, .invokevirtual 133, 3), (198, .ifCond .ne 17, 3), (201, .aload_n 0, 1), (202, .iload_n 3, 1), (203, .iload 4, 2), (205, .invokevirtual 314, 3), (208, .ifCond .lt 7, 3), (211, .iconst 1, 1), (212, .goto 4, 3), (215, .iconst 0, 1), (216, .ireturn, 1), (217, .aload_n 0, 1), (218, .iload_n 3, 1), (219, .iload 4, 2), (221, .invokevirtual 317, 3), (224, .ifCond .lt 7, 3), (227, .iconst 1, 1), (228, .goto 4, 3), (231, .iconst 0, 1), (232, .ireturn, 1), (233, .aload_n 0, 1), (234, .iload_n 3, 1), (235, .iconst 1, 1), (236, .invokevirtual 320, 3), (239, .ireturn, 1), (240, .aload_n 0, 1), (241, .iload_n 3, 1), (242, .iconst 0, 1), (243, .invokevirtual 320, 3), (246, .ireturn, 1)], ftX9)
set_option maxRecDepth 20000 in
theorem zo_X9_execute : ZOK z_X9_execute := ⟨by decide +kernel, ftX9_ok⟩
set_option maxRecDepth 20000 in
theorem k_X9_execute : LKV z_X9_execute 1 := ⟨⟨ALL_at 1652 (by decide +kernel) rfl, (inALL_at 125 (by decide +kernel) rfl), by decide +kernel⟩, (inALL_at 1651 (by decide +kernel) rfl), (inALL_at 68 (by decide +kernel) rfl)⟩
def z_X9_obstacle : MZ := (yX9_obstacle, cX9_obstacle, 2, (some .int), [(0, .aload_n 0, 1), (1, .getfield 9, 3), (4, .iload_n 1, 1), (5, .invokestatic 77, 3), (8, .bipush 8, 2), (10, .iadd, 1), (11, .iaload, 1), (12, .iconst 1, 1), (13, .if_icmp .ne 5, 3), (16, .iconst 1, 1), (17, .ireturn, 1), (18, .aload_n 0, 1), (19, .iload_n 1, 1), (20, .invokevirtual 117, 3), (23, .iconst (-1), 1), (24, .if_icmp .ne 7, 3), (27, .iconst 2, 1), (28, .goto 4, 3), (31, .iconst 0, 1), (32, .ireturn, 1)], ftX9)
set_option maxRecDepth 20000 in
theorem zo_X9_obstacle : ZOK z_X9_obstacle := ⟨by decide +kernel, ftX9_ok⟩
set_option maxRecDepth 20000 in
theorem k_X9_obstacle : LKV z_X9_obstacle 1 := ⟨⟨ALL_at 1656 (by decide +kernel) rfl, (inALL_at 125 (by decide +kernel) rfl), by decide +kernel⟩, (inALL_at 1655 (by decide +kernel) rfl), (inALL_at 69 (by decide +kernel) rfl)⟩
def z_X9_printRoot : MZ := (yX9_printRoot, cX9_printRoot, 3, (some .int), [(0, .aload_n 0, 1), (1, .iload_n 1, 1), (2, .invokevirtual 117, 3), (5, .istore_n 2, 1), (6, .aload_n 0, 1), (7, .iload_n 2, 1), (8, .invokevirtual 140, 3), (11, .aload_n 0, 1), (12, .iload_n 2, 1), (13, .iconst 3, 1), (14, .iconst 1, 1), (15, .invokevirtual 94, 3), (18, .aload_n 0, 1), (19, .getfield 9, 3), (22, .iload_n 1, 1), (23, .invokestatic 77, 3), (26, .bipush 10, 2), (28, .iadd, 1), (29, .dup2, 1), (30, .iaload, 1), (31, .aload_n 0, 1), (32, .iload_n 2, 1), (33, .iconst 2, 1), (34, .invokevirtual 90, 3), (37, .iadd, 1), (38, .iastore, 1), (39, .iload_n 2, 1), (40, .ireturn, 1)], ftX9)
set_option maxRecDepth 20000 in
theorem zo_X9_printRoot : ZOK z_X9_printRoot := ⟨by decide +kernel, ftX9_ok⟩
set_option maxRecDepth 20000 in
theorem k_X9_printRoot : LKV z_X9_printRoot 1 := ⟨⟨ALL_at 1660 (by decide +kernel) rfl, (inALL_at 125 (by decide +kernel) rfl), by decide +kernel⟩, (inALL_at 1659 (by decide +kernel) rfl), (inALL_at 70 (by decide +kernel) rfl)⟩
def z_X9_remove : MZ := (yX9_remove, cX9_remove, 5, none, [(0, .aload_n 0, 1), (1, .iload_n 1, 1), (2, .bipush 7, 2), (4, .invokevirtual 90, 3), (7, .istore_n 2, 1), (8, .aload_n 0, 1), (9, .aload_n 0, 1), (10, .iload_n 1, 1), (11, .iconst 5, 1), (12, .invokevirtual 90, 3), (15, .aload_n 0, 1), (16, .iload_n 1, 1), (17, .bipush 6, 2), (19, .invokevirtual 90, 3), (22, .invokevirtual 105, 3), (25, .istore_n 3, 1), (26, .iload_n 2, 1), (27, .iconst (-1), 1), (28, .if_icmp .ne 17, 3), (31, .aload_n 0, 1), (32, .aload_n 0, 1), (33, .iload_n 1, 1), (34, .iconst 4, 1), (35, .invokevirtual 90, 3), (38, .iload_n 3, 1), (39, .invokevirtual 120, 3), (42, .goto 34, 3), (45, .aload_n 0, 1), (46, .iload_n 2, 1), (47, .iconst 5, 1), (48, .invokevirtual 90, 3), (51, .iload_n 1, 1), (52, .if_icmp .ne 7, 3), (55, .iconst 5, 1), (56, .goto 5, 3), (59, .bipush 6, 2), (61, .istore 4, 2), (63, .aload_n 0, 1), (64, .iload_n 2, 1), (65, .iload 4, 2), (67, .iload_n 3, 1), (68, .invokevirtual 108, 3), (71, .aload_n 0, 1), (72, .iload_n 2, 1), (73, .invokevirtual 124, 3), (76, .aload_n 0, 1), (77, .iload_n 1, 1), (78, .invokevirtual 114, 3), (81, .aload_n 0, 1), (82, .iload_n 1, 1), (83, .bipush 8, 2), (85, .iconst 0, 1), (86, .invokevirtual 94, 3), (89, .return_, 1)], ftX9)
set_option maxRecDepth 20000 in
theorem zo_X9_remove : ZOK z_X9_remove := ⟨by decide +kernel, ftX9_ok⟩
set_option maxRecDepth 20000 in
theorem k_X9_remove : LKV z_X9_remove 1 := ⟨⟨ALL_at 1664 (by decide +kernel) rfl, (inALL_at 125 (by decide +kernel) rfl), by decide +kernel⟩, (inALL_at 1663 (by decide +kernel) rfl), (inALL_at 71 (by decide +kernel) rfl)⟩
def z_X9_repairUpwards : MZ := (yX9_repairUpwards, cX9_repairUpwards, 3, none, [(0, .iload_n 1, 1), (1, .istore_n 2, 1), (2, .iload_n 2, 1), (3, .iconst (-1), 1), (4, .if_icmp .eq 19, 3), (7, .aload_n 0, 1), (8, .iload_n 2, 1), (9, .invokevirtual 111, 3), (12, .aload_n 0, 1), (13, .iload_n 2, 1), (14, .bipush 7, 2), (16, .invokevirtual 90, 3), (19, .istore_n 2, 1), (20, .goto (-18), 3), (23, .return_, 1)], ftX9)
set_option maxRecDepth 20000 in
theorem zo_X9_repairUpwards : ZOK z_X9_repairUpwards := ⟨by decide +kernel, ftX9_ok⟩
set_option maxRecDepth 20000 in
theorem k_X9_repairUpwards : LKV z_X9_repairUpwards 1 := ⟨⟨ALL_at 1668 (by decide +kernel) rfl, (inALL_at 125 (by decide +kernel) rfl), by decide +kernel⟩, (inALL_at 1667 (by decide +kernel) rfl), (inALL_at 72 (by decide +kernel) rfl)⟩
def z_X9_isWaitingJob : MZ := (yX9_isWaitingJob, cX9_isWaitingJob, 2, (some .boolean), [(0, .aload_n 0, 1), (1, .iload_n 1, 1), (2, .invokevirtual 293, 3), (5, .ifCond .eq 15, 3), (8, .aload_n 0, 1), (9, .iload_n 1, 1), (10, .invokevirtual 130, 3), (13, .ifCond .eq 7, 3), (16, .iconst 1, 1), (17, .goto 4, 3), (20, .iconst 0, 1), (21, .ireturn, 1)], ftX9)
set_option maxRecDepth 20000 in
theorem zo_X9_isWaitingJob : ZOK z_X9_isWaitingJob := ⟨by decide +kernel, ftX9_ok⟩
set_option maxRecDepth 20000 in
theorem k_X9_isWaitingJob : LKV z_X9_isWaitingJob 1 := ⟨⟨ALL_at 1672 (by decide +kernel) rfl, (inALL_at 125 (by decide +kernel) rfl), by decide +kernel⟩, (inALL_at 1671 (by decide +kernel) rfl), (inALL_at 73 (by decide +kernel) rfl)⟩
def z_X9_isJob : MZ := (yX9_isJob, cX9_isJob, 2, (some .boolean), [(0, .iload_n 1, 1), (1, .i2l, 1), (2, .lconst 0, 1), (3, .aload_n 0, 1), (4, .getfield 9, 3), (7, .iconst 2, 1), (8, .iaload, 1), (9, .iconst 1, 1), (10, .isub, 1), (11, .i2l, 1), (12, .invokestatic 152, 3), (15, .ireturn, 1)], ftX9)
set_option maxRecDepth 20000 in
theorem zo_X9_isJob : ZOK z_X9_isJob := ⟨by decide +kernel, ftX9_ok⟩
set_option maxRecDepth 20000 in
theorem k_X9_isJob : LKV z_X9_isJob 1 := ⟨⟨ALL_at 1676 (by decide +kernel) rfl, (inALL_at 125 (by decide +kernel) rfl), by decide +kernel⟩, (inALL_at 1675 (by decide +kernel) rfl), (inALL_at 74 (by decide +kernel) rfl)⟩
def z_X9_waits : MZ := (yX9_waits, cX9_waits, 2, (some .boolean), [(0, .aload_n 0, 1), (1, .iload_n 1, 1), (2, .iconst 3, 1), (3, .invokevirtual 90, 3), (6, .ifCond .ne 7, 3), (9, .iconst 1, 1), (10, .goto 4, 3), (13, .iconst 0, 1), (14, .ireturn, 1)], ftX9)
set_option maxRecDepth 20000 in
theorem zo_X9_waits : ZOK z_X9_waits := ⟨by decide +kernel, ftX9_ok⟩
set_option maxRecDepth 20000 in
theorem k_X9_waits : LKV z_X9_waits 1 := ⟨⟨ALL_at 1680 (by decide +kernel) rfl, (inALL_at 125 (by decide +kernel) rfl), by decide +kernel⟩, (inALL_at 1679 (by decide +kernel) rfl), (inALL_at 75 (by decide +kernel) rfl)⟩
def z_X9_cancelJob : MZ := (yX9_cancelJob, cX9_cancelJob, 3, (some .int), [(0, .aload_n 0, 1), (1, .iload_n 1, 1), (2, .iconst 4, 1), (3, .invokevirtual 90, 3), (6, .istore_n 2, 1), (7, .aload_n 0, 1), (8, .iload_n 1, 1), (9, .invokevirtual 140, 3), (12, .aload_n 0, 1), (13, .iload_n 1, 1), (14, .iconst 3, 1), (15, .iconst 2, 1), (16, .invokevirtual 94, 3), (19, .aload_n 0, 1), (20, .iload_n 2, 1), (21, .invokevirtual 143, 3), (24, .ireturn, 1)], ftX9)
set_option maxRecDepth 20000 in
theorem zo_X9_cancelJob : ZOK z_X9_cancelJob := ⟨by decide +kernel, ftX9_ok⟩
set_option maxRecDepth 20000 in
theorem k_X9_cancelJob : LKV z_X9_cancelJob 1 := ⟨⟨ALL_at 1684 (by decide +kernel) rfl, (inALL_at 125 (by decide +kernel) rfl), by decide +kernel⟩, (inALL_at 1683 (by decide +kernel) rfl), (inALL_at 76 (by decide +kernel) rfl)⟩
def z_X9_sizeOf : MZ := (yX9_sizeOf, cX9_sizeOf, 4, (some .int), [(0, .iconst 0, 1), (1, .istore_n 2, 1), (2, .iconst 0, 1), (3, .istore_n 3, 1), (4, .iload_n 3, 1), (5, .aload_n 0, 1), (6, .getfield 9, 3), (9, .iconst 2, 1), (10, .iaload, 1), (11, .if_icmp .ge 21, 3), (14, .iload_n 2, 1), (15, .aload_n 0, 1), (16, .iload_n 3, 1), (17, .iload_n 1, 1), (18, .invokevirtual 133, 3), (21, .invokestatic 136, 3), (24, .iadd, 1), (25, .istore_n 2, 1), (26, .iinc 3 1, 3), (29, .goto (-25), 3), (32, .iload_n 2, 1), (33, .ireturn, 1)], ftX9)
set_option maxRecDepth 20000 in
theorem zo_X9_sizeOf : ZOK z_X9_sizeOf := ⟨by decide +kernel, ftX9_ok⟩
set_option maxRecDepth 20000 in
theorem k_X9_sizeOf : LKV z_X9_sizeOf 1 := ⟨⟨ALL_at 1688 (by decide +kernel) rfl, (inALL_at 125 (by decide +kernel) rfl), by decide +kernel⟩, (inALL_at 1687 (by decide +kernel) rfl), (inALL_at 77 (by decide +kernel) rfl)⟩
def z_X9_isIn : MZ := (yX9_isIn, cX9_isIn, 3, (some .boolean), [(0, .aload_n 0, 1), (1, .iload_n 1, 1), (2, .invokevirtual 130, 3), (5, .ifCond .eq 17, 3), (8, .aload_n 0, 1), (9, .iload_n 1, 1), (10, .iconst 4, 1), (11, .invokevirtual 90, 3), (14, .iload_n 2, 1), (15, .if_icmp .ne 7, 3), (18, .iconst 1, 1), (19, .goto 4, 3), (22, .iconst 0, 1), (23, .ireturn, 1)], ftX9)
set_option maxRecDepth 20000 in
theorem zo_X9_isIn : ZOK z_X9_isIn := ⟨by decide +kernel, ftX9_ok⟩
set_option maxRecDepth 20000 in
theorem k_X9_isIn : LKV z_X9_isIn 2 := ⟨⟨ALL_at 1692 (by decide +kernel) rfl, (inALL_at 125 (by decide +kernel) rfl), by decide +kernel⟩, (inALL_at 1691 (by decide +kernel) rfl), (inALL_at 78 (by decide +kernel) rfl)⟩
def z_X9_one : MZ := (yX9_one, cX9_one, 1, (some .int), [(0, .iload_n 0, 1), (1, .ifCond .eq 7, 3), (4, .iconst 1, 1), (5, .goto 4, 3), (8, .iconst 0, 1), (9, .ireturn, 1)], ftX9)
set_option maxRecDepth 20000 in
theorem zo_X9_one : ZOK z_X9_one := ⟨by decide +kernel, ftX9_ok⟩
set_option maxRecDepth 20000 in
theorem k_X9_one : LKS z_X9_one 1 := ⟨⟨ALL_at 1695 (by decide +kernel) rfl, (inALL_at 125 (by decide +kernel) rfl), by decide +kernel⟩, (inALL_at 1694 (by decide +kernel) rfl)⟩
def z_X9_setPriority : MZ := (yX9_setPriority, cX9_setPriority, 5, (some .int), [(0, .aload_n 0, 1), (1, .iload_n 1, 1), (2, .iconst 1, 1), (3, .invokevirtual 90, 3), (6, .istore_n 3, 1), (7, .aload_n 0, 1), (8, .iload_n 1, 1), (9, .iconst 4, 1), (10, .invokevirtual 90, 3), (13, .istore 4, 2), (15, .aload_n 0, 1), (16, .iload_n 1, 1), (17, .invokevirtual 140, 3), (20, .aload_n 0, 1), (21, .iload_n 1, 1), (22, .iconst 1, 1), (23, .iload_n 2, 1), (24, .invokevirtual 94, 3), (27, .aload_n 0, 1), (28, .iload 4, 2), (30, .iload_n 1, 1), (31, .invokevirtual 127, 3), (34, .iload_n 3, 1), (35, .ireturn, 1)], ftX9)
set_option maxRecDepth 20000 in
theorem zo_X9_setPriority : ZOK z_X9_setPriority := ⟨by decide +kernel, ftX9_ok⟩
set_option maxRecDepth 20000 in
theorem k_X9_setPriority : LKV z_X9_setPriority 2 := ⟨⟨ALL_at 1699 (by decide +kernel) rfl, (inALL_at 125 (by decide +kernel) rfl), by decide +kernel⟩, (inALL_at 1698 (by decide +kernel) rfl), (inALL_at 79 (by decide +kernel) rfl)⟩
def z_X9_moveTo : MZ := (yX9_moveTo, cX9_moveTo, 3, (some .int), [(0, .aload_n 0, 1), (1, .iload_n 1, 1), (2, .invokevirtual 140, 3), (5, .aload_n 0, 1), (6, .iload_n 2, 1), (7, .iload_n 1, 1), (8, .invokevirtual 127, 3), (11, .aload_n 0, 1), (12, .iload_n 2, 1), (13, .invokevirtual 117, 3), (16, .ireturn, 1)], ftX9)
set_option maxRecDepth 20000 in
theorem zo_X9_moveTo : ZOK z_X9_moveTo := ⟨by decide +kernel, ftX9_ok⟩
set_option maxRecDepth 20000 in
theorem k_X9_moveTo : LKV z_X9_moveTo 2 := ⟨⟨ALL_at 1703 (by decide +kernel) rfl, (inALL_at 125 (by decide +kernel) rfl), by decide +kernel⟩, (inALL_at 1702 (by decide +kernel) rfl), (inALL_at 80 (by decide +kernel) rfl)⟩
def z_X9_mergeInto : MZ := (yX9_mergeInto, cX9_mergeInto, 4, (some .int), [(0, .iconst 0, 1), (1, .istore_n 3, 1), (2, .iload_n 3, 1), (3, .aload_n 0, 1), (4, .getfield 9, 3), (7, .iconst 2, 1), (8, .iaload, 1), (9, .if_icmp .ge 25, 3), (12, .aload_n 0, 1), (13, .iload_n 3, 1), (14, .iload_n 1, 1), (15, .invokevirtual 133, 3), (18, .ifCond .eq 10, 3), (21, .aload_n 0, 1), (22, .iload_n 3, 1), (23, .iconst 4, 1), (24, .iload_n 2, 1), (25, .invokevirtual 94, 3), (28, .iinc 3 1, 3), (31, .goto (-29), 3), (34, .aload_n 0, 1), (35, .iload_n 2, 1), (36, .aload_n 0, 1), (37, .aload_n 0, 1), (38, .iload_n 2, 1), (39, .invokevirtual 117, 3), (42, .aload_n 0, 1), (43, .iload_n 1, 1), (44, .invokevirtual 117, 3), (47, .invokevirtual 105, 3), (50, .invokevirtual 120, 3), (53, .aload_n 0, 1), (54, .iload_n 1, 1), (55, .iconst (-1), 1), (56, .invokevirtual 120, 3), (59, .aload_n 0, 1), (60, .iload_n 2, 1), (61, .invokevirtual 143, 3), (64, .ireturn, 1)], ftX9)
set_option maxRecDepth 20000 in
theorem zo_X9_mergeInto : ZOK z_X9_mergeInto := ⟨by decide +kernel, ftX9_ok⟩
set_option maxRecDepth 20000 in
theorem k_X9_mergeInto : LKV z_X9_mergeInto 2 := ⟨⟨ALL_at 1707 (by decide +kernel) rfl, (inALL_at 125 (by decide +kernel) rfl), by decide +kernel⟩, (inALL_at 1706 (by decide +kernel) rfl), (inALL_at 81 (by decide +kernel) rfl)⟩
def z_X9_executePause : MZ := (yX9_executePause, cX9_executePause, 4, (some .boolean), [(0, .aload_n 0, 1), (1, .iload_n 1, 1), (2, .iload_n 2, 1), (3, .invokevirtual 296, 3), (6, .istore_n 3, 1), (7, .iconst 1, 1), (8, .ireturn, 1)], ftX9)
set_option maxRecDepth 20000 in
theorem zo_X9_executePause : ZOK z_X9_executePause := ⟨by decide +kernel, ftX9_ok⟩
set_option maxRecDepth 20000 in
theorem k_X9_executePause : LKV z_X9_executePause 2 := ⟨⟨ALL_at 1711 (by decide +kernel) rfl, (inALL_at 125 (by decide +kernel) rfl), by decide +kernel⟩, (inALL_at 1710 (by decide +kernel) rfl), (inALL_at 82 (by decide +kernel) rfl)⟩
def z_X9_pause : MZ := (yX9_pause, cX9_pause, 4, (some .boolean), [(0, .aload_n 0, 1), (1, .getfield 9, 3), (4, .iload_n 1, 1), (5, .invokestatic 77, 3), (8, .bipush 8, 2), (10, .iadd, 1), (11, .iaload, 1), (12, .iconst 1, 1), (13, .if_icmp .ne 7, 3), (16, .iconst 1, 1), (17, .goto 4, 3), (20, .iconst 0, 1), (21, .istore_n 3, 1), (22, .aload_n 0, 1), (23, .getfield 9, 3), (26, .iload_n 1, 1), (27, .invokestatic 77, 3), (30, .bipush 8, 2), (32, .iadd, 1), (33, .iload_n 2, 1), (34, .invokestatic 136, 3), (37, .iastore, 1), (38, .iload_n 3, 1), (39, .ireturn, 1)], ftX9)
set_option maxRecDepth 20000 in
theorem zo_X9_pause : ZOK z_X9_pause := ⟨by decide +kernel, ftX9_ok⟩
set_option maxRecDepth 20000 in
theorem k_X9_pause : LKV z_X9_pause 2 := ⟨⟨ALL_at 1715 (by decide +kernel) rfl, (inALL_at 125 (by decide +kernel) rfl), by decide +kernel⟩, (inALL_at 1714 (by decide +kernel) rfl), (inALL_at 83 (by decide +kernel) rfl)⟩
def z_X9_queueCount : MZ := (yX9_queueCount, cX9_queueCount, 1, (some .int), [(0, .aload_n 0, 1), (1, .iconst 0, 1), (2, .invokevirtual 339, 3), (5, .ireturn, 1)], ftX9)
set_option maxRecDepth 20000 in
theorem zo_X9_queueCount : ZOK z_X9_queueCount := ⟨by decide +kernel, ftX9_ok⟩
set_option maxRecDepth 20000 in
theorem k_X9_queueCount : LKV z_X9_queueCount 0 := ⟨⟨ALL_at 1719 (by decide +kernel) rfl, (inALL_at 125 (by decide +kernel) rfl), by decide +kernel⟩, (inALL_at 1717 (by decide +kernel) rfl), (inALL_at 1718 (by decide +kernel) rfl)⟩
def z_X9_numberOf : MZ := (yX9_numberOf, cX9_numberOf, 2, (some .int), [(0, .aload_n 0, 1), (1, .iconst 0, 1), (2, .putfield 67, 3), (5, .aload_n 0, 1), (6, .getfield 9, 3), (9, .iload_n 1, 1), (10, .iaload, 1), (11, .ireturn, 1)], ftX9)
set_option maxRecDepth 20000 in
theorem zo_X9_numberOf : ZOK z_X9_numberOf := ⟨by decide +kernel, ftX9_ok⟩
set_option maxRecDepth 20000 in
theorem k_X9_numberOf : LKV z_X9_numberOf 1 := ⟨⟨ALL_at 1723 (by decide +kernel) rfl, (inALL_at 125 (by decide +kernel) rfl), by decide +kernel⟩, (inALL_at 1722 (by decide +kernel) rfl), (inALL_at 84 (by decide +kernel) rfl)⟩
def z_X9_ownerCount : MZ := (yX9_ownerCount, cX9_ownerCount, 1, (some .int), [(0, .aload_n 0, 1), (1, .iconst 1, 1), (2, .invokevirtual 339, 3), (5, .ireturn, 1)], ftX9)
set_option maxRecDepth 20000 in
theorem zo_X9_ownerCount : ZOK z_X9_ownerCount := ⟨by decide +kernel, ftX9_ok⟩
set_option maxRecDepth 20000 in
theorem k_X9_ownerCount : LKV z_X9_ownerCount 0 := ⟨⟨ALL_at 1727 (by decide +kernel) rfl, (inALL_at 125 (by decide +kernel) rfl), by decide +kernel⟩, (inALL_at 1725 (by decide +kernel) rfl), (inALL_at 1726 (by decide +kernel) rfl)⟩
def z_X9_jobCount : MZ := (yX9_jobCount, cX9_jobCount, 1, (some .int), [(0, .aload_n 0, 1), (1, .iconst 2, 1), (2, .invokevirtual 339, 3), (5, .ireturn, 1)], ftX9)
set_option maxRecDepth 20000 in
theorem zo_X9_jobCount : ZOK z_X9_jobCount := ⟨by decide +kernel, ftX9_ok⟩
set_option maxRecDepth 20000 in
theorem k_X9_jobCount : LKV z_X9_jobCount 0 := ⟨⟨ALL_at 1731 (by decide +kernel) rfl, (inALL_at 125 (by decide +kernel) rfl), by decide +kernel⟩, (inALL_at 1729 (by decide +kernel) rfl), (inALL_at 1730 (by decide +kernel) rfl)⟩
def z_X9_queueNameByte : MZ := (yX9_queueNameByte, cX9_queueNameByte, 3, (some .int), [(0, .aload_n 0, 1), (1, .iload_n 1, 1), (2, .invokevirtual 342, 3), (5, .ifCond .eq 15, 3), (8, .aload_n 0, 1), (9, .iload_n 1, 1), (10, .invokestatic 77, 3), (13, .iload_n 2, 1), (14, .invokevirtual 345, 3), (17, .goto 4, 3), (20, .iconst 0, 1), (21, .ireturn, 1)], ftX9)
set_option maxRecDepth 20000 in
theorem zo_X9_queueNameByte : ZOK z_X9_queueNameByte := ⟨by decide +kernel, ftX9_ok⟩
set_option maxRecDepth 20000 in
theorem k_X9_queueNameByte : LKV z_X9_queueNameByte 2 := ⟨⟨ALL_at 1735 (by decide +kernel) rfl, (inALL_at 125 (by decide +kernel) rfl), by decide +kernel⟩, (inALL_at 1733 (by decide +kernel) rfl), (inALL_at 1734 (by decide +kernel) rfl)⟩
def z_X9_checkQueue : MZ := (yX9_checkQueue, cX9_checkQueue, 2, (some .boolean), [(0, .aload_n 0, 1), (1, .aload_n 0, 1), (2, .iload_n 1, 1), (3, .invokevirtual 332, 3), (6, .iconst 1, 1), (7, .iconst 1, 1), (8, .invokevirtual 335, 3), (11, .ireturn, 1)], ftX9)
set_option maxRecDepth 20000 in
theorem zo_X9_checkQueue : ZOK z_X9_checkQueue := ⟨by decide +kernel, ftX9_ok⟩
set_option maxRecDepth 20000 in
theorem k_X9_checkQueue : LKV z_X9_checkQueue 1 := ⟨⟨ALL_at 1739 (by decide +kernel) rfl, (inALL_at 125 (by decide +kernel) rfl), by decide +kernel⟩, (inALL_at 1738 (by decide +kernel) rfl), (inALL_at 85 (by decide +kernel) rfl)⟩
def z_X9_isQueue : MZ := (yX9_isQueue, cX9_isQueue, 2, (some .boolean), [(0, .iload_n 1, 1), (1, .i2l, 1), (2, .lconst 0, 1), (3, .aload_n 0, 1), (4, .getfield 9, 3), (7, .iconst 0, 1), (8, .iaload, 1), (9, .iconst 1, 1), (10, .isub, 1), (11, .i2l, 1), (12, .invokestatic 152, 3), (15, .ireturn, 1)], ftX9)
set_option maxRecDepth 20000 in
theorem zo_X9_isQueue : ZOK z_X9_isQueue := ⟨by decide +kernel, ftX9_ok⟩
set_option maxRecDepth 20000 in
theorem k_X9_isQueue : LKV z_X9_isQueue 1 := ⟨⟨ALL_at 1743 (by decide +kernel) rfl, (inALL_at 125 (by decide +kernel) rfl), by decide +kernel⟩, (inALL_at 1742 (by decide +kernel) rfl), (inALL_at 86 (by decide +kernel) rfl)⟩
def z_X9_check : MZ := (yX9_check, cX9_check, 4, (some .boolean), [(0, .aload_n 0, 1), (1, .iload_n 1, 1), (2, .ifCond .ne 7, 3), (5, .iconst 1, 1), (6, .goto 20, 3), (9, .iload_n 2, 1), (10, .ifCond .ne 7, 3), (13, .iconst 2, 1), (14, .goto 12, 3), (17, .iload_n 3, 1), (18, .ifCond .ne 7, 3), (21, .iconst 3, 1), (22, .goto 4, 3), (25, .iconst 0, 1), (26, .putfield 67, 3), (29, .aload_n 0, 1), (30, .getfield 67, 3), (33, .ifCond .ne 7, 3), (36, .iconst 1, 1), (37, .goto 4, 3), (40, .iconst 0, 1), (41, .ireturn, 1)], ftX9)
set_option maxRecDepth 20000 in
theorem zo_X9_check : ZOK z_X9_check := ⟨by decide +kernel, ftX9_ok⟩
set_option maxRecDepth 20000 in
theorem k_X9_check : LKV z_X9_check 3 := ⟨⟨ALL_at 1747 (by decide +kernel) rfl, (inALL_at 125 (by decide +kernel) rfl), by decide +kernel⟩, (inALL_at 1746 (by decide +kernel) rfl), (inALL_at 87 (by decide +kernel) rfl)⟩
def z_X9_letterAt : MZ := (yX9_letterAt, cX9_letterAt, 3, (some .int), [(0, .iload_n 2, 1), (1, .i2l, 1), (2, .lconst 0, 1), (3, .aload_n 0, 1), (4, .getfield 9, 3), (7, .iload_n 1, 1), (8, .iaload, 1), (9, .iconst 1, 1), (10, .isub, 1), (11, .i2l, 1), (12, .invokestatic 152, 3), (15, .ifCond .eq 16, 3), (18, .aload_n 0, 1), (19, .getfield 9, 3), (22, .iload_n 1, 1), (23, .iconst 1, 1), (24, .iadd, 1), (25, .iload_n 2, 1), (26, .iadd, 1), (27, .iaload, 1), (28, .goto 4, 3), (31, .iconst (-1), 1), (32, .ireturn, 1)], ftX9)
set_option maxRecDepth 20000 in
theorem zo_X9_letterAt : ZOK z_X9_letterAt := ⟨by decide +kernel, ftX9_ok⟩
set_option maxRecDepth 20000 in
theorem k_X9_letterAt : LKV z_X9_letterAt 2 := ⟨⟨ALL_at 1751 (by decide +kernel) rfl, (inALL_at 125 (by decide +kernel) rfl), by decide +kernel⟩, (inALL_at 1750 (by decide +kernel) rfl), (inALL_at 88 (by decide +kernel) rfl)⟩
def z_X9_ownerNameByte : MZ := (yX9_ownerNameByte, cX9_ownerNameByte, 3, (some .int), [(0, .aload_n 0, 1), (1, .aload_n 0, 1), (2, .iload_n 1, 1), (3, .invokevirtual 348, 3), (6, .iconst 1, 1), (7, .iconst 1, 1), (8, .invokevirtual 335, 3), (11, .ifCond .eq 15, 3), (14, .aload_n 0, 1), (15, .iload_n 1, 1), (16, .invokestatic 84, 3), (19, .iload_n 2, 1), (20, .invokevirtual 345, 3), (23, .goto 4, 3), (26, .iconst 0, 1), (27, .ireturn, 1)], ftX9)
set_option maxRecDepth 20000 in
theorem zo_X9_ownerNameByte : ZOK z_X9_ownerNameByte := ⟨by decide +kernel, ftX9_ok⟩
set_option maxRecDepth 20000 in
theorem k_X9_ownerNameByte : LKV z_X9_ownerNameByte 2 := ⟨⟨ALL_at 1755 (by decide +kernel) rfl, (inALL_at 125 (by decide +kernel) rfl), by decide +kernel⟩, (inALL_at 1753 (by decide +kernel) rfl), (inALL_at 1754 (by decide +kernel) rfl)⟩
def z_X9_isOwner : MZ := (yX9_isOwner, cX9_isOwner, 2, (some .boolean), [(0, .iload_n 1, 1), (1, .i2l, 1), (2, .lconst 0, 1), (3, .aload_n 0, 1), (4, .getfield 9, 3), (7, .iconst 1, 1), (8, .iaload, 1), (9, .iconst 1, 1), (10, .isub, 1), (11, .i2l, 1), (12, .invokestatic 152, 3), (15, .ireturn, 1)], ftX9)
set_option maxRecDepth 20000 in
theorem zo_X9_isOwner : ZOK z_X9_isOwner := ⟨by decide +kernel, ftX9_ok⟩
set_option maxRecDepth 20000 in
theorem k_X9_isOwner : LKV z_X9_isOwner 1 := ⟨⟨ALL_at 1759 (by decide +kernel) rfl, (inALL_at 125 (by decide +kernel) rfl), by decide +kernel⟩, (inALL_at 1758 (by decide +kernel) rfl), (inALL_at 89 (by decide +kernel) rfl)⟩
def z_X9_queueOf : MZ := (yX9_queueOf, cX9_queueOf, 2, (some .int), [(0, .aload_n 0, 1), (1, .iload_n 1, 1), (2, .invokevirtual 351, 3), (5, .ifCond .ne 5, 3), (8, .iconst 0, 1), (9, .ireturn, 1), (10, .aload_n 0, 1), (11, .iload_n 1, 1), (12, .invokevirtual 130, 3), (15, .ifCond .eq 12, 3), (18, .aload_n 0, 1), (19, .iload_n 1, 1), (20, .iconst 4, 1), (21, .invokevirtual 90, 3), (24, .goto 4, 3), (27, .iconst (-1), 1), (28, .ireturn, 1)], ftX9)
set_option maxRecDepth 20000 in
theorem zo_X9_queueOf : ZOK z_X9_queueOf := ⟨by decide +kernel, ftX9_ok⟩
set_option maxRecDepth 20000 in
theorem k_X9_queueOf : LKV z_X9_queueOf 1 := ⟨⟨ALL_at 1763 (by decide +kernel) rfl, (inALL_at 125 (by decide +kernel) rfl), by decide +kernel⟩, (inALL_at 1761 (by decide +kernel) rfl), (inALL_at 1762 (by decide +kernel) rfl)⟩
def z_X9_checkJob : MZ := (yX9_checkJob, cX9_checkJob, 2, (some .boolean), [(0, .aload_n 0, 1), (1, .aload_n 0, 1), (2, .iload_n 1, 1), (3, .invokevirtual 293, 3), (6, .iconst 1, 1), (7, .iconst 1, 1), (8, .invokevirtual 335, 3), (11, .ireturn, 1)], ftX9)
set_option maxRecDepth 20000 in
theorem zo_X9_checkJob : ZOK z_X9_checkJob := ⟨by decide +kernel, ftX9_ok⟩
set_option maxRecDepth 20000 in
theorem k_X9_checkJob : LKV z_X9_checkJob 1 := ⟨⟨ALL_at 1767 (by decide +kernel) rfl, (inALL_at 125 (by decide +kernel) rfl), by decide +kernel⟩, (inALL_at 1766 (by decide +kernel) rfl), (inALL_at 90 (by decide +kernel) rfl)⟩
def z_X9_ownerOf : MZ := (yX9_ownerOf, cX9_ownerOf, 2, (some .int), [(0, .aload_n 0, 1), (1, .iload_n 1, 1), (2, .invokevirtual 351, 3), (5, .ifCond .eq 12, 3), (8, .aload_n 0, 1), (9, .iload_n 1, 1), (10, .iconst 0, 1), (11, .invokevirtual 90, 3), (14, .goto 4, 3), (17, .iconst 0, 1), (18, .ireturn, 1)], ftX9)
set_option maxRecDepth 20000 in
theorem zo_X9_ownerOf : ZOK z_X9_ownerOf := ⟨by decide +kernel, ftX9_ok⟩
set_option maxRecDepth 20000 in
theorem k_X9_ownerOf : LKV z_X9_ownerOf 1 := ⟨⟨ALL_at 1771 (by decide +kernel) rfl, (inALL_at 125 (by decide +kernel) rfl), by decide +kernel⟩, (inALL_at 1769 (by decide +kernel) rfl), (inALL_at 1770 (by decide +kernel) rfl)⟩
def z_X9_priority : MZ := (yX9_priority, cX9_priority, 2, (some .int), [(0, .aload_n 0, 1), (1, .iload_n 1, 1), (2, .invokevirtual 351, 3), (5, .ifCond .eq 12, 3), (8, .aload_n 0, 1), (9, .iload_n 1, 1), (10, .iconst 1, 1), (11, .invokevirtual 90, 3), (14, .goto 4, 3), (17, .iconst 0, 1), (18, .ireturn, 1)], ftX9)
set_option maxRecDepth 20000 in
theorem zo_X9_priority : ZOK z_X9_priority := ⟨by decide +kernel, ftX9_ok⟩
set_option maxRecDepth 20000 in
theorem k_X9_priority : LKV z_X9_priority 1 := ⟨⟨ALL_at 1775 (by decide +kernel) rfl, (inALL_at 125 (by decide +kernel) rfl), by decide +kernel⟩, (inALL_at 1773 (by decide +kernel) rfl), (inALL_at 1774 (by decide +kernel) rfl)⟩
def z_X9_pages : MZ := (yX9_pages, cX9_pages, 2, (some .int), [(0, .aload_n 0, 1), (1, .iload_n 1, 1), (2, .invokevirtual 351, 3), (5, .ifCond .eq 12, 3), (8, .aload_n 0, 1), (9, .iload_n 1, 1), (10, .iconst 2, 1), (11, .invokevirtual 90, 3), (14, .goto 4, 3), (17, .iconst 0, 1), (18, .ireturn, 1)], ftX9)
set_option maxRecDepth 20000 in
theorem zo_X9_pages : ZOK z_X9_pages := ⟨by decide +kernel, ftX9_ok⟩
set_option maxRecDepth 20000 in
theorem k_X9_pages : LKV z_X9_pages 1 := ⟨⟨ALL_at 1779 (by decide +kernel) rfl, (inALL_at 125 (by decide +kernel) rfl), by decide +kernel⟩, (inALL_at 1777 (by decide +kernel) rfl), (inALL_at 1778 (by decide +kernel) rfl)⟩
def z_X9_isWaiting : MZ := (yX9_isWaiting, cX9_isWaiting, 2, (some .boolean), [(0, .aload_n 0, 1), (1, .iload_n 1, 1), (2, .invokevirtual 351, 3), (5, .ifCond .eq 16, 3), (8, .aload_n 0, 1), (9, .iload_n 1, 1), (10, .iconst 3, 1), (11, .invokevirtual 90, 3), (14, .ifCond .ne 7, 3), (17, .iconst 1, 1), (18, .goto 4, 3), (21, .iconst 0, 1), (22, .ireturn, 1)], ftX9)
set_option maxRecDepth 20000 in
theorem zo_X9_isWaiting : ZOK z_X9_isWaiting := ⟨by decide +kernel, ftX9_ok⟩
set_option maxRecDepth 20000 in
theorem k_X9_isWaiting : LKV z_X9_isWaiting 1 := ⟨⟨ALL_at 1783 (by decide +kernel) rfl, (inALL_at 125 (by decide +kernel) rfl), by decide +kernel⟩, (inALL_at 1781 (by decide +kernel) rfl), (inALL_at 1782 (by decide +kernel) rfl)⟩
def z_X9_isPrinted : MZ := (yX9_isPrinted, cX9_isPrinted, 2, (some .boolean), [(0, .aload_n 0, 1), (1, .iload_n 1, 1), (2, .invokevirtual 351, 3), (5, .ifCond .eq 17, 3), (8, .aload_n 0, 1), (9, .iload_n 1, 1), (10, .iconst 3, 1), (11, .invokevirtual 90, 3), (14, .iconst 1, 1), (15, .if_icmp .ne 7, 3), (18, .iconst 1, 1), (19, .goto 4, 3), (22, .iconst 0, 1), (23, .ireturn, 1)], ftX9)
set_option maxRecDepth 20000 in
theorem zo_X9_isPrinted : ZOK z_X9_isPrinted := ⟨by decide +kernel, ftX9_ok⟩
set_option maxRecDepth 20000 in
theorem k_X9_isPrinted : LKV z_X9_isPrinted 1 := ⟨⟨ALL_at 1787 (by decide +kernel) rfl, (inALL_at 125 (by decide +kernel) rfl), by decide +kernel⟩, (inALL_at 1785 (by decide +kernel) rfl), (inALL_at 1786 (by decide +kernel) rfl)⟩
def z_X9_isCancelled : MZ := (yX9_isCancelled, cX9_isCancelled, 2, (some .boolean), [(0, .aload_n 0, 1), (1, .iload_n 1, 1), (2, .invokevirtual 351, 3), (5, .ifCond .eq 17, 3), (8, .aload_n 0, 1), (9, .iload_n 1, 1), (10, .iconst 3, 1), (11, .invokevirtual 90, 3), (14, .iconst 2, 1), (15, .if_icmp .ne 7, 3), (18, .iconst 1, 1), (19, .goto 4, 3), (22, .iconst 0, 1), (23, .ireturn, 1)], ftX9)
set_option maxRecDepth 20000 in
theorem zo_X9_isCancelled : ZOK z_X9_isCancelled := ⟨by decide +kernel, ftX9_ok⟩
set_option maxRecDepth 20000 in
theorem k_X9_isCancelled : LKV z_X9_isCancelled 1 := ⟨⟨ALL_at 1791 (by decide +kernel) rfl, (inALL_at 125 (by decide +kernel) rfl), by decide +kernel⟩, (inALL_at 1789 (by decide +kernel) rfl), (inALL_at 1790 (by decide +kernel) rfl)⟩
def z_X9_root : MZ := (yX9_root, cX9_root, 2, (some .int), [(0, .aload_n 0, 1), (1, .iload_n 1, 1), (2, .invokevirtual 342, 3), (5, .ifCond .eq 11, 3), (8, .aload_n 0, 1), (9, .iload_n 1, 1), (10, .invokevirtual 117, 3), (13, .goto 4, 3), (16, .iconst 0, 1), (17, .ireturn, 1)], ftX9)
set_option maxRecDepth 20000 in
theorem zo_X9_root : ZOK z_X9_root := ⟨by decide +kernel, ftX9_ok⟩
set_option maxRecDepth 20000 in
theorem k_X9_root : LKV z_X9_root 1 := ⟨⟨ALL_at 1795 (by decide +kernel) rfl, (inALL_at 125 (by decide +kernel) rfl), by decide +kernel⟩, (inALL_at 1793 (by decide +kernel) rfl), (inALL_at 1794 (by decide +kernel) rfl)⟩
def z_X9_leftChild : MZ := (yX9_leftChild, cX9_leftChild, 2, (some .int), [(0, .aload_n 0, 1), (1, .iload_n 1, 1), (2, .invokevirtual 351, 3), (5, .ifCond .eq 12, 3), (8, .aload_n 0, 1), (9, .iload_n 1, 1), (10, .iconst 5, 1), (11, .invokevirtual 90, 3), (14, .goto 4, 3), (17, .iconst 0, 1), (18, .ireturn, 1)], ftX9)
set_option maxRecDepth 20000 in
theorem zo_X9_leftChild : ZOK z_X9_leftChild := ⟨by decide +kernel, ftX9_ok⟩
set_option maxRecDepth 20000 in
theorem k_X9_leftChild : LKV z_X9_leftChild 1 := ⟨⟨ALL_at 1799 (by decide +kernel) rfl, (inALL_at 125 (by decide +kernel) rfl), by decide +kernel⟩, (inALL_at 1797 (by decide +kernel) rfl), (inALL_at 1798 (by decide +kernel) rfl)⟩
def z_X9_rightChild : MZ := (yX9_rightChild, cX9_rightChild, 2, (some .int), [(0, .aload_n 0, 1), (1, .iload_n 1, 1), (2, .invokevirtual 351, 3), (5, .ifCond .eq 13, 3), (8, .aload_n 0, 1), (9, .iload_n 1, 1), (10, .bipush 6, 2), (12, .invokevirtual 90, 3), (15, .goto 4, 3), (18, .iconst 0, 1), (19, .ireturn, 1)], ftX9)
set_option maxRecDepth 20000 in
theorem zo_X9_rightChild : ZOK z_X9_rightChild := ⟨by decide +kernel, ftX9_ok⟩
set_option maxRecDepth 20000 in
theorem k_X9_rightChild : LKV z_X9_rightChild 1 := ⟨⟨ALL_at 1803 (by decide +kernel) rfl, (inALL_at 125 (by decide +kernel) rfl), by decide +kernel⟩, (inALL_at 1801 (by decide +kernel) rfl), (inALL_at 1802 (by decide +kernel) rfl)⟩
def z_X9_parent : MZ := (yX9_parent, cX9_parent, 2, (some .int), [(0, .aload_n 0, 1), (1, .iload_n 1, 1), (2, .invokevirtual 351, 3), (5, .ifCond .eq 13, 3), (8, .aload_n 0, 1), (9, .iload_n 1, 1), (10, .bipush 7, 2), (12, .invokevirtual 90, 3), (15, .goto 4, 3), (18, .iconst 0, 1), (19, .ireturn, 1)], ftX9)
set_option maxRecDepth 20000 in
theorem zo_X9_parent : ZOK z_X9_parent := ⟨by decide +kernel, ftX9_ok⟩
set_option maxRecDepth 20000 in
theorem k_X9_parent : LKV z_X9_parent 1 := ⟨⟨ALL_at 1807 (by decide +kernel) rfl, (inALL_at 125 (by decide +kernel) rfl), by decide +kernel⟩, (inALL_at 1805 (by decide +kernel) rfl), (inALL_at 1806 (by decide +kernel) rfl)⟩
def z_X9_rank : MZ := (yX9_rank, cX9_rank, 2, (some .int), [(0, .aload_n 0, 1), (1, .iload_n 1, 1), (2, .invokevirtual 351, 3), (5, .ifCond .eq 13, 3), (8, .aload_n 0, 1), (9, .iload_n 1, 1), (10, .bipush 8, 2), (12, .invokevirtual 90, 3), (15, .goto 4, 3), (18, .iconst 0, 1), (19, .ireturn, 1)], ftX9)
set_option maxRecDepth 20000 in
theorem zo_X9_rank : ZOK z_X9_rank := ⟨by decide +kernel, ftX9_ok⟩
set_option maxRecDepth 20000 in
theorem k_X9_rank : LKV z_X9_rank 1 := ⟨⟨ALL_at 1811 (by decide +kernel) rfl, (inALL_at 125 (by decide +kernel) rfl), by decide +kernel⟩, (inALL_at 1809 (by decide +kernel) rfl), (inALL_at 1810 (by decide +kernel) rfl)⟩
def z_X9_depth : MZ := (yX9_depth, cX9_depth, 4, (some .int), [(0, .aload_n 0, 1), (1, .iload_n 1, 1), (2, .invokevirtual 354, 3), (5, .ifCond .ne 5, 3), (8, .iconst 0, 1), (9, .ireturn, 1), (10, .iconst 0, 1), (11, .istore_n 2, 1), (12, .aload_n 0, 1), (13, .iload_n 1, 1), (14, .bipush 7, 2), (16, .invokevirtual 90, 3), (19, .istore_n 3, 1), (20, .iload_n 3, 1), (21, .iconst (-1), 1), (22, .if_icmp .eq 17, 3), (25, .iinc 2 1, 3), (28, .aload_n 0, 1), (29, .iload_n 3, 1), (30, .bipush 7, 2), (32, .invokevirtual 90, 3), (35, .istore_n 3, 1), (36, .goto (-16), 3), (39, .iload_n 2, 1), (40, .ireturn, 1)], ftX9)
set_option maxRecDepth 20000 in
theorem zo_X9_depth : ZOK z_X9_depth := ⟨by decide +kernel, ftX9_ok⟩
set_option maxRecDepth 20000 in
theorem k_X9_depth : LKV z_X9_depth 1 := ⟨⟨ALL_at 1815 (by decide +kernel) rfl, (inALL_at 125 (by decide +kernel) rfl), by decide +kernel⟩, (inALL_at 1813 (by decide +kernel) rfl), (inALL_at 1814 (by decide +kernel) rfl)⟩
def z_X9_checkWaiting : MZ := (yX9_checkWaiting, cX9_checkWaiting, 3, (some .boolean), [(0, .aload_n 0, 1), (1, .iload_n 1, 1), (2, .invokevirtual 293, 3), (5, .istore_n 2, 1), (6, .aload_n 0, 1), (7, .iload_n 2, 1), (8, .iload_n 2, 1), (9, .ifCond .eq 15, 3), (12, .aload_n 0, 1), (13, .iload_n 1, 1), (14, .invokevirtual 130, 3), (17, .ifCond .eq 7, 3), (20, .iconst 1, 1), (21, .goto 4, 3), (24, .iconst 0, 1), (25, .iconst 1, 1), (26, .invokevirtual 335, 3), (29, .ireturn, 1)], ftX9)
set_option maxRecDepth 20000 in
theorem zo_X9_checkWaiting : ZOK z_X9_checkWaiting := ⟨by decide +kernel, ftX9_ok⟩
set_option maxRecDepth 20000 in
theorem k_X9_checkWaiting : LKV z_X9_checkWaiting 1 := ⟨⟨ALL_at 1819 (by decide +kernel) rfl, (inALL_at 125 (by decide +kernel) rfl), by decide +kernel⟩, (inALL_at 1818 (by decide +kernel) rfl), (inALL_at 91 (by decide +kernel) rfl)⟩
def z_X9_height : MZ := (yX9_height, cX9_height, 2, (some .int), [(0, .aload_n 0, 1), (1, .iload_n 1, 1), (2, .invokevirtual 342, 3), (5, .ifCond .eq 15, 3), (8, .aload_n 0, 1), (9, .aload_n 0, 1), (10, .iload_n 1, 1), (11, .invokevirtual 117, 3), (14, .invokevirtual 357, 3), (17, .goto 4, 3), (20, .iconst 0, 1), (21, .ireturn, 1)], ftX9)
set_option maxRecDepth 20000 in
theorem zo_X9_height : ZOK z_X9_height := ⟨by decide +kernel, ftX9_ok⟩
set_option maxRecDepth 20000 in
theorem k_X9_height : LKV z_X9_height 1 := ⟨⟨ALL_at 1823 (by decide +kernel) rfl, (inALL_at 125 (by decide +kernel) rfl), by decide +kernel⟩, (inALL_at 1821 (by decide +kernel) rfl), (inALL_at 1822 (by decide +kernel) rfl)⟩
def z_X9_heightFrom : MZ := (yX9_heightFrom, cX9_heightFrom, 4, (some .int), [(0, .iload_n 1, 1), (1, .iconst (-1), 1), (2, .if_icmp .ne 5, 3), (5, .iconst 0, 1), (6, .ireturn, 1), (7, .aload_n 0, 1), (8, .aload_n 0, 1), (9, .iload_n 1, 1), (10, .iconst 5, 1), (11, .invokevirtual 90, 3), (14, .invokevirtual 357, 3), (17, .istore_n 2, 1), (18, .aload_n 0, 1), (19, .aload_n 0, 1), (20, .iload_n 1, 1), (21, .bipush 6, 2), (23, .invokevirtual 90, 3), (26, .invokevirtual 357, 3), (29, .istore_n 3, 1), (30, .iconst 1, 1), (31, .iload_n 2, 1), (32, .iload_n 3, 1), (33, .invokestatic 207, 3), (36, .iadd, 1), (37, .ireturn, 1)], ftX9)
set_option maxRecDepth 20000 in
theorem zo_X9_heightFrom : ZOK z_X9_heightFrom := ⟨by decide +kernel, ftX9_ok⟩
set_option maxRecDepth 20000 in
theorem k_X9_heightFrom : LKV z_X9_heightFrom 1 := ⟨⟨ALL_at 1827 (by decide +kernel) rfl, (inALL_at 125 (by decide +kernel) rfl), by decide +kernel⟩, (inALL_at 1826 (by decide +kernel) rfl), (inALL_at 92 (by decide +kernel) rfl)⟩
def z_X9_size : MZ := (yX9_size, cX9_size, 2, (some .int), [(0, .aload_n 0, 1), (1, .iload_n 1, 1), (2, .invokevirtual 342, 3), (5, .ifCond .eq 11, 3), (8, .aload_n 0, 1), (9, .iload_n 1, 1), (10, .invokevirtual 143, 3), (13, .goto 4, 3), (16, .iconst 0, 1), (17, .ireturn, 1)], ftX9)
set_option maxRecDepth 20000 in
theorem zo_X9_size : ZOK z_X9_size := ⟨by decide +kernel, ftX9_ok⟩
set_option maxRecDepth 20000 in
theorem k_X9_size : LKV z_X9_size 1 := ⟨⟨ALL_at 1831 (by decide +kernel) rfl, (inALL_at 125 (by decide +kernel) rfl), by decide +kernel⟩, (inALL_at 1829 (by decide +kernel) rfl), (inALL_at 1830 (by decide +kernel) rfl)⟩
def z_X9_jobAt : MZ := (yX9_jobAt, cX9_jobAt, 3, (some .int), [(0, .aload_n 0, 1), (1, .iload_n 1, 1), (2, .invokevirtual 342, 3), (5, .ifCond .eq 12, 3), (8, .aload_n 0, 1), (9, .iload_n 1, 1), (10, .iload_n 2, 1), (11, .invokevirtual 363, 3), (14, .goto 4, 3), (17, .iconst 0, 1), (18, .ireturn, 1)], ftX9)
set_option maxRecDepth 20000 in
theorem zo_X9_jobAt : ZOK z_X9_jobAt := ⟨by decide +kernel, ftX9_ok⟩
set_option maxRecDepth 20000 in
theorem k_X9_jobAt : LKV z_X9_jobAt 2 := ⟨⟨ALL_at 1835 (by decide +kernel) rfl, (inALL_at 125 (by decide +kernel) rfl), by decide +kernel⟩, (inALL_at 1833 (by decide +kernel) rfl), (inALL_at 1834 (by decide +kernel) rfl)⟩
def z_X9_jobIn : MZ := (yX9_jobIn, cX9_jobIn, 4, (some .int), [(0, .iconst 0, 1), (1, .istore_n 3, 1), (2, .iload_n 3, 1), (3, .aload_n 0, 1), (4, .getfield 9, 3), (7, .iconst 2, 1), (8, .iaload, 1), (9, .if_icmp .ge 29, 3), (12, .aload_n 0, 1), (13, .iload_n 3, 1), (14, .iload_n 1, 1), (15, .invokevirtual 133, 3), (18, .ifCond .eq 14, 3), (21, .aload_n 0, 1), (22, .iload_n 3, 1), (23, .invokevirtual 360, 3), (26, .iload_n 2, 1), (27, .if_icmp .ne 5, 3), (30, .iload_n 3, 1), (31, .ireturn, 1), (32, .iinc 3 1, 3), (35, .goto (-33), 3), (38, .iconst (-1), 1), (39, .ireturn, 1)], ftX9)
set_option maxRecDepth 20000 in
theorem zo_X9_jobIn : ZOK z_X9_jobIn := ⟨by decide +kernel, ftX9_ok⟩
set_option maxRecDepth 20000 in
theorem k_X9_jobIn : LKV z_X9_jobIn 2 := ⟨⟨ALL_at 1839 (by decide +kernel) rfl, (inALL_at 125 (by decide +kernel) rfl), by decide +kernel⟩, (inALL_at 1838 (by decide +kernel) rfl), (inALL_at 93 (by decide +kernel) rfl)⟩
def z_X9_positionIn : MZ := (yX9_positionIn, cX9_positionIn, 4, (some .int), [(0, .iconst 0, 1), (1, .istore_n 2, 1), (2, .iconst 0, 1), (3, .istore_n 3, 1), (4, .iload_n 3, 1), (5, .aload_n 0, 1), (6, .getfield 9, 3), (9, .iconst 2, 1), (10, .iaload, 1), (11, .if_icmp .ge 43, 3), (14, .iload_n 2, 1), (15, .aload_n 0, 1), (16, .iload_n 3, 1), (17, .aload_n 0, 1), (18, .iload_n 1, 1), (19, .iconst 4, 1), (20, .invokevirtual 90, 3), (23, .invokevirtual 133, 3), (26, .ifCond .eq 16, 3), (29, .aload_n 0, 1), (30, .iload_n 3, 1), (31, .iload_n 1, 1), (32, .invokevirtual 101, 3), (35, .ifCond .eq 7, 3), (38, .iconst 1, 1), (39, .goto 4, 3), (42, .iconst 0, 1), (43, .invokestatic 136, 3), (46, .iadd, 1), (47, .istore_n 2, 1), (48, .iinc 3 1, 3), (51, .goto (-47), 3), (54, .iload_n 2, 1), (55, .ireturn, 1)], ftX9)
set_option maxRecDepth 20000 in
theorem zo_X9_positionIn : ZOK z_X9_positionIn := ⟨by decide +kernel, ftX9_ok⟩
set_option maxRecDepth 20000 in
theorem k_X9_positionIn : LKV z_X9_positionIn 1 := ⟨⟨ALL_at 1843 (by decide +kernel) rfl, (inALL_at 125 (by decide +kernel) rfl), by decide +kernel⟩, (inALL_at 1842 (by decide +kernel) rfl), (inALL_at 94 (by decide +kernel) rfl)⟩
def z_X9_positionOf : MZ := (yX9_positionOf, cX9_positionOf, 2, (some .int), [(0, .aload_n 0, 1), (1, .iload_n 1, 1), (2, .invokevirtual 354, 3), (5, .ifCond .eq 11, 3), (8, .aload_n 0, 1), (9, .iload_n 1, 1), (10, .invokevirtual 360, 3), (13, .goto 4, 3), (16, .iconst 0, 1), (17, .ireturn, 1)], ftX9)
set_option maxRecDepth 20000 in
theorem zo_X9_positionOf : ZOK z_X9_positionOf := ⟨by decide +kernel, ftX9_ok⟩
set_option maxRecDepth 20000 in
theorem k_X9_positionOf : LKV z_X9_positionOf 1 := ⟨⟨ALL_at 1847 (by decide +kernel) rfl, (inALL_at 125 (by decide +kernel) rfl), by decide +kernel⟩, (inALL_at 1845 (by decide +kernel) rfl), (inALL_at 1846 (by decide +kernel) rfl)⟩
def z_X9_pagesBefore : MZ := (yX9_pagesBefore, cX9_pagesBefore, 2, (some .int), [(0, .aload_n 0, 1), (1, .iload_n 1, 1), (2, .invokevirtual 354, 3), (5, .ifCond .eq 11, 3), (8, .aload_n 0, 1), (9, .iload_n 1, 1), (10, .invokevirtual 366, 3), (13, .goto 4, 3), (16, .iconst 0, 1), (17, .ireturn, 1)], ftX9)
set_option maxRecDepth 20000 in
theorem zo_X9_pagesBefore : ZOK z_X9_pagesBefore := ⟨by decide +kernel, ftX9_ok⟩
set_option maxRecDepth 20000 in
theorem k_X9_pagesBefore : LKV z_X9_pagesBefore 1 := ⟨⟨ALL_at 1851 (by decide +kernel) rfl, (inALL_at 125 (by decide +kernel) rfl), by decide +kernel⟩, (inALL_at 1849 (by decide +kernel) rfl), (inALL_at 1850 (by decide +kernel) rfl)⟩
def z_X9_pagesAhead : MZ := (yX9_pagesAhead, cX9_pagesAhead, 5, (some .int), [(0, .iconst 0, 1), (1, .istore_n 2, 1), (2, .iconst 0, 1), (3, .istore_n 3, 1), (4, .iload_n 3, 1), (5, .aload_n 0, 1), (6, .getfield 9, 3), (9, .iconst 2, 1), (10, .iaload, 1), (11, .if_icmp .ge 57, 3), (14, .aload_n 0, 1), (15, .iload_n 3, 1), (16, .aload_n 0, 1), (17, .iload_n 1, 1), (18, .iconst 4, 1), (19, .invokevirtual 90, 3), (22, .invokevirtual 133, 3), (25, .ifCond .eq 16, 3), (28, .aload_n 0, 1), (29, .iload_n 3, 1), (30, .iload_n 1, 1), (31, .invokevirtual 101, 3), (34, .ifCond .eq 7, 3), (37, .iconst 1, 1), (38, .goto 4, 3), (41, .iconst 0, 1), (42, .istore 4, 2), (44, .iload_n 2, 1), (45, .iload 4, 2), (47, .ifCond .eq 12, 3), (50, .aload_n 0, 1), (51, .iload_n 3, 1), (52, .iconst 2, 1), (53, .invokevirtual 90, 3), (56, .goto 4, 3), (59, .iconst 0, 1), (60, .iadd, 1), (61, .istore_n 2, 1), (62, .iinc 3 1, 3), (65, .goto (-61), 3), (68, .iload_n 2, 1), (69, .ireturn, 1)], ftX9)
set_option maxRecDepth 20000 in
theorem zo_X9_pagesAhead : ZOK z_X9_pagesAhead := ⟨by decide +kernel, ftX9_ok⟩
set_option maxRecDepth 20000 in
theorem k_X9_pagesAhead : LKV z_X9_pagesAhead 1 := ⟨⟨ALL_at 1855 (by decide +kernel) rfl, (inALL_at 125 (by decide +kernel) rfl), by decide +kernel⟩, (inALL_at 1854 (by decide +kernel) rfl), (inALL_at 95 (by decide +kernel) rfl)⟩
def z_X9_minutesUntilPrinted : MZ := (yX9_minutesUntilPrinted, cX9_minutesUntilPrinted, 2, (some .int), [(0, .aload_n 0, 1), (1, .iload_n 1, 1), (2, .invokevirtual 354, 3), (5, .ifCond .ne 5, 3), (8, .iconst 0, 1), (9, .ireturn, 1), (10, .aload_n 0, 1), (11, .aload_n 0, 1), (12, .iload_n 1, 1), (13, .invokevirtual 366, 3), (16, .aload_n 0, 1), (17, .iload_n 1, 1), (18, .iconst 2, 1), (19, .invokevirtual 90, 3), (22, .iadd, 1), (23, .aload_n 0, 1), (24, .iload_n 1, 1), (25, .iconst 4, 1), (26, .invokevirtual 90, 3), (29, .invokevirtual 369, 3), (32, .ireturn, 1)], ftX9)
set_option maxRecDepth 20000 in
theorem zo_X9_minutesUntilPrinted : ZOK z_X9_minutesUntilPrinted := ⟨by decide +kernel, ftX9_ok⟩
set_option maxRecDepth 20000 in
theorem k_X9_minutesUntilPrinted : LKV z_X9_minutesUntilPrinted 1 := ⟨⟨ALL_at 1859 (by decide +kernel) rfl, (inALL_at 125 (by decide +kernel) rfl), by decide +kernel⟩, (inALL_at 1857 (by decide +kernel) rfl), (inALL_at 1858 (by decide +kernel) rfl)⟩
def z_X9_minutes : MZ := (yX9_minutes, cX9_minutes, 4, (some .int), [(0, .aload_n 0, 1), (1, .getfield 9, 3), (4, .iload_n 2, 1), (5, .invokestatic 77, 3), (8, .bipush 7, 2), (10, .iadd, 1), (11, .iaload, 1), (12, .istore_n 3, 1), (13, .iload_n 1, 1), (14, .iload_n 3, 1), (15, .iadd, 1), (16, .iconst 1, 1), (17, .isub, 1), (18, .iload_n 3, 1), (19, .idiv, 1), (20, .ireturn, 1)], ftX9)
set_option maxRecDepth 20000 in
theorem zo_X9_minutes : ZOK z_X9_minutes := ⟨by decide +kernel, ftX9_ok⟩
set_option maxRecDepth 20000 in
theorem k_X9_minutes : LKV z_X9_minutes 2 := ⟨⟨ALL_at 1863 (by decide +kernel) rfl, (inALL_at 125 (by decide +kernel) rfl), by decide +kernel⟩, (inALL_at 1862 (by decide +kernel) rfl), (inALL_at 96 (by decide +kernel) rfl)⟩
def z_X9_waitingPages : MZ := (yX9_waitingPages, cX9_waitingPages, 2, (some .int), [(0, .aload_n 0, 1), (1, .iload_n 1, 1), (2, .invokevirtual 342, 3), (5, .ifCond .eq 11, 3), (8, .aload_n 0, 1), (9, .iload_n 1, 1), (10, .invokevirtual 372, 3), (13, .goto 4, 3), (16, .iconst 0, 1), (17, .ireturn, 1)], ftX9)
set_option maxRecDepth 20000 in
theorem zo_X9_waitingPages : ZOK z_X9_waitingPages := ⟨by decide +kernel, ftX9_ok⟩
set_option maxRecDepth 20000 in
theorem k_X9_waitingPages : LKV z_X9_waitingPages 1 := ⟨⟨ALL_at 1867 (by decide +kernel) rfl, (inALL_at 125 (by decide +kernel) rfl), by decide +kernel⟩, (inALL_at 1865 (by decide +kernel) rfl), (inALL_at 1866 (by decide +kernel) rfl)⟩
def z_X9_pagesIn : MZ := (yX9_pagesIn, cX9_pagesIn, 4, (some .int), [(0, .iconst 0, 1), (1, .istore_n 2, 1), (2, .iconst 0, 1), (3, .istore_n 3, 1), (4, .iload_n 3, 1), (5, .aload_n 0, 1), (6, .getfield 9, 3), (9, .iconst 2, 1), (10, .iaload, 1), (11, .if_icmp .ge 31, 3), (14, .iload_n 2, 1), (15, .aload_n 0, 1), (16, .iload_n 3, 1), (17, .iload_n 1, 1), (18, .invokevirtual 133, 3), (21, .ifCond .eq 12, 3), (24, .aload_n 0, 1), (25, .iload_n 3, 1), (26, .iconst 2, 1), (27, .invokevirtual 90, 3), (30, .goto 4, 3), (33, .iconst 0, 1), (34, .iadd, 1), (35, .istore_n 2, 1), (36, .iinc 3 1, 3), (39, .goto (-35), 3), (42, .iload_n 2, 1), (43, .ireturn, 1)], ftX9)
set_option maxRecDepth 20000 in
theorem zo_X9_pagesIn : ZOK z_X9_pagesIn := ⟨by decide +kernel, ftX9_ok⟩
set_option maxRecDepth 20000 in
theorem k_X9_pagesIn : LKV z_X9_pagesIn 1 := ⟨⟨ALL_at 1871 (by decide +kernel) rfl, (inALL_at 125 (by decide +kernel) rfl), by decide +kernel⟩, (inALL_at 1870 (by decide +kernel) rfl), (inALL_at 97 (by decide +kernel) rfl)⟩
def z_X9_printedPages : MZ := (yX9_printedPages, cX9_printedPages, 2, (some .int), [(0, .aload_n 0, 1), (1, .iload_n 1, 1), (2, .invokevirtual 342, 3), (5, .ifCond .eq 18, 3), (8, .aload_n 0, 1), (9, .getfield 9, 3), (12, .iload_n 1, 1), (13, .invokestatic 77, 3), (16, .bipush 10, 2), (18, .iadd, 1), (19, .iaload, 1), (20, .goto 4, 3), (23, .iconst 0, 1), (24, .ireturn, 1)], ftX9)
set_option maxRecDepth 20000 in
theorem zo_X9_printedPages : ZOK z_X9_printedPages := ⟨by decide +kernel, ftX9_ok⟩
set_option maxRecDepth 20000 in
theorem k_X9_printedPages : LKV z_X9_printedPages 1 := ⟨⟨ALL_at 1875 (by decide +kernel) rfl, (inALL_at 125 (by decide +kernel) rfl), by decide +kernel⟩, (inALL_at 1873 (by decide +kernel) rfl), (inALL_at 1874 (by decide +kernel) rfl)⟩
def z_X9_speed : MZ := (yX9_speed, cX9_speed, 2, (some .int), [(0, .aload_n 0, 1), (1, .iload_n 1, 1), (2, .invokevirtual 342, 3), (5, .ifCond .eq 18, 3), (8, .aload_n 0, 1), (9, .getfield 9, 3), (12, .iload_n 1, 1), (13, .invokestatic 77, 3), (16, .bipush 7, 2), (18, .iadd, 1), (19, .iaload, 1), (20, .goto 4, 3), (23, .iconst 0, 1), (24, .ireturn, 1)], ftX9)
set_option maxRecDepth 20000 in
theorem zo_X9_speed : ZOK z_X9_speed := ⟨by decide +kernel, ftX9_ok⟩
set_option maxRecDepth 20000 in
theorem k_X9_speed : LKV z_X9_speed 1 := ⟨⟨ALL_at 1879 (by decide +kernel) rfl, (inALL_at 125 (by decide +kernel) rfl), by decide +kernel⟩, (inALL_at 1877 (by decide +kernel) rfl), (inALL_at 1878 (by decide +kernel) rfl)⟩
def z_X9_isPaused : MZ := (yX9_isPaused, cX9_isPaused, 2, (some .boolean), [(0, .aload_n 0, 1), (1, .iload_n 1, 1), (2, .invokevirtual 342, 3), (5, .ifCond .eq 23, 3), (8, .aload_n 0, 1), (9, .getfield 9, 3), (12, .iload_n 1, 1), (13, .invokestatic 77, 3), (16, .bipush 8, 2), (18, .iadd, 1), (19, .iaload, 1), (20, .iconst 1, 1), (21, .if_icmp .ne 7, 3), (24, .iconst 1, 1), (25, .goto 4, 3), (28, .iconst 0, 1), (29, .ireturn, 1)], ftX9)
set_option maxRecDepth 20000 in
theorem zo_X9_isPaused : ZOK z_X9_isPaused := ⟨by decide +kernel, ftX9_ok⟩
set_option maxRecDepth 20000 in
theorem k_X9_isPaused : LKV z_X9_isPaused 1 := ⟨⟨ALL_at 1883 (by decide +kernel) rfl, (inALL_at 125 (by decide +kernel) rfl), by decide +kernel⟩, (inALL_at 1881 (by decide +kernel) rfl), (inALL_at 1882 (by decide +kernel) rfl)⟩
def z_X9_leastLoadedQueue : MZ := (yX9_leastLoadedQueue, cX9_leastLoadedQueue, 3, (some .int), [(0, .aload_n 0, 1), (1, .iconst 0, 1), (2, .putfield 67, 3), (5, .iconst 0, 1), (6, .istore_n 1, 1), (7, .iconst 1, 1), (8, .istore_n 2, 1), (9, .iload_n 2, 1), (10, .aload_n 0, 1), (11, .getfield 9, 3), (14, .iconst 0, 1), (15, .iaload, 1), (16, .if_icmp .ge 34, 3), (19, .aload_n 0, 1), (20, .aload_n 0, 1), (21, .iload_n 2, 1), (22, .invokevirtual 372, 3), (25, .iload_n 2, 1), (26, .invokevirtual 369, 3), (29, .aload_n 0, 1), (30, .aload_n 0, 1), (31, .iload_n 1, 1), (32, .invokevirtual 372, 3), (35, .iload_n 1, 1), (36, .invokevirtual 369, 3), (39, .if_icmp .ge 5, 3), (42, .iload_n 2, 1), (43, .istore_n 1, 1), (44, .iinc 2 1, 3), (47, .goto (-38), 3), (50, .iload_n 1, 1), (51, .ireturn, 1)], ftX9)
set_option maxRecDepth 20000 in
theorem zo_X9_leastLoadedQueue : ZOK z_X9_leastLoadedQueue := ⟨by decide +kernel, ftX9_ok⟩
set_option maxRecDepth 20000 in
theorem k_X9_leastLoadedQueue : LKV z_X9_leastLoadedQueue 0 := ⟨⟨ALL_at 1887 (by decide +kernel) rfl, (inALL_at 125 (by decide +kernel) rfl), by decide +kernel⟩, (inALL_at 1885 (by decide +kernel) rfl), (inALL_at 1886 (by decide +kernel) rfl)⟩
def z_X9_waitingPagesOfOwner : MZ := (yX9_waitingPagesOfOwner, cX9_waitingPagesOfOwner, 2, (some .int), [(0, .aload_n 0, 1), (1, .aload_n 0, 1), (2, .iload_n 1, 1), (3, .invokevirtual 348, 3), (6, .iconst 1, 1), (7, .iconst 1, 1), (8, .invokevirtual 335, 3), (11, .ifCond .eq 12, 3), (14, .aload_n 0, 1), (15, .iload_n 1, 1), (16, .iconst 0, 1), (17, .invokevirtual 375, 3), (20, .goto 4, 3), (23, .iconst 0, 1), (24, .ireturn, 1)], ftX9)
set_option maxRecDepth 20000 in
theorem zo_X9_waitingPagesOfOwner : ZOK z_X9_waitingPagesOfOwner := ⟨by decide +kernel, ftX9_ok⟩
set_option maxRecDepth 20000 in
theorem k_X9_waitingPagesOfOwner : LKV z_X9_waitingPagesOfOwner 1 := ⟨⟨ALL_at 1891 (by decide +kernel) rfl, (inALL_at 125 (by decide +kernel) rfl), by decide +kernel⟩, (inALL_at 1889 (by decide +kernel) rfl), (inALL_at 1890 (by decide +kernel) rfl)⟩
def z_X9_pagesOfOwner : MZ := (yX9_pagesOfOwner, cX9_pagesOfOwner, 6, (some .int), [(0, .iconst 0, 1), (1, .istore_n 3, 1), (2, .iconst 0, 1), (3, .istore 4, 2), (5, .iload 4, 2), (7, .aload_n 0, 1), (8, .getfield 9, 3), (11, .iconst 2, 1), (12, .iaload, 1), (13, .if_icmp .ge 57, 3), (16, .aload_n 0, 1), (17, .iload 4, 2), (19, .iconst 0, 1), (20, .invokevirtual 90, 3), (23, .iload_n 1, 1), (24, .if_icmp .ne 18, 3), (27, .aload_n 0, 1), (28, .iload 4, 2), (30, .iconst 3, 1), (31, .invokevirtual 90, 3), (34, .iload_n 2, 1), (35, .if_icmp .ne 7, 3), (38, .iconst 1, 1), (39, .goto 4, 3), (42, .iconst 0, 1), (43, .istore 5, 2), (45, .iload_n 3, 1), (46, .iload 5, 2), (48, .ifCond .eq 13, 3), (51, .aload_n 0, 1), (52, .iload 4, 2), (54, .iconst 2, 1), (55, .invokevirtual 90, 3), (58, .goto 4, 3), (61, .iconst 0, 1), (62, .iadd, 1), (63, .istore_n 3, 1), (64, .iinc 4 1, 3), (67, .goto (-62), 3), (70, .iload_n 3, 1), (71, .ireturn, 1)], ftX9)
set_option maxRecDepth 20000 in
theorem zo_X9_pagesOfOwner : ZOK z_X9_pagesOfOwner := ⟨by decide +kernel, ftX9_ok⟩
set_option maxRecDepth 20000 in
theorem k_X9_pagesOfOwner : LKV z_X9_pagesOfOwner 2 := ⟨⟨ALL_at 1895 (by decide +kernel) rfl, (inALL_at 125 (by decide +kernel) rfl), by decide +kernel⟩, (inALL_at 1894 (by decide +kernel) rfl), (inALL_at 98 (by decide +kernel) rfl)⟩
def z_X9_printedPagesOfOwner : MZ := (yX9_printedPagesOfOwner, cX9_printedPagesOfOwner, 2, (some .int), [(0, .aload_n 0, 1), (1, .aload_n 0, 1), (2, .iload_n 1, 1), (3, .invokevirtual 348, 3), (6, .iconst 1, 1), (7, .iconst 1, 1), (8, .invokevirtual 335, 3), (11, .ifCond .eq 12, 3), (14, .aload_n 0, 1), (15, .iload_n 1, 1), (16, .iconst 1, 1), (17, .invokevirtual 375, 3), (20, .goto 4, 3), (23, .iconst 0, 1), (24, .ireturn, 1)], ftX9)
set_option maxRecDepth 20000 in
theorem zo_X9_printedPagesOfOwner : ZOK z_X9_printedPagesOfOwner := ⟨by decide +kernel, ftX9_ok⟩
set_option maxRecDepth 20000 in
theorem k_X9_printedPagesOfOwner : LKV z_X9_printedPagesOfOwner 1 := ⟨⟨ALL_at 1899 (by decide +kernel) rfl, (inALL_at 125 (by decide +kernel) rfl), by decide +kernel⟩, (inALL_at 1897 (by decide +kernel) rfl), (inALL_at 1898 (by decide +kernel) rfl)⟩
def z_X9_printingObstacle : MZ := (yX9_printingObstacle, cX9_printingObstacle, 2, (some .int), [(0, .aload_n 0, 1), (1, .iload_n 1, 1), (2, .invokevirtual 342, 3), (5, .ifCond .eq 11, 3), (8, .aload_n 0, 1), (9, .iload_n 1, 1), (10, .invokevirtual 299, 3), (13, .goto 4, 3), (16, .iconst 0, 1), (17, .ireturn, 1)], ftX9)
set_option maxRecDepth 20000 in
theorem zo_X9_printingObstacle : ZOK z_X9_printingObstacle := ⟨by decide +kernel, ftX9_ok⟩
set_option maxRecDepth 20000 in
theorem k_X9_printingObstacle : LKV z_X9_printingObstacle 1 := ⟨⟨ALL_at 1903 (by decide +kernel) rfl, (inALL_at 125 (by decide +kernel) rfl), by decide +kernel⟩, (inALL_at 1901 (by decide +kernel) rfl), (inALL_at 1902 (by decide +kernel) rfl)⟩
def z_X9_comparisons : MZ := (yX9_comparisons, cX9_comparisons, 1, (some .int), [(0, .aload_n 0, 1), (1, .iconst 3, 1), (2, .invokevirtual 339, 3), (5, .ireturn, 1)], ftX9)
set_option maxRecDepth 20000 in
theorem zo_X9_comparisons : ZOK z_X9_comparisons := ⟨by decide +kernel, ftX9_ok⟩
set_option maxRecDepth 20000 in
theorem k_X9_comparisons : LKV z_X9_comparisons 0 := ⟨⟨ALL_at 1907 (by decide +kernel) rfl, (inALL_at 125 (by decide +kernel) rfl), by decide +kernel⟩, (inALL_at 1905 (by decide +kernel) rfl), (inALL_at 1906 (by decide +kernel) rfl)⟩
def z_X9_swaps : MZ := (yX9_swaps, cX9_swaps, 1, (some .int), [(0, .aload_n 0, 1), (1, .iconst 4, 1), (2, .invokevirtual 339, 3), (5, .ireturn, 1)], ftX9)
set_option maxRecDepth 20000 in
theorem zo_X9_swaps : ZOK z_X9_swaps := ⟨by decide +kernel, ftX9_ok⟩
set_option maxRecDepth 20000 in
theorem k_X9_swaps : LKV z_X9_swaps 0 := ⟨⟨ALL_at 1911 (by decide +kernel) rfl, (inALL_at 125 (by decide +kernel) rfl), by decide +kernel⟩, (inALL_at 1909 (by decide +kernel) rfl), (inALL_at 1910 (by decide +kernel) rfl)⟩
def z_X9_mergeCost : MZ := (yX9_mergeCost, cX9_mergeCost, 6, (some .int), [(0, .aload_n 0, 1), (1, .iload_n 1, 1), (2, .iload_n 2, 1), (3, .invokevirtual 378, 3), (6, .ifCond .ne 5, 3), (9, .iconst 0, 1), (10, .ireturn, 1), (11, .aload_n 0, 1), (12, .getfield 9, 3), (15, .iconst 3, 1), (16, .iaload, 1), (17, .istore_n 3, 1), (18, .aload_n 0, 1), (19, .aload_n 0, 1), (20, .getfield 13, 3), (23, .invokevirtual 246, 3), (26, .aload_n 0, 1), (27, .iload_n 1, 1), (28, .iload_n 2, 1), (29, .invokevirtual 317, 3), (32, .istore 4, 2), (34, .aload_n 0, 1), (35, .getfield 9, 3), (38, .iconst 3, 1), (39, .iaload, 1), (40, .iload_n 3, 1), (41, .isub, 1), (42, .istore 5, 2), (44, .aload_n 0, 1), (45, .aload_n 0, 1), (46, .getfield 13, 3), (49, .invokevirtual 262, 3), (52, .iload 5, 2), (54, .ireturn, 1)], ftX9)
set_option maxRecDepth 20000 in
theorem zo_X9_mergeCost : ZOK z_X9_mergeCost := ⟨by decide +kernel, ftX9_ok⟩
set_option maxRecDepth 20000 in
theorem k_X9_mergeCost : LKV z_X9_mergeCost 2 := ⟨⟨ALL_at 1915 (by decide +kernel) rfl, (inALL_at 125 (by decide +kernel) rfl), by decide +kernel⟩, (inALL_at 1913 (by decide +kernel) rfl), (inALL_at 1914 (by decide +kernel) rfl)⟩
def z_X9_checkTwo : MZ := (yX9_checkTwo, cX9_checkTwo, 4, (some .boolean), [(0, .aload_n 0, 1), (1, .iload_n 1, 1), (2, .invokevirtual 332, 3), (5, .ifCond .eq 15, 3), (8, .aload_n 0, 1), (9, .iload_n 2, 1), (10, .invokevirtual 332, 3), (13, .ifCond .eq 7, 3), (16, .iconst 1, 1), (17, .goto 4, 3), (20, .iconst 0, 1), (21, .istore_n 3, 1), (22, .aload_n 0, 1), (23, .iload_n 3, 1), (24, .iload_n 1, 1), (25, .iload_n 2, 1), (26, .if_icmp .eq 7, 3), (29, .iconst 1, 1), (30, .goto 4, 3), (33, .iconst 0, 1), (34, .iconst 1, 1), (35, .invokevirtual 335, 3), (38, .ireturn, 1)], ftX9)
set_option maxRecDepth 20000 in
theorem zo_X9_checkTwo : ZOK z_X9_checkTwo := ⟨by decide +kernel, ftX9_ok⟩
set_option maxRecDepth 20000 in
theorem k_X9_checkTwo : LKV z_X9_checkTwo 2 := ⟨⟨ALL_at 1919 (by decide +kernel) rfl, (inALL_at 125 (by decide +kernel) rfl), by decide +kernel⟩, (inALL_at 1918 (by decide +kernel) rfl), (inALL_at 99 (by decide +kernel) rfl)⟩
def z_X9_rankAfterMerge : MZ := (yX9_rankAfterMerge, cX9_rankAfterMerge, 5, (some .int), [(0, .aload_n 0, 1), (1, .iload_n 1, 1), (2, .iload_n 2, 1), (3, .invokevirtual 378, 3), (6, .ifCond .ne 5, 3), (9, .iconst 0, 1), (10, .ireturn, 1), (11, .aload_n 0, 1), (12, .aload_n 0, 1), (13, .getfield 13, 3), (16, .invokevirtual 246, 3), (19, .aload_n 0, 1), (20, .iload_n 1, 1), (21, .iload_n 2, 1), (22, .invokevirtual 317, 3), (25, .istore_n 3, 1), (26, .aload_n 0, 1), (27, .aload_n 0, 1), (28, .iload_n 2, 1), (29, .invokevirtual 117, 3), (32, .invokevirtual 98, 3), (35, .istore 4, 2), (37, .aload_n 0, 1), (38, .aload_n 0, 1), (39, .getfield 13, 3), (42, .invokevirtual 262, 3), (45, .iload 4, 2), (47, .ireturn, 1)], ftX9)
set_option maxRecDepth 20000 in
theorem zo_X9_rankAfterMerge : ZOK z_X9_rankAfterMerge := ⟨by decide +kernel, ftX9_ok⟩
set_option maxRecDepth 20000 in
theorem k_X9_rankAfterMerge : LKV z_X9_rankAfterMerge 2 := ⟨⟨ALL_at 1923 (by decide +kernel) rfl, (inALL_at 125 (by decide +kernel) rfl), by decide +kernel⟩, (inALL_at 1921 (by decide +kernel) rfl), (inALL_at 1922 (by decide +kernel) rfl)⟩
def z_X9_positionWith : MZ := (yX9_positionWith, cX9_positionWith, 6, (some .int), [(0, .aload_n 0, 1), (1, .iload_n 1, 1), (2, .invokevirtual 293, 3), (5, .istore_n 3, 1), (6, .aload_n 0, 1), (7, .iload_n 3, 1), (8, .iload_n 2, 1), (9, .i2l, 1), (10, .lconst 0, 1), (11, .ldc2_w 381, 3), (14, .invokestatic 152, 3), (17, .iload_n 3, 1), (18, .ifCond .eq 15, 3), (21, .aload_n 0, 1), (22, .iload_n 1, 1), (23, .invokevirtual 130, 3), (26, .ifCond .eq 7, 3), (29, .iconst 1, 1), (30, .goto 4, 3), (33, .iconst 0, 1), (34, .invokevirtual 335, 3), (37, .ifCond .ne 5, 3), (40, .iconst 0, 1), (41, .ireturn, 1), (42, .aload_n 0, 1), (43, .iload_n 1, 1), (44, .iconst 1, 1), (45, .invokevirtual 90, 3), (48, .istore 4, 2), (50, .aload_n 0, 1), (51, .iload_n 1, 1), (52, .iconst 1, 1), (53, .iload_n 2, 1), (54, .invokevirtual 94, 3), (57, .aload_n 0, 1), (58, .iload_n 1, 1), (59, .invokevirtual 360, 3), (62, .istore 5, 2), (64, .aload_n 0, 1), (65, .iload_n 1, 1), (66, .iconst 1, 1), (67, .iload 4, 2), (69, .invokevirtual 94, 3), (72, .iload 5, 2), (74, .ireturn, 1)], ftX9)
set_option maxRecDepth 20000 in
theorem zo_X9_positionWith : ZOK z_X9_positionWith := ⟨by decide +kernel, ftX9_ok⟩
set_option maxRecDepth 20000 in
theorem k_X9_positionWith : LKV z_X9_positionWith 2 := ⟨⟨ALL_at 1927 (by decide +kernel) rfl, (inALL_at 125 (by decide +kernel) rfl), by decide +kernel⟩, (inALL_at 1925 (by decide +kernel) rfl), (inALL_at 1926 (by decide +kernel) rfl)⟩
def z_X9_meanRank : MZ := (yX9_meanRank, cX9_meanRank, 3, (some .double), [(0, .aload_n 0, 1), (1, .iconst 0, 1), (2, .putfield 67, 3), (5, .iconst 0, 1), (6, .istore_n 1, 1), (7, .iconst 0, 1), (8, .istore_n 2, 1), (9, .iload_n 2, 1), (10, .aload_n 0, 1), (11, .getfield 9, 3), (14, .iconst 2, 1), (15, .iaload, 1), (16, .if_icmp .ge 31, 3), (19, .iload_n 1, 1), (20, .aload_n 0, 1), (21, .iload_n 2, 1), (22, .invokevirtual 130, 3), (25, .ifCond .eq 13, 3), (28, .aload_n 0, 1), (29, .iload_n 2, 1), (30, .bipush 8, 2), (32, .invokevirtual 90, 3), (35, .goto 4, 3), (38, .iconst 0, 1), (39, .iadd, 1), (40, .istore_n 1, 1), (41, .iinc 2 1, 3), (44, .goto (-35), 3), (47, .aload_n 0, 1), (48, .invokevirtual 383, 3), (51, .istore_n 2, 1), (52, .iload_n 2, 1), (53, .ifCond .ne 7, 3), (56, .dconst 0, 1), (57, .goto 8, 3), (60, .iload_n 1, 1), (61, .i2d, 1), (62, .iload_n 2, 1), (63, .i2d, 1), (64, .ddiv, 1), (65, .dreturn, 1)], ftX9)
set_option maxRecDepth 20000 in
theorem zo_X9_meanRank : ZOK z_X9_meanRank := ⟨by decide +kernel, ftX9_ok⟩
set_option maxRecDepth 20000 in
theorem k_X9_meanRank : LKV z_X9_meanRank 0 := ⟨⟨ALL_at 1932 (by decide +kernel) rfl, (inALL_at 125 (by decide +kernel) rfl), by decide +kernel⟩, (inALL_at 1930 (by decide +kernel) rfl), (inALL_at 1931 (by decide +kernel) rfl)⟩
def z_X9_waitingCount : MZ := (yX9_waitingCount, cX9_waitingCount, 3, (some .int), [(0, .iconst 0, 1), (1, .istore_n 1, 1), (2, .iconst 0, 1), (3, .istore_n 2, 1), (4, .iload_n 2, 1), (5, .aload_n 0, 1), (6, .getfield 9, 3), (9, .iconst 2, 1), (10, .iaload, 1), (11, .if_icmp .ge 20, 3), (14, .iload_n 1, 1), (15, .aload_n 0, 1), (16, .iload_n 2, 1), (17, .invokevirtual 130, 3), (20, .invokestatic 136, 3), (23, .iadd, 1), (24, .istore_n 1, 1), (25, .iinc 2 1, 3), (28, .goto (-24), 3), (31, .iload_n 1, 1), (32, .ireturn, 1)], ftX9)
set_option maxRecDepth 20000 in
theorem zo_X9_waitingCount : ZOK z_X9_waitingCount := ⟨by decide +kernel, ftX9_ok⟩
set_option maxRecDepth 20000 in
theorem k_X9_waitingCount : LKV z_X9_waitingCount 0 := ⟨⟨ALL_at 1936 (by decide +kernel) rfl, (inALL_at 125 (by decide +kernel) rfl), by decide +kernel⟩, (inALL_at 1935 (by decide +kernel) rfl), (inALL_at 100 (by decide +kernel) rfl)⟩
def z_X9_printedPart : MZ := (yX9_printedPart, cX9_printedPart, 4, (some .float), [(0, .aload_n 0, 1), (1, .iconst 0, 1), (2, .putfield 67, 3), (5, .iconst 0, 1), (6, .istore_n 1, 1), (7, .iconst 0, 1), (8, .istore_n 2, 1), (9, .iload_n 2, 1), (10, .aload_n 0, 1), (11, .getfield 9, 3), (14, .iconst 0, 1), (15, .iaload, 1), (16, .if_icmp .ge 24, 3), (19, .iload_n 1, 1), (20, .aload_n 0, 1), (21, .getfield 9, 3), (24, .iload_n 2, 1), (25, .invokestatic 77, 3), (28, .bipush 10, 2), (30, .iadd, 1), (31, .iaload, 1), (32, .iadd, 1), (33, .istore_n 1, 1), (34, .iinc 2 1, 3), (37, .goto (-28), 3), (40, .iconst 0, 1), (41, .istore_n 2, 1), (42, .iconst 0, 1), (43, .istore_n 3, 1), (44, .iload_n 3, 1), (45, .aload_n 0, 1), (46, .getfield 9, 3), (49, .iconst 2, 1), (50, .iaload, 1), (51, .if_icmp .ge 18, 3), (54, .iload_n 2, 1), (55, .aload_n 0, 1), (56, .iload_n 3, 1), (57, .iconst 2, 1), (58, .invokevirtual 90, 3), (61, .iadd, 1), (62, .istore_n 2, 1), (63, .iinc 3 1, 3), (66, .goto (-22), 3), (69, .iload_n 2, 1), (70, .ifCond .ne 7, 3), (73, .fconst 0, 1), (74, .goto 8, 3), (77, .iload_n 1, 1), (78, .i2f, 1), (79, .iload_n 2, 1), (80, .i2f, 1), (81, .fdiv, 1), (82, .freturn, 1)], ftX9)
set_option maxRecDepth 20000 in
theorem zo_X9_printedPart : ZOK z_X9_printedPart := ⟨by decide +kernel, ftX9_ok⟩
set_option maxRecDepth 20000 in
theorem k_X9_printedPart : LKV z_X9_printedPart 0 := ⟨⟨ALL_at 1940 (by decide +kernel) rfl, (inALL_at 125 (by decide +kernel) rfl), by decide +kernel⟩, (inALL_at 1938 (by decide +kernel) rfl), (inALL_at 1939 (by decide +kernel) rfl)⟩
def z_X9_isConsistent : MZ := (yX9_isConsistent, cX9_isConsistent, 2, (some .boolean), [(0, .aload_n 0, 1), (1, .iconst 0, 1), (2, .putfield 67, 3), (5, .iconst 0, 1), (6, .istore_n 1, 1), (7, .iload_n 1, 1), (8, .aload_n 0, 1), (9, .getfield 9, 3), (12, .iconst 2, 1), (13, .iaload, 1), (14, .if_icmp .ge 27, 3), (17, .aload_n 0, 1), (18, .iload_n 1, 1), (19, .invokevirtual 130, 3), (22, .ifCond .eq 13, 3), (25, .aload_n 0, 1), (26, .iload_n 1, 1), (27, .invokevirtual 392, 3), (30, .ifCond .ne 5, 3), (33, .iconst 0, 1), (34, .ireturn, 1), (35, .iinc 1 1, 3), (38, .goto (-31), 3), (41, .iconst 0, 1), (42, .istore_n 1, 1), (43, .iload_n 1, 1), (44, .aload_n 0, 1), (45, .getfield 9, 3), (48, .iconst 0, 1), (49, .iaload, 1), (50, .if_icmp .ge 19, 3), (53, .aload_n 0, 1), (54, .iload_n 1, 1), (55, .invokevirtual 395, 3), (58, .ifCond .ne 5, 3), (61, .iconst 0, 1), (62, .ireturn, 1), (63, .iinc 1 1, 3), (66, .goto (-23), 3), (69, .aload_n 0, 1), (70, .invokevirtual 398, 3), (73, .ireturn, 1)], ftX9)
set_option maxRecDepth 20000 in
theorem zo_X9_isConsistent : ZOK z_X9_isConsistent := ⟨by decide +kernel, ftX9_ok⟩
set_option maxRecDepth 20000 in
theorem k_X9_isConsistent : LKV z_X9_isConsistent 0 := ⟨⟨ALL_at 1944 (by decide +kernel) rfl, (inALL_at 125 (by decide +kernel) rfl), by decide +kernel⟩, (inALL_at 1942 (by decide +kernel) rfl), (inALL_at 1943 (by decide +kernel) rfl)⟩
def z_X9_isNodeConsistent : MZ := (yX9_isNodeConsistent, cX9_isNodeConsistent, 5, (some .boolean), [(0, .aload_n 0, 1), (1, .iload_n 1, 1), (2, .iconst 5, 1), (3, .invokevirtual 90, 3), (6, .istore_n 2, 1), (7, .aload_n 0, 1), (8, .iload_n 1, 1), (9, .bipush 6, 2), (11, .invokevirtual 90, 3), (14, .istore_n 3, 1), (15, .aload_n 0, 1), (16, .iload_n 1, 1), (17, .bipush 7, 2), (19, .invokevirtual 90, 3), (22, .istore 4, 2), (24, .iload 4, 2), (26, .iconst (-1), 1), (27, .if_icmp .eq 15, 3), (30, .aload_n 0, 1), (31, .iload_n 1, 1), (32, .iload 4, 2), (34, .invokevirtual 101, 3), (37, .ifCond .eq 5, 3), (40, .iconst 0, 1), (41, .ireturn, 1), (42, .aload_n 0, 1), (43, .iload_n 2, 1), (44, .invokevirtual 98, 3), (47, .aload_n 0, 1), (48, .iload_n 3, 1), (49, .invokevirtual 98, 3), (52, .if_icmp .lt 20, 3), (55, .aload_n 0, 1), (56, .iload_n 1, 1), (57, .bipush 8, 2), (59, .invokevirtual 90, 3), (62, .iconst 1, 1), (63, .aload_n 0, 1), (64, .iload_n 3, 1), (65, .invokevirtual 98, 3), (68, .iadd, 1), (69, .if_icmp .eq 5, 3), (72, .iconst 0, 1), (73, .ireturn, 1), (74, .aload_n 0, 1), (75, .iload_n 1, 1), (76, .iload_n 2, 1), (77, .invokevirtual 386, 3), (80, .ifCond .eq 16, 3), (83, .aload_n 0, 1), (84, .iload_n 1, 1), (85, .iload_n 3, 1), (86, .invokevirtual 386, 3), (89, .ifCond .eq 7, 3), (92, .iconst 1, 1), (93, .goto 4, 3), (96, .iconst 0, 1), (97, .ireturn, 1)], ftX9)
set_option maxRecDepth 20000 in
theorem zo_X9_isNodeConsistent : ZOK z_X9_isNodeConsistent := ⟨by decide +kernel, ftX9_ok⟩
set_option maxRecDepth 20000 in
theorem k_X9_isNodeConsistent : LKV z_X9_isNodeConsistent 1 := ⟨⟨ALL_at 1948 (by decide +kernel) rfl, (inALL_at 125 (by decide +kernel) rfl), by decide +kernel⟩, (inALL_at 1947 (by decide +kernel) rfl), (inALL_at 101 (by decide +kernel) rfl)⟩
def z_X9_isLinked : MZ := (yX9_isLinked, cX9_isLinked, 3, (some .boolean), [(0, .iload_n 2, 1), (1, .iconst (-1), 1), (2, .if_icmp .eq 37, 3), (5, .aload_n 0, 1), (6, .iload_n 2, 1), (7, .invokevirtual 130, 3), (10, .ifCond .eq 33, 3), (13, .aload_n 0, 1), (14, .iload_n 2, 1), (15, .bipush 7, 2), (17, .invokevirtual 90, 3), (20, .iload_n 1, 1), (21, .if_icmp .ne 22, 3), (24, .aload_n 0, 1), (25, .iload_n 2, 1), (26, .iconst 4, 1), (27, .invokevirtual 90, 3), (30, .aload_n 0, 1), (31, .iload_n 1, 1), (32, .iconst 4, 1), (33, .invokevirtual 90, 3), (36, .if_icmp .ne 7, 3), (39, .iconst 1, 1), (40, .goto 4, 3), (43, .iconst 0, 1), (44, .ireturn, 1)], ftX9)
set_option maxRecDepth 20000 in
theorem zo_X9_isLinked : ZOK z_X9_isLinked := ⟨by decide +kernel, ftX9_ok⟩
set_option maxRecDepth 20000 in
theorem k_X9_isLinked : LKV z_X9_isLinked 2 := ⟨⟨ALL_at 1952 (by decide +kernel) rfl, (inALL_at 125 (by decide +kernel) rfl), by decide +kernel⟩, (inALL_at 1951 (by decide +kernel) rfl), (inALL_at 102 (by decide +kernel) rfl)⟩
def z_X9_isOrderConsistent : MZ := (yX9_isOrderConsistent, cX9_isOrderConsistent, 6, (some .boolean), [(0, .iconst 1, 1), (1, .istore_n 2, 1), (2, .aload_n 0, 1), (3, .iload_n 1, 1), (4, .invokevirtual 143, 3), (7, .istore_n 3, 1), (8, .iconst 0, 1), (9, .istore 4, 2), (11, .iload 4, 2), (13, .iload_n 3, 1), (14, .if_icmp .ge 23, 3), (17, .aload_n 0, 1), (18, .getfield 36, 3), (21, .iload 4, 2), (23, .aload_n 0, 1), (24, .iload_n 1, 1), (25, .iload 4, 2), (27, .invokevirtual 363, 3), (30, .iastore, 1), (31, .iinc 4 1, 3), (34, .goto (-23), 3), (37, .aload_n 0, 1), (38, .aload_n 0, 1), (39, .getfield 13, 3), (42, .invokevirtual 246, 3), (45, .iconst 0, 1), (46, .istore 4, 2), (48, .iload 4, 2), (50, .iload_n 3, 1), (51, .if_icmp .ge 44, 3), (54, .aload_n 0, 1), (55, .iload_n 1, 1), (56, .invokevirtual 117, 3), (59, .istore 5, 2), (61, .iload_n 2, 1), (62, .ifCond .eq 19, 3), (65, .iload 5, 2), (67, .aload_n 0, 1), (68, .getfield 36, 3), (71, .iload 4, 2), (73, .iaload, 1), (74, .if_icmp .ne 7, 3), (77, .iconst 1, 1), (78, .goto 4, 3), (81, .iconst 0, 1), (82, .istore_n 2, 1), (83, .aload_n 0, 1), (84, .iload 5, 2), (86, .invokevirtual 140, 3), (89, .iinc 4 1, 3), (92, .goto (-44), 3), (95, .aload_n 0, 1), (96, .aload_n 0, 1), (97, .getfield 13, 3), (100, .invokevirtual 262, 3), (103, .iload_n 2, 1), (104, .ireturn, 1)], ftX9)
set_option maxRecDepth 20000 in
theorem zo_X9_isOrderConsistent : ZOK z_X9_isOrderConsistent := ⟨by decide +kernel, ftX9_ok⟩
set_option maxRecDepth 20000 in
theorem k_X9_isOrderConsistent : LKV z_X9_isOrderConsistent 1 := ⟨⟨ALL_at 1956 (by decide +kernel) rfl, (inALL_at 125 (by decide +kernel) rfl), by decide +kernel⟩, (inALL_at 1955 (by decide +kernel) rfl), (inALL_at 103 (by decide +kernel) rfl)⟩
def z_X9_areHeapsWhole : MZ := (yX9_areHeapsWhole, cX9_areHeapsWhole, 4, (some .boolean), [(0, .iconst 0, 1), (1, .istore_n 1, 1), (2, .iconst 0, 1), (3, .istore_n 2, 1), (4, .iload_n 2, 1), (5, .aload_n 0, 1), (6, .getfield 9, 3), (9, .iconst 0, 1), (10, .iaload, 1), (11, .if_icmp .ge 34, 3), (14, .aload_n 0, 1), (15, .aload_n 0, 1), (16, .iload_n 2, 1), (17, .invokevirtual 117, 3), (20, .invokevirtual 389, 3), (23, .istore_n 3, 1), (24, .iload_n 1, 1), (25, .iload_n 3, 1), (26, .iadd, 1), (27, .istore_n 1, 1), (28, .iload_n 3, 1), (29, .aload_n 0, 1), (30, .iload_n 2, 1), (31, .invokevirtual 143, 3), (34, .if_icmp .eq 5, 3), (37, .iconst 0, 1), (38, .ireturn, 1), (39, .iinc 2 1, 3), (42, .goto (-38), 3), (45, .iload_n 1, 1), (46, .aload_n 0, 1), (47, .invokevirtual 383, 3), (50, .if_icmp .ne 7, 3), (53, .iconst 1, 1), (54, .goto 4, 3), (57, .iconst 0, 1), (58, .ireturn, 1)], ftX9)
set_option maxRecDepth 20000 in
theorem zo_X9_areHeapsWhole : ZOK z_X9_areHeapsWhole := ⟨by decide +kernel, ftX9_ok⟩
set_option maxRecDepth 20000 in
theorem k_X9_areHeapsWhole : LKV z_X9_areHeapsWhole 0 := ⟨⟨ALL_at 1960 (by decide +kernel) rfl, (inALL_at 125 (by decide +kernel) rfl), by decide +kernel⟩, (inALL_at 1959 (by decide +kernel) rfl), (inALL_at 104 (by decide +kernel) rfl)⟩
def z_X9_countFrom : MZ := (yX9_countFrom, cX9_countFrom, 2, (some .int), [(0, .iload_n 1, 1), (1, .iconst (-1), 1), (2, .if_icmp .ne 5, 3), (5, .iconst 0, 1), (6, .ireturn, 1), (7, .iconst 1, 1), (8, .aload_n 0, 1), (9, .aload_n 0, 1), (10, .iload_n 1, 1), (11, .iconst 5, 1), (12, .invokevirtual 90, 3), (15, .invokevirtual 389, 3), (18, .iadd, 1), (19, .aload_n 0, 1), (20, .aload_n 0, 1), (21, .iload_n 1, 1), (22, .bipush 6, 2), (24, .invokevirtual 90, 3), (27, .invokevirtual 389, 3), (30, .iadd, 1), (31, .ireturn, 1)], ftX9)
set_option maxRecDepth 20000 in
theorem zo_X9_countFrom : ZOK z_X9_countFrom := ⟨by decide +kernel, ftX9_ok⟩
set_option maxRecDepth 20000 in
theorem k_X9_countFrom : LKV z_X9_countFrom 1 := ⟨⟨ALL_at 1964 (by decide +kernel) rfl, (inALL_at 125 (by decide +kernel) rfl), by decide +kernel⟩, (inALL_at 1963 (by decide +kernel) rfl), (inALL_at 105 (by decide +kernel) rfl)⟩
def z_X9_submit : MZ := (yX9_submit, cX9_submit, 7, (some .int), [(0, .aload_n 0, 1), (1, .iload_n 1, 1), (2, .invokevirtual 332, 3), (5, .ifCond .eq 15, 3), (8, .aload_n 0, 1), (9, .iload_n 2, 1), (10, .invokevirtual 348, 3), (13, .ifCond .eq 7, 3), (16, .iconst 1, 1), (17, .goto 4, 3), (20, .iconst 0, 1), (21, .istore 5, 2), (23, .iload_n 3, 1), (24, .i2l, 1), (25, .lconst 0, 1), (26, .ldc2_w 381, 3), (29, .invokestatic 152, 3), (32, .ifCond .eq 20, 3), (35, .iload 4, 2), (37, .i2l, 1), (38, .lconst 1, 1), (39, .ldc2_w 381, 3), (42, .invokestatic 152, 3), (45, .ifCond .eq 7, 3), (48, .iconst 1, 1), (49, .goto 4, 3), (52, .iconst 0, 1), (53, .istore 6, 2), (55, .aload_n 0, 1), (56, .iload 5, 2), (58, .iload 6, 2), (60, .aload_n 0, 1), (61, .getfield 9, 3), (64, .iconst 2, 1), (65, .iaload, 1), (66, .bipush 40, 2), (68, .if_icmp .ge 7, 3), (71, .iconst 1, 1), (72, .goto 4, 3), (75, .iconst 0, 1), (76, .invokevirtual 335, 3), (79, .ifCond .ne 5, 3), (82, .iconst 0, 1), (83, .ireturn, 1), (84, .aload_n 0, 1), (85, .invokevirtual 326, 3), (88, .aload_n 0, 1), (89, .iload_n 1, 1), (90, .iload_n 2, 1), (91, .iload_n 3, 1), (92, .iload 4, 2), (94, .invokevirtual 60, 3), (97, .ireturn, 1)], ftX9)
set_option maxRecDepth 20000 in
theorem zo_X9_submit : ZOK z_X9_submit := ⟨by decide +kernel, ftX9_ok⟩
set_option maxRecDepth 20000 in
theorem k_X9_submit : LKV z_X9_submit 4 := ⟨⟨ALL_at 1968 (by decide +kernel) rfl, (inALL_at 125 (by decide +kernel) rfl), by decide +kernel⟩, (inALL_at 1966 (by decide +kernel) rfl), (inALL_at 1967 (by decide +kernel) rfl)⟩
def z_X9_printNext : MZ := (yX9_printNext, cX9_printNext, 3, (some .int), [(0, .aload_n 0, 1), (1, .iload_n 1, 1), (2, .invokevirtual 332, 3), (5, .istore_n 2, 1), (6, .aload_n 0, 1), (7, .iload_n 2, 1), (8, .iload_n 2, 1), (9, .ifCond .eq 15, 3), (12, .aload_n 0, 1), (13, .iload_n 1, 1), (14, .invokevirtual 299, 3), (17, .ifCond .ne 7, 3), (20, .iconst 1, 1), (21, .goto 4, 3), (24, .iconst 0, 1), (25, .iconst 1, 1), (26, .invokevirtual 335, 3), (29, .ifCond .ne 5, 3), (32, .iconst 0, 1), (33, .ireturn, 1), (34, .aload_n 0, 1), (35, .invokevirtual 326, 3), (38, .aload_n 0, 1), (39, .iload_n 1, 1), (40, .invokevirtual 302, 3), (43, .ireturn, 1)], ftX9)
set_option maxRecDepth 20000 in
theorem zo_X9_printNext : ZOK z_X9_printNext := ⟨by decide +kernel, ftX9_ok⟩
set_option maxRecDepth 20000 in
theorem k_X9_printNext : LKV z_X9_printNext 1 := ⟨⟨ALL_at 1972 (by decide +kernel) rfl, (inALL_at 125 (by decide +kernel) rfl), by decide +kernel⟩, (inALL_at 1970 (by decide +kernel) rfl), (inALL_at 1971 (by decide +kernel) rfl)⟩
def z_X9_cancel : MZ := (yX9_cancel, cX9_cancel, 2, (some .int), [(0, .aload_n 0, 1), (1, .iload_n 1, 1), (2, .invokevirtual 354, 3), (5, .ifCond .ne 5, 3), (8, .iconst 0, 1), (9, .ireturn, 1), (10, .aload_n 0, 1), (11, .invokevirtual 326, 3), (14, .aload_n 0, 1), (15, .iload_n 1, 1), (16, .invokevirtual 308, 3), (19, .ireturn, 1)], ftX9)
set_option maxRecDepth 20000 in
theorem zo_X9_cancel : ZOK z_X9_cancel := ⟨by decide +kernel, ftX9_ok⟩
set_option maxRecDepth 20000 in
theorem k_X9_cancel : LKV z_X9_cancel 1 := ⟨⟨ALL_at 1976 (by decide +kernel) rfl, (inALL_at 125 (by decide +kernel) rfl), by decide +kernel⟩, (inALL_at 1974 (by decide +kernel) rfl), (inALL_at 1975 (by decide +kernel) rfl)⟩
def z_X9_changePriority : MZ := (yX9_changePriority, cX9_changePriority, 4, (some .int), [(0, .aload_n 0, 1), (1, .iload_n 1, 1), (2, .invokevirtual 293, 3), (5, .istore_n 3, 1), (6, .aload_n 0, 1), (7, .iload_n 3, 1), (8, .iload_n 2, 1), (9, .i2l, 1), (10, .lconst 0, 1), (11, .ldc2_w 381, 3), (14, .invokestatic 152, 3), (17, .iload_n 3, 1), (18, .ifCond .eq 15, 3), (21, .aload_n 0, 1), (22, .iload_n 1, 1), (23, .invokevirtual 130, 3), (26, .ifCond .eq 7, 3), (29, .iconst 1, 1), (30, .goto 4, 3), (33, .iconst 0, 1), (34, .invokevirtual 335, 3), (37, .ifCond .ne 5, 3), (40, .iconst 0, 1), (41, .ireturn, 1), (42, .aload_n 0, 1), (43, .invokevirtual 326, 3), (46, .aload_n 0, 1), (47, .iload_n 1, 1), (48, .iload_n 2, 1), (49, .invokevirtual 311, 3), (52, .ireturn, 1)], ftX9)
set_option maxRecDepth 20000 in
theorem zo_X9_changePriority : ZOK z_X9_changePriority := ⟨by decide +kernel, ftX9_ok⟩
set_option maxRecDepth 20000 in
theorem k_X9_changePriority : LKV z_X9_changePriority 2 := ⟨⟨ALL_at 1980 (by decide +kernel) rfl, (inALL_at 125 (by decide +kernel) rfl), by decide +kernel⟩, (inALL_at 1978 (by decide +kernel) rfl), (inALL_at 1979 (by decide +kernel) rfl)⟩
def z_X9_moveJob : MZ := (yX9_moveJob, cX9_moveJob, 4, (some .int), [(0, .aload_n 0, 1), (1, .iload_n 1, 1), (2, .invokevirtual 293, 3), (5, .ifCond .eq 15, 3), (8, .aload_n 0, 1), (9, .iload_n 2, 1), (10, .invokevirtual 332, 3), (13, .ifCond .eq 7, 3), (16, .iconst 1, 1), (17, .goto 4, 3), (20, .iconst 0, 1), (21, .istore_n 3, 1), (22, .aload_n 0, 1), (23, .iload_n 3, 1), (24, .iload_n 3, 1), (25, .ifCond .eq 24, 3), (28, .aload_n 0, 1), (29, .iload_n 1, 1), (30, .invokevirtual 130, 3), (33, .ifCond .eq 16, 3), (36, .aload_n 0, 1), (37, .iload_n 1, 1), (38, .iload_n 2, 1), (39, .invokevirtual 133, 3), (42, .ifCond .ne 7, 3), (45, .iconst 1, 1), (46, .goto 4, 3), (49, .iconst 0, 1), (50, .iconst 1, 1), (51, .invokevirtual 335, 3), (54, .ifCond .ne 5, 3), (57, .iconst 0, 1), (58, .ireturn, 1), (59, .aload_n 0, 1), (60, .invokevirtual 326, 3), (63, .aload_n 0, 1), (64, .iload_n 1, 1), (65, .iload_n 2, 1), (66, .invokevirtual 314, 3), (69, .ireturn, 1)], ftX9)
set_option maxRecDepth 20000 in
theorem zo_X9_moveJob : ZOK z_X9_moveJob := ⟨by decide +kernel, ftX9_ok⟩
set_option maxRecDepth 20000 in
theorem k_X9_moveJob : LKV z_X9_moveJob 2 := ⟨⟨ALL_at 1984 (by decide +kernel) rfl, (inALL_at 125 (by decide +kernel) rfl), by decide +kernel⟩, (inALL_at 1982 (by decide +kernel) rfl), (inALL_at 1983 (by decide +kernel) rfl)⟩
def z_X9_mergeQueues : MZ := (yX9_mergeQueues, cX9_mergeQueues, 3, (some .int), [(0, .aload_n 0, 1), (1, .iload_n 1, 1), (2, .iload_n 2, 1), (3, .invokevirtual 378, 3), (6, .ifCond .ne 5, 3), (9, .iconst 0, 1), (10, .ireturn, 1), (11, .aload_n 0, 1), (12, .invokevirtual 326, 3), (15, .aload_n 0, 1), (16, .iload_n 1, 1), (17, .iload_n 2, 1), (18, .invokevirtual 317, 3), (21, .ireturn, 1)], ftX9)
set_option maxRecDepth 20000 in
theorem zo_X9_mergeQueues : ZOK z_X9_mergeQueues := ⟨by decide +kernel, ftX9_ok⟩
set_option maxRecDepth 20000 in
theorem k_X9_mergeQueues : LKV z_X9_mergeQueues 2 := ⟨⟨ALL_at 1988 (by decide +kernel) rfl, (inALL_at 125 (by decide +kernel) rfl), by decide +kernel⟩, (inALL_at 1986 (by decide +kernel) rfl), (inALL_at 1987 (by decide +kernel) rfl)⟩
def z_X9_setPaused : MZ := (yX9_setPaused, cX9_setPaused, 3, (some .boolean), [(0, .aload_n 0, 1), (1, .iload_n 1, 1), (2, .invokevirtual 342, 3), (5, .ifCond .ne 5, 3), (8, .iconst 0, 1), (9, .ireturn, 1), (10, .aload_n 0, 1), (11, .invokevirtual 326, 3), (14, .aload_n 0, 1), (15, .iload_n 1, 1), (16, .iload_n 2, 1), (17, .invokevirtual 296, 3), (20, .ireturn, 1)], ftX9)
set_option maxRecDepth 20000 in
theorem zo_X9_setPaused : ZOK z_X9_setPaused := ⟨by decide +kernel, ftX9_ok⟩
set_option maxRecDepth 20000 in
theorem k_X9_setPaused : LKV z_X9_setPaused 2 := ⟨⟨ALL_at 1992 (by decide +kernel) rfl, (inALL_at 125 (by decide +kernel) rfl), by decide +kernel⟩, (inALL_at 1990 (by decide +kernel) rfl), (inALL_at 1991 (by decide +kernel) rfl)⟩
def z_X9_undo : MZ := (yX9_undo, cX9_undo, 2, (some .int), [(0, .aload_n 0, 1), (1, .aload_n 0, 1), (2, .getfield 74, 3), (5, .ifCond .le 7, 3), (8, .iconst 1, 1), (9, .goto 4, 3), (12, .iconst 0, 1), (13, .iconst 1, 1), (14, .iconst 1, 1), (15, .invokevirtual 335, 3), (18, .ifCond .ne 5, 3), (21, .iconst 0, 1), (22, .ireturn, 1), (23, .aload_n 0, 1), (24, .dup, 1), (25, .getfield 74, 3), (28, .iconst 1, 1), (29, .isub, 1), (30, .putfield 74, 3), (33, .iconst 0, 1), (34, .istore_n 1, 1), (35, .iload_n 1, 1), (36, .sipush 500, 3), (39, .if_icmp .ge 30, 3), (42, .aload_n 0, 1), (43, .getfield 9, 3), (46, .iload_n 1, 1), (47, .aload_n 0, 1), (48, .getfield 19, 3), (51, .sipush 500, 3), (54, .aload_n 0, 1), (55, .getfield 74, 3), (58, .imul, 1), (59, .iload_n 1, 1), (60, .iadd, 1), (61, .iaload, 1), (62, .iastore, 1), (63, .iinc 1 1, 3), (66, .goto (-31), 3), (69, .aload_n 0, 1), (70, .getfield 74, 3), (73, .ireturn, 1)], ftX9)
set_option maxRecDepth 20000 in
theorem zo_X9_undo : ZOK z_X9_undo := ⟨by decide +kernel, ftX9_ok⟩
set_option maxRecDepth 20000 in
theorem k_X9_undo : LKV z_X9_undo 0 := ⟨⟨ALL_at 1996 (by decide +kernel) rfl, (inALL_at 125 (by decide +kernel) rfl), by decide +kernel⟩, (inALL_at 1994 (by decide +kernel) rfl), (inALL_at 1995 (by decide +kernel) rfl)⟩
def z_X9_writeHeap : MZ := (yX9_writeHeap, cX9_writeHeap, 2, (some .int), [(0, .aload_n 0, 1), (1, .iload_n 1, 1), (2, .invokevirtual 342, 3), (5, .ifCond .ne 5, 3), (8, .iconst 0, 1), (9, .ireturn, 1), (10, .aload_n 0, 1), (11, .iconst 0, 1), (12, .putfield 402, 3), (15, .aload_n 0, 1), (16, .aload_n 0, 1), (17, .iload_n 1, 1), (18, .invokevirtual 117, 3), (21, .invokevirtual 411, 3), (24, .aload_n 0, 1), (25, .getfield 402, 3), (28, .ireturn, 1)], ftX9)
set_option maxRecDepth 20000 in
theorem zo_X9_writeHeap : ZOK z_X9_writeHeap := ⟨by decide +kernel, ftX9_ok⟩
set_option maxRecDepth 20000 in
theorem k_X9_writeHeap : LKV z_X9_writeHeap 1 := ⟨⟨ALL_at 2000 (by decide +kernel) rfl, (inALL_at 125 (by decide +kernel) rfl), by decide +kernel⟩, (inALL_at 1998 (by decide +kernel) rfl), (inALL_at 1999 (by decide +kernel) rfl)⟩
def z_X9_writeFrom : MZ := (yX9_writeFrom, cX9_writeFrom, 2, none, [(0, .iload_n 1, 1), (1, .iconst (-1), 1), (2, .if_icmp .ne 4, 3), (5, .return_, 1), (6, .aload_n 0, 1), (7, .iload_n 1, 1), (8, .invokevirtual 408, 3), (11, .aload_n 0, 1), (12, .iload_n 1, 1), (13, .iconst 5, 1), (14, .invokevirtual 90, 3), (17, .iconst (-1), 1), (18, .if_icmp .ne 4, 3), (21, .return_, 1), (22, .aload_n 0, 1), (23, .bipush 40, 2), (25, .invokevirtual 405, 3), (28, .aload_n 0, 1), (29, .aload_n 0, 1), (30, .iload_n 1, 1), (31, .iconst 5, 1), (32, .invokevirtual 90, 3), (35, .invokevirtual 411, 3), (38, .aload_n 0, 1), (39, .bipush 44, 2), (41, .invokevirtual 405, 3), (44, .aload_n 0, 1), (45, .aload_n 0, 1), (46, .iload_n 1, 1), (47, .bipush 6, 2), (49, .invokevirtual 90, 3), (52, .invokevirtual 411, 3), (55, .aload_n 0, 1), (56, .bipush 41, 2), (58, .invokevirtual 405, 3), (61, .return_, 1)], ftX9)
set_option maxRecDepth 20000 in
theorem zo_X9_writeFrom : ZOK z_X9_writeFrom := ⟨by decide +kernel, ftX9_ok⟩
set_option maxRecDepth 20000 in
theorem k_X9_writeFrom : LKV z_X9_writeFrom 1 := ⟨⟨ALL_at 2004 (by decide +kernel) rfl, (inALL_at 125 (by decide +kernel) rfl), by decide +kernel⟩, (inALL_at 2003 (by decide +kernel) rfl), (inALL_at 106 (by decide +kernel) rfl)⟩
def z_X9_writeNumber : MZ := (yX9_writeNumber, cX9_writeNumber, 2, none, [(0, .iload_n 1, 1), (1, .bipush 9, 2), (3, .if_icmp .le 14, 3), (6, .aload_n 0, 1), (7, .bipush 48, 2), (9, .iload_n 1, 1), (10, .bipush 10, 2), (12, .idiv, 1), (13, .iadd, 1), (14, .invokevirtual 405, 3), (17, .aload_n 0, 1), (18, .bipush 48, 2), (20, .iload_n 1, 1), (21, .bipush 10, 2), (23, .irem, 1), (24, .iadd, 1), (25, .invokevirtual 405, 3), (28, .return_, 1)], ftX9)
set_option maxRecDepth 20000 in
theorem zo_X9_writeNumber : ZOK z_X9_writeNumber := ⟨by decide +kernel, ftX9_ok⟩
set_option maxRecDepth 20000 in
theorem k_X9_writeNumber : LKV z_X9_writeNumber 1 := ⟨⟨ALL_at 2008 (by decide +kernel) rfl, (inALL_at 125 (by decide +kernel) rfl), by decide +kernel⟩, (inALL_at 2007 (by decide +kernel) rfl), (inALL_at 107 (by decide +kernel) rfl)⟩
def z_X9_write : MZ := (yX9_write, cX9_write, 2, none, [(0, .aload_n 0, 1), (1, .getfield 39, 3), (4, .aload_n 0, 1), (5, .getfield 402, 3), (8, .iload_n 1, 1), (9, .i2b, 1), (10, .bastore, 1), (11, .aload_n 0, 1), (12, .dup, 1), (13, .getfield 402, 3), (16, .iconst 1, 1), (17, .iadd, 1), (18, .putfield 402, 3), (21, .return_, 1)], ftX9)
set_option maxRecDepth 20000 in
theorem zo_X9_write : ZOK z_X9_write := ⟨by decide +kernel, ftX9_ok⟩
set_option maxRecDepth 20000 in
theorem k_X9_write : LKV z_X9_write 1 := ⟨⟨ALL_at 2012 (by decide +kernel) rfl, (inALL_at 125 (by decide +kernel) rfl), by decide +kernel⟩, (inALL_at 2011 (by decide +kernel) rfl), (inALL_at 108 (by decide +kernel) rfl)⟩
def z_X9_outputByte : MZ := (yX9_outputByte, cX9_outputByte, 2, (some .int), [(0, .aload_n 0, 1), (1, .iconst 0, 1), (2, .putfield 67, 3), (5, .iload_n 1, 1), (6, .i2l, 1), (7, .lconst 0, 1), (8, .aload_n 0, 1), (9, .getfield 402, 3), (12, .iconst 1, 1), (13, .isub, 1), (14, .i2l, 1), (15, .invokestatic 152, 3), (18, .ifCond .eq 12, 3), (21, .aload_n 0, 1), (22, .getfield 39, 3), (25, .iload_n 1, 1), (26, .baload, 1), (27, .goto 4, 3), (30, .iconst (-1), 1), (31, .ireturn, 1)], ftX9)
set_option maxRecDepth 20000 in
theorem zo_X9_outputByte : ZOK z_X9_outputByte := ⟨by decide +kernel, ftX9_ok⟩
set_option maxRecDepth 20000 in
theorem k_X9_outputByte : LKV z_X9_outputByte 1 := ⟨⟨ALL_at 2016 (by decide +kernel) rfl, (inALL_at 125 (by decide +kernel) rfl), by decide +kernel⟩, (inALL_at 2014 (by decide +kernel) rfl), (inALL_at 2015 (by decide +kernel) rfl)⟩
def z_X9_saveState : MZ := (yX9_saveState, cX9_saveState, 1, (some .int), [(0, .aload_n 0, 1), (1, .iconst 0, 1), (2, .putfield 67, 3), (5, .aload_n 0, 1), (6, .aload_n 0, 1), (7, .getfield 16, 3), (10, .invokevirtual 246, 3), (13, .aload_n 0, 1), (14, .iconst 1, 1), (15, .putfield 265, 3), (18, .aload_n 0, 1), (19, .getfield 9, 3), (22, .iconst 2, 1), (23, .iaload, 1), (24, .ireturn, 1)], ftX9)
set_option maxRecDepth 20000 in
theorem zo_X9_saveState : ZOK z_X9_saveState := ⟨by decide +kernel, ftX9_ok⟩
set_option maxRecDepth 20000 in
theorem k_X9_saveState : LKV z_X9_saveState 0 := ⟨⟨ALL_at 2020 (by decide +kernel) rfl, (inALL_at 125 (by decide +kernel) rfl), by decide +kernel⟩, (inALL_at 2018 (by decide +kernel) rfl), (inALL_at 2019 (by decide +kernel) rfl)⟩
def z_X9_restoreState : MZ := (yX9_restoreState, cX9_restoreState, 1, (some .int), [(0, .aload_n 0, 1), (1, .aload_n 0, 1), (2, .getfield 265, 3), (5, .iconst 1, 1), (6, .iconst 1, 1), (7, .invokevirtual 335, 3), (10, .ifCond .ne 5, 3), (13, .iconst 0, 1), (14, .ireturn, 1), (15, .aload_n 0, 1), (16, .aload_n 0, 1), (17, .getfield 16, 3), (20, .invokevirtual 262, 3), (23, .aload_n 0, 1), (24, .iconst 0, 1), (25, .putfield 74, 3), (28, .aload_n 0, 1), (29, .getfield 9, 3), (32, .iconst 2, 1), (33, .iaload, 1), (34, .ireturn, 1)], ftX9)
set_option maxRecDepth 20000 in
theorem zo_X9_restoreState : ZOK z_X9_restoreState := ⟨by decide +kernel, ftX9_ok⟩
set_option maxRecDepth 20000 in
theorem k_X9_restoreState : LKV z_X9_restoreState 0 := ⟨⟨ALL_at 2024 (by decide +kernel) rfl, (inALL_at 125 (by decide +kernel) rfl), by decide +kernel⟩, (inALL_at 2022 (by decide +kernel) rfl), (inALL_at 2023 (by decide +kernel) rfl)⟩
set_option maxRecDepth 20000 in
theorem l_X9_53 : LKA RX9 53 z_X9_addQueue := Or.inl (inALL_at 1347 (by decide +kernel) rfl)
set_option maxRecDepth 20000 in
theorem l_X9_57 : LKA RX9 57 z_X9_addOwner := Or.inl (inALL_at 1358 (by decide +kernel) rfl)
set_option maxRecDepth 20000 in
theorem l_X9_60 : LKA RX9 60 z_X9_addJob := Or.inl (inALL_at 1365 (by decide +kernel) rfl)
set_option maxRecDepth 20000 in
theorem l_X9_64 : LKA RX9 64 z_X9_clearCounters := Or.inl (inALL_at 1416 (by decide +kernel) rfl)
set_option maxRecDepth 20000 in
theorem l_X9_70 : LKA RX9 70 z_X9_j := Or.inl (inALL_at 1373 (by decide +kernel) rfl)
set_option maxRecDepth 20000 in
theorem l_X9_77 : LKA RX9 77 z_X9_q := Or.inl (inALL_at 1351 (by decide +kernel) rfl)
set_option maxRecDepth 20000 in
theorem l_X9_80 : LKA RX9 80 z_X9_isSpelledAt := Or.inl (inALL_at 1578 (by decide +kernel) rfl)
set_option maxRecDepth 20000 in
theorem l_X9_84 : LKA RX9 84 z_X9_o := Or.inl (inALL_at 1362 (by decide +kernel) rfl)
set_option maxRecDepth 20000 in
theorem l_X9_87 : LKA RX9 87 z_X9_putName := Or.inl (inALL_at 1354 (by decide +kernel) rfl)
set_option maxRecDepth 20000 in
theorem l_X9_90 : LKA RX9 90 z_X9_get := Or.inl (inALL_at 1396 (by decide +kernel) rfl)
set_option maxRecDepth 20000 in
theorem l_X9_94 : LKA RX9 94 z_X9_set := Or.inl (inALL_at 1369 (by decide +kernel) rfl)
set_option maxRecDepth 20000 in
theorem l_X9_98 : LKA RX9 98 z_X9_rankOf := Or.inl (inALL_at 1408 (by decide +kernel) rfl)
set_option maxRecDepth 20000 in
theorem l_X9_101 : LKA RX9 101 z_X9_precedes := Or.inl (inALL_at 1392 (by decide +kernel) rfl)
set_option maxRecDepth 20000 in
theorem l_X9_105 : LKA RX9 105 z_X9_merge := Or.inl (inALL_at 1388 (by decide +kernel) rfl)
set_option maxRecDepth 20000 in
theorem l_X9_108 : LKA RX9 108 z_X9_link := Or.inl (inALL_at 1400 (by decide +kernel) rfl)
set_option maxRecDepth 20000 in
theorem l_X9_111 : LKA RX9 111 z_X9_repair := Or.inl (inALL_at 1404 (by decide +kernel) rfl)
set_option maxRecDepth 20000 in
theorem l_X9_114 : LKA RX9 114 z_X9_single := Or.inl (inALL_at 1380 (by decide +kernel) rfl)
set_option maxRecDepth 20000 in
theorem l_X9_117 : LKA RX9 117 z_X9_rootOf := Or.inl (inALL_at 1384 (by decide +kernel) rfl)
set_option maxRecDepth 20000 in
theorem l_X9_120 : LKA RX9 120 z_X9_setRoot := Or.inl (inALL_at 1412 (by decide +kernel) rfl)
set_option maxRecDepth 20000 in
theorem l_X9_124 : LKA RX9 124 z_X9_repairUpwards := Or.inl (inALL_at 1665 (by decide +kernel) rfl)
set_option maxRecDepth 20000 in
theorem l_X9_127 : LKA RX9 127 z_X9_insert := Or.inl (inALL_at 1376 (by decide +kernel) rfl)
set_option maxRecDepth 20000 in
theorem l_X9_130 : LKA RX9 130 z_X9_waits := Or.inl (inALL_at 1677 (by decide +kernel) rfl)
set_option maxRecDepth 20000 in
theorem l_X9_133 : LKA RX9 133 z_X9_isIn := Or.inl (inALL_at 1689 (by decide +kernel) rfl)
set_option maxRecDepth 20000 in
theorem l_X9_136 : LKA RX9 136 z_X9_one := Or.inl (inALL_at 1693 (by decide +kernel) rfl)
set_option maxRecDepth 20000 in
theorem l_X9_140 : LKA RX9 140 z_X9_remove := Or.inl (inALL_at 1661 (by decide +kernel) rfl)
set_option maxRecDepth 20000 in
theorem l_X9_143 : LKA RX9 143 z_X9_sizeOf := Or.inl (inALL_at 1685 (by decide +kernel) rfl)
set_option maxRecDepth 20000 in
theorem l_X9_149 : LKA RX9 149 z_X9_appendWord := Or.inl (inALL_at 1501 (by decide +kernel) rfl)
set_option maxRecDepth 20000 in
theorem l_X9_152 : LKA RX9 152 z_X9_isWithin := Or.inl (inALL_at 1509 (by decide +kernel) rfl)
set_option maxRecDepth 20000 in
theorem l_X9_179 : LKA RX9 179 z_X9_isLetter := Or.inl (inALL_at 1540 (by decide +kernel) rfl)
set_option maxRecDepth 20000 in
theorem l_X9_182 : LKA RX9 182 z_X9_isDigit := Or.inl (inALL_at 1546 (by decide +kernel) rfl)
set_option maxRecDepth 20000 in
theorem l_X9_191 : LKA RX9 191 z_X9_advanceToken := Or.inl (inALL_at 1536 (by decide +kernel) rfl)
set_option maxRecDepth 20000 in
theorem l_X9_197 : LKA RX9 197 z_X9_expect := Or.inl (inALL_at 1566 (by decide +kernel) rfl)
set_option maxRecDepth 20000 in
theorem l_X9_201 : LKA RX9 201 z_X9_spellName := Or.inl (inALL_at 1570 (by decide +kernel) rfl)
set_option maxRecDepth 20000 in
theorem l_X9_204 : LKA RX9 204 z_X9_spelledQueue := Or.inl (inALL_at 1574 (by decide +kernel) rfl)
set_option maxRecDepth 20000 in
theorem l_X9_212 : LKA RX9 212 z_X9_spelledOwner := Or.inl (inALL_at 1591 (by decide +kernel) rfl)
set_option maxRecDepth 20000 in
theorem l_X9_215 : LKA RX9 215 z_X9_parseNumber := Or.inl (inALL_at 1582 (by decide +kernel) rfl)
set_option maxRecDepth 20000 in
theorem l_X9_218 : LKA RX9 218 z_X9_parseKnownQueue := Or.inl (inALL_at 1600 (by decide +kernel) rfl)
set_option maxRecDepth 20000 in
theorem l_X9_221 : LKA RX9 221 z_X9_parseKnownOwner := Or.inl (inALL_at 1605 (by decide +kernel) rfl)
set_option maxRecDepth 20000 in
theorem l_X9_226 : LKA RX9 226 z_X9_isWord := Or.inl (inALL_at 1557 (by decide +kernel) rfl)
set_option maxRecDepth 20000 in
theorem l_X9_230 : LKA RX9 230 z_X9_parseQueue := Or.inl (inALL_at 1562 (by decide +kernel) rfl)
set_option maxRecDepth 20000 in
theorem l_X9_235 : LKA RX9 235 z_X9_parseOwner := Or.inl (inALL_at 1587 (by decide +kernel) rfl)
set_option maxRecDepth 20000 in
theorem l_X9_240 : LKA RX9 240 z_X9_parseJob := Or.inl (inALL_at 1596 (by decide +kernel) rfl)
set_option maxRecDepth 20000 in
theorem l_X9_243 : LKA RX9 243 z_X9_parseSemicolon := Or.inl (inALL_at 1609 (by decide +kernel) rfl)
set_option maxRecDepth 20000 in
theorem l_X9_246 : LKA RX9 246 z_X9_copyTo := Or.inl (inALL_at 1524 (by decide +kernel) rfl)
set_option maxRecDepth 20000 in
theorem l_X9_250 : LKA RX9 250 z_X9_clear := Or.inl (inALL_at 1528 (by decide +kernel) rfl)
set_option maxRecDepth 20000 in
theorem l_X9_253 : LKA RX9 253 z_X9_beginText := Or.inl (inALL_at 1532 (by decide +kernel) rfl)
set_option maxRecDepth 20000 in
theorem l_X9_256 : LKA RX9 256 z_X9_parsePart := Or.inl (inALL_at 1552 (by decide +kernel) rfl)
set_option maxRecDepth 20000 in
theorem l_X9_259 : LKA RX9 259 z_X9_endText := Or.inl (inALL_at 1613 (by decide +kernel) rfl)
set_option maxRecDepth 20000 in
theorem l_X9_262 : LKA RX9 262 z_X9_copyFrom := Or.inl (inALL_at 1617 (by decide +kernel) rfl)
set_option maxRecDepth 20000 in
theorem l_X9_284 : LKA RX9 284 z_X9_statementKind := Or.inl (inALL_at 1629 (by decide +kernel) rfl)
set_option maxRecDepth 20000 in
theorem l_X9_290 : LKA RX9 290 z_X9_parseHandle := Or.inl (inALL_at 1641 (by decide +kernel) rfl)
set_option maxRecDepth 20000 in
theorem l_X9_293 : LKA RX9 293 z_X9_isJob := Or.inl (inALL_at 1673 (by decide +kernel) rfl)
set_option maxRecDepth 20000 in
theorem l_X9_296 : LKA RX9 296 z_X9_pause := Or.inl (inALL_at 1712 (by decide +kernel) rfl)
set_option maxRecDepth 20000 in
theorem l_X9_299 : LKA RX9 299 z_X9_obstacle := Or.inl (inALL_at 1653 (by decide +kernel) rfl)
set_option maxRecDepth 20000 in
theorem l_X9_302 : LKA RX9 302 z_X9_printRoot := Or.inl (inALL_at 1657 (by decide +kernel) rfl)
set_option maxRecDepth 20000 in
theorem l_X9_305 : LKA RX9 305 z_X9_isWaitingJob := Or.inl (inALL_at 1669 (by decide +kernel) rfl)
set_option maxRecDepth 20000 in
theorem l_X9_308 : LKA RX9 308 z_X9_cancelJob := Or.inl (inALL_at 1681 (by decide +kernel) rfl)
set_option maxRecDepth 20000 in
theorem l_X9_311 : LKA RX9 311 z_X9_setPriority := Or.inl (inALL_at 1696 (by decide +kernel) rfl)
set_option maxRecDepth 20000 in
theorem l_X9_314 : LKA RX9 314 z_X9_moveTo := Or.inl (inALL_at 1700 (by decide +kernel) rfl)
set_option maxRecDepth 20000 in
theorem l_X9_317 : LKA RX9 317 z_X9_mergeInto := Or.inl (inALL_at 1704 (by decide +kernel) rfl)
set_option maxRecDepth 20000 in
theorem l_X9_320 : LKA RX9 320 z_X9_executePause := Or.inl (inALL_at 1708 (by decide +kernel) rfl)
set_option maxRecDepth 20000 in
theorem l_X9_323 : LKA RX9 323 z_X9_parseStatement := Or.inl (inALL_at 1625 (by decide +kernel) rfl)
set_option maxRecDepth 20000 in
theorem l_X9_326 : LKA RX9 326 z_X9_remember := Or.inl (inALL_at 1645 (by decide +kernel) rfl)
set_option maxRecDepth 20000 in
theorem l_X9_329 : LKA RX9 329 z_X9_execute := Or.inl (inALL_at 1649 (by decide +kernel) rfl)
set_option maxRecDepth 20000 in
theorem l_X9_332 : LKA RX9 332 z_X9_isQueue := Or.inl (inALL_at 1740 (by decide +kernel) rfl)
set_option maxRecDepth 20000 in
theorem l_X9_335 : LKA RX9 335 z_X9_check := Or.inl (inALL_at 1744 (by decide +kernel) rfl)
set_option maxRecDepth 20000 in
theorem l_X9_339 : LKA RX9 339 z_X9_numberOf := Or.inl (inALL_at 1720 (by decide +kernel) rfl)
set_option maxRecDepth 20000 in
theorem l_X9_342 : LKA RX9 342 z_X9_checkQueue := Or.inl (inALL_at 1736 (by decide +kernel) rfl)
set_option maxRecDepth 20000 in
theorem l_X9_345 : LKA RX9 345 z_X9_letterAt := Or.inl (inALL_at 1748 (by decide +kernel) rfl)
set_option maxRecDepth 20000 in
theorem l_X9_348 : LKA RX9 348 z_X9_isOwner := Or.inl (inALL_at 1756 (by decide +kernel) rfl)
set_option maxRecDepth 20000 in
theorem l_X9_351 : LKA RX9 351 z_X9_checkJob := Or.inl (inALL_at 1764 (by decide +kernel) rfl)
set_option maxRecDepth 20000 in
theorem l_X9_354 : LKA RX9 354 z_X9_checkWaiting := Or.inl (inALL_at 1816 (by decide +kernel) rfl)
set_option maxRecDepth 20000 in
theorem l_X9_357 : LKA RX9 357 z_X9_heightFrom := Or.inl (inALL_at 1824 (by decide +kernel) rfl)
set_option maxRecDepth 20000 in
theorem l_X9_360 : LKA RX9 360 z_X9_positionIn := Or.inl (inALL_at 1840 (by decide +kernel) rfl)
set_option maxRecDepth 20000 in
theorem l_X9_363 : LKA RX9 363 z_X9_jobIn := Or.inl (inALL_at 1836 (by decide +kernel) rfl)
set_option maxRecDepth 20000 in
theorem l_X9_366 : LKA RX9 366 z_X9_pagesAhead := Or.inl (inALL_at 1852 (by decide +kernel) rfl)
set_option maxRecDepth 20000 in
theorem l_X9_369 : LKA RX9 369 z_X9_minutes := Or.inl (inALL_at 1860 (by decide +kernel) rfl)
set_option maxRecDepth 20000 in
theorem l_X9_372 : LKA RX9 372 z_X9_pagesIn := Or.inl (inALL_at 1868 (by decide +kernel) rfl)
set_option maxRecDepth 20000 in
theorem l_X9_375 : LKA RX9 375 z_X9_pagesOfOwner := Or.inl (inALL_at 1892 (by decide +kernel) rfl)
set_option maxRecDepth 20000 in
theorem l_X9_378 : LKA RX9 378 z_X9_checkTwo := Or.inl (inALL_at 1916 (by decide +kernel) rfl)
set_option maxRecDepth 20000 in
theorem l_X9_383 : LKA RX9 383 z_X9_waitingCount := Or.inl (inALL_at 1933 (by decide +kernel) rfl)
set_option maxRecDepth 20000 in
theorem l_X9_386 : LKA RX9 386 z_X9_isLinked := Or.inl (inALL_at 1949 (by decide +kernel) rfl)
set_option maxRecDepth 20000 in
theorem l_X9_389 : LKA RX9 389 z_X9_countFrom := Or.inl (inALL_at 1961 (by decide +kernel) rfl)
set_option maxRecDepth 20000 in
theorem l_X9_392 : LKA RX9 392 z_X9_isNodeConsistent := Or.inl (inALL_at 1945 (by decide +kernel) rfl)
set_option maxRecDepth 20000 in
theorem l_X9_395 : LKA RX9 395 z_X9_isOrderConsistent := Or.inl (inALL_at 1953 (by decide +kernel) rfl)
set_option maxRecDepth 20000 in
theorem l_X9_398 : LKA RX9 398 z_X9_areHeapsWhole := Or.inl (inALL_at 1957 (by decide +kernel) rfl)
set_option maxRecDepth 20000 in
theorem l_X9_405 : LKA RX9 405 z_X9_write := Or.inl (inALL_at 2009 (by decide +kernel) rfl)
set_option maxRecDepth 20000 in
theorem l_X9_408 : LKA RX9 408 z_X9_writeNumber := Or.inl (inALL_at 2005 (by decide +kernel) rfl)
set_option maxRecDepth 20000 in
theorem l_X9_411 : LKA RX9 411 z_X9_writeFrom := Or.inl (inALL_at 2001 (by decide +kernel) rfl)
