/-! ===== 09a.tabx: methods by program: code, fields, links ===== -/
def ftX0 : List (Nat × Nat × Nat) := [(9, 0, 0), (15, 0, 1), (18, 0, 2), (21, 0, 3), (24, 0, 4), (27, 0, 5), (31, 0, 6), (34, 0, 7)]
theorem ftX0_ok : ∀ q ∈ ftX0, okF RX0 q = true := by decide +kernel
def ftX1 : List (Nat × Nat × Nat) := [(11, 1, 0), (17, 1, 1), (21, 1, 2)]
theorem ftX1_ok : ∀ q ∈ ftX1, okF RX1 q = true := by decide +kernel
def ftX2 : List (Nat × Nat × Nat) := [(9, 2, 0), (15, 2, 1)]
theorem ftX2_ok : ∀ q ∈ ftX2, okF RX2 q = true := by decide +kernel
def ftX3 : List (Nat × Nat × Nat) := [(9, 3, 0), (15, 3, 1)]
theorem ftX3_ok : ∀ q ∈ ftX3, okF RX3 q = true := by decide +kernel
def ftX4 : List (Nat × Nat × Nat) := [(9, 4, 0), (15, 4, 1), (19, 4, 2), (22, 4, 3), (25, 4, 4), (28, 4, 5), (31, 4, 6), (35, 4, 7), (38, 4, 8), (41, 4, 9)]
theorem ftX4_ok : ∀ q ∈ ftX4, okF RX4 q = true := by decide +kernel
def ftX5 : List (Nat × Nat × Nat) := [(9, 5, 0), (15, 5, 1), (18, 5, 2), (21, 5, 3), (24, 5, 4), (27, 5, 5)]
theorem ftX5_ok : ∀ q ∈ ftX5, okF RX5 q = true := by decide +kernel
def ftX6 : List (Nat × Nat × Nat) := [(12, 6, 0), (18, 6, 1), (21, 6, 2), (25, 2, 1)]
theorem ftX6_ok : ∀ q ∈ ftX6, okF RX6 q = true := by decide +kernel
def ftX7 : List (Nat × Nat × Nat) := [(12, 7, 0), (18, 7, 1), (22, 7, 2), (26, 7, 3), (29, 7, 4), (32, 7, 5), (35, 7, 6), (38, 7, 7), (41, 7, 8), (104, 0, 3)]
theorem ftX7_ok : ∀ q ∈ ftX7, okF RX7 q = true := by decide +kernel
def ftX8 : List (Nat × Nat × Nat) := [(10, 8, 0), (19, 8, 1), (26, 8, 2), (33, 8, 3), (40, 8, 4), (44, 8, 5), (47, 8, 6), (50, 8, 7), (57, 8, 8), (61, 8, 9), (81, 4, 1), (89, 7, 1), (112, 6, 0), (116, 2, 1), (119, 6, 1), (135, 7, 5), (139, 7, 2), (142, 7, 0), (146, 0, 0), (151, 7, 3), (154, 7, 4), (157, 7, 6), (160, 0, 1), (163, 0, 2), (166, 0, 3), (200, 7, 7), (206, 7, 8)]
theorem ftX8_ok : ∀ q ∈ ftX8, okF RX8 q = true := by decide +kernel
def z_X8_init : MZ := (yX8_init, cX8_init, 1, none, [(0, .aload_n 0, 1), (1, .invokespecial 1, 3), (4, .aload_n 0, 1), (5, .new 7, 3), (8, .dup, 1), (9, .invokespecial 9, 3), (12, .putfield 10, 3), (15, .aload_n 0, 1), (16, .new 16, 3), (19, .dup, 1), (20, .invokespecial 18, 3), (23, .putfield 19, 3), (26, .aload_n 0, 1), (27, .new 23, 3), (30, .dup, 1), (31, .invokespecial 25, 3), (34, .putfield 26, 3), (37, .aload_n 0, 1), (38, .new 30, 3), (41, .dup, 1), (42, .invokespecial 32, 3), (45, .putfield 33, 3), (48, .aload_n 0, 1), (49, .new 37, 3), (52, .dup, 1), (53, .invokespecial 39, 3), (56, .putfield 40, 3), (59, .aload_n 0, 1), (60, .new 37, 3), (63, .dup, 1), (64, .invokespecial 39, 3), (67, .putfield 44, 3), (70, .aload_n 0, 1), (71, .new 37, 3), (74, .dup, 1), (75, .invokespecial 39, 3), (78, .putfield 47, 3), (81, .aload_n 0, 1), (82, .iconst 0, 1), (83, .putfield 50, 3), (86, .aload_n 0, 1), (87, .new 54, 3), (90, .dup, 1), (91, .invokespecial 56, 3), (94, .putfield 57, 3), (97, .aload_n 0, 1), (98, .new 54, 3), (101, .dup, 1), (102, .invokespecial 56, 3), (105, .putfield 61, 3), (108, .aload_n 0, 1), (109, .getfield 10, 3), (112, .ldc 64, 2), (114, .invokevirtual 66, 3), (117, .aload_n 0, 1), (118, .getfield 10, 3), (121, .ldc 70, 2), (123, .invokevirtual 66, 3), (126, .aload_n 0, 1), (127, .getfield 10, 3), (130, .ldc 72, 2), (132, .invokevirtual 66, 3), (135, .aload_n 0, 1), (136, .invokevirtual 74, 3), (139, .ifCond .eq 7, 3), (142, .aload_n 0, 1), (143, .invokevirtual 78, 3), (146, .return_, 1)], ftX8)
set_option maxRecDepth 20000 in
theorem zo_X8_init : ZOK z_X8_init := ⟨by decide +kernel, ftX8_ok⟩
set_option maxRecDepth 20000 in
theorem k_X8_init : LKI z_X8_init 0 := ⟨⟨ALL_at 62 (by decide +kernel) rfl, (inALL_at 31 (by decide +kernel) rfl), by decide +kernel⟩, rfl, rfl, (inALL_at 61 (by decide +kernel) rfl)⟩
def z_X4_init : MZ := (yX4_init, cX4_init, 1, none, [(0, .aload_n 0, 1), (1, .invokespecial 3, 3), (4, .aload_n 0, 1), (5, .sipush 600, 3), (8, .newarray .int, 2), (10, .putfield 9, 3), (13, .aload_n 0, 1), (14, .iconst 0, 1), (15, .putfield 15, 3), (18, .aload_n 0, 1), (19, .iconst 0, 1), (20, .putfield 19, 3), (23, .aload_n 0, 1), (24, .iconst 0, 1), (25, .putfield 22, 3), (28, .aload_n 0, 1), (29, .iconst 0, 1), (30, .putfield 25, 3), (33, .aload_n 0, 1), (34, .iconst 0, 1), (35, .putfield 28, 3), (38, .aload_n 0, 1), (39, .lconst 0, 1), (40, .putfield 31, 3), (43, .aload_n 0, 1), (44, .iconst 0, 1), (45, .putfield 35, 3), (48, .aload_n 0, 1), (49, .iconst 0, 1), (50, .putfield 38, 3), (53, .aload_n 0, 1), (54, .iconst (-1), 1), (55, .putfield 41, 3), (58, .return_, 1)], ftX4)
set_option maxRecDepth 20000 in
theorem zo_X4_init : ZOK z_X4_init := ⟨by decide +kernel, ftX4_ok⟩
set_option maxRecDepth 20000 in
theorem k_X4_init : LKI z_X4_init 0 := ⟨⟨ALL_at 70 (by decide +kernel) rfl, (inALL_at 32 (by decide +kernel) rfl), by decide +kernel⟩, rfl, rfl, (inALL_at 69 (by decide +kernel) rfl)⟩
def z_X5_init : MZ := (yX5_init, cX5_init, 1, none, [(0, .aload_n 0, 1), (1, .invokespecial 3, 3), (4, .aload_n 0, 1), (5, .bipush 30, 2), (7, .newarray .int, 2), (9, .putfield 9, 3), (12, .aload_n 0, 1), (13, .bipush 30, 2), (15, .newarray .int, 2), (17, .putfield 15, 3), (20, .aload_n 0, 1), (21, .bipush 30, 2), (23, .newarray .int, 2), (25, .putfield 18, 3), (28, .aload_n 0, 1), (29, .bipush 30, 2), (31, .newarray .int, 2), (33, .putfield 21, 3), (36, .aload_n 0, 1), (37, .bipush 30, 2), (39, .newarray .int, 2), (41, .putfield 24, 3), (44, .aload_n 0, 1), (45, .iconst 0, 1), (46, .putfield 27, 3), (49, .return_, 1)], ftX5)
set_option maxRecDepth 20000 in
theorem zo_X5_init : ZOK z_X5_init := ⟨by decide +kernel, ftX5_ok⟩
set_option maxRecDepth 20000 in
theorem k_X5_init : LKI z_X5_init 0 := ⟨⟨ALL_at 109 (by decide +kernel) rfl, (inALL_at 33 (by decide +kernel) rfl), by decide +kernel⟩, rfl, rfl, (inALL_at 108 (by decide +kernel) rfl)⟩
def z_X3_init : MZ := (yX3_init, cX3_init, 1, none, [(0, .aload_n 0, 1), (1, .invokespecial 3, 3), (4, .aload_n 0, 1), (5, .sipush 200, 3), (8, .newarray .int, 2), (10, .putfield 9, 3), (13, .aload_n 0, 1), (14, .iconst 0, 1), (15, .putfield 15, 3), (18, .return_, 1)], ftX3)
set_option maxRecDepth 20000 in
theorem zo_X3_init : ZOK z_X3_init := ⟨by decide +kernel, ftX3_ok⟩
set_option maxRecDepth 20000 in
theorem k_X3_init : LKI z_X3_init 0 := ⟨⟨ALL_at 134 (by decide +kernel) rfl, (inALL_at 34 (by decide +kernel) rfl), by decide +kernel⟩, rfl, rfl, (inALL_at 133 (by decide +kernel) rfl)⟩
def z_X1_init : MZ := (yX1_init, cX1_init, 2, none, [(0, .aload_n 0, 1), (1, .invokespecial 3, 3), (4, .aload_n 0, 1), (5, .bipush 8, 2), (7, .anewarray 9, 3), (10, .putfield 11, 3), (13, .aload_n 0, 1), (14, .iconst 0, 1), (15, .putfield 17, 3), (18, .aload_n 0, 1), (19, .iconst 0, 1), (20, .putfield 21, 3), (23, .iconst 0, 1), (24, .istore_n 1, 1), (25, .iload_n 1, 1), (26, .bipush 8, 2), (28, .if_icmp .ge 22, 3), (31, .aload_n 0, 1), (32, .getfield 11, 3), (35, .iload_n 1, 1), (36, .new 9, 3), (39, .dup, 1), (40, .invokespecial 24, 3), (43, .aastore, 1), (44, .iinc 1 1, 3), (47, .goto (-22), 3), (50, .return_, 1)], ftX1)
set_option maxRecDepth 20000 in
theorem zo_X1_init : ZOK z_X1_init := ⟨by decide +kernel, ftX1_ok⟩
set_option maxRecDepth 20000 in
theorem k_X1_init : LKI z_X1_init 0 := ⟨⟨ALL_at 147 (by decide +kernel) rfl, (inALL_at 35 (by decide +kernel) rfl), by decide +kernel⟩, rfl, rfl, (inALL_at 146 (by decide +kernel) rfl)⟩
def z_X7_init : MZ := (yX7_init, cX7_init, 1, none, [(0, .aload_n 0, 1), (1, .invokespecial 3, 3), (4, .aload_n 0, 1), (5, .new 9, 3), (8, .dup, 1), (9, .invokespecial 11, 3), (12, .putfield 12, 3), (15, .aload_n 0, 1), (16, .iconst 0, 1), (17, .putfield 18, 3), (20, .aload_n 0, 1), (21, .bipush 40, 2), (23, .newarray .int, 2), (25, .putfield 22, 3), (28, .aload_n 0, 1), (29, .bipush 40, 2), (31, .newarray .int, 2), (33, .putfield 26, 3), (36, .aload_n 0, 1), (37, .bipush 40, 2), (39, .newarray .int, 2), (41, .putfield 29, 3), (44, .aload_n 0, 1), (45, .bipush 40, 2), (47, .newarray .int, 2), (49, .putfield 32, 3), (52, .aload_n 0, 1), (53, .bipush 6, 2), (55, .newarray .int, 2), (57, .putfield 35, 3), (60, .aload_n 0, 1), (61, .bipush 6, 2), (63, .newarray .int, 2), (65, .putfield 38, 3), (68, .aload_n 0, 1), (69, .bipush 6, 2), (71, .newarray .boolean, 2), (73, .putfield 41, 3), (76, .return_, 1)], ftX7)
set_option maxRecDepth 20000 in
theorem zo_X7_init : ZOK z_X7_init := ⟨by decide +kernel, ftX7_ok⟩
set_option maxRecDepth 20000 in
theorem k_X7_init : LKI z_X7_init 0 := ⟨⟨ALL_at 154 (by decide +kernel) rfl, (inALL_at 36 (by decide +kernel) rfl), by decide +kernel⟩, rfl, rfl, (inALL_at 153 (by decide +kernel) rfl)⟩
def z_X0_init : MZ := (yX0_init, cX0_init, 1, none, [(0, .aload_n 0, 1), (1, .invokespecial 3, 3), (4, .aload_n 0, 1), (5, .bipush 40, 2), (7, .newarray .int, 2), (9, .putfield 9, 3), (12, .aload_n 0, 1), (13, .bipush 40, 2), (15, .newarray .int, 2), (17, .putfield 15, 3), (20, .aload_n 0, 1), (21, .bipush 40, 2), (23, .newarray .int, 2), (25, .putfield 18, 3), (28, .aload_n 0, 1), (29, .bipush 40, 2), (31, .newarray .int, 2), (33, .putfield 21, 3), (36, .aload_n 0, 1), (37, .bipush 40, 2), (39, .newarray .int, 2), (41, .putfield 24, 3), (44, .aload_n 0, 1), (45, .iconst 0, 1), (46, .putfield 27, 3), (49, .aload_n 0, 1), (50, .iconst 0, 1), (51, .putfield 31, 3), (54, .aload_n 0, 1), (55, .bipush 40, 2), (57, .newarray .int, 2), (59, .putfield 34, 3), (62, .return_, 1)], ftX0)
set_option maxRecDepth 20000 in
theorem zo_X0_init : ZOK z_X0_init := ⟨by decide +kernel, ftX0_ok⟩
set_option maxRecDepth 20000 in
theorem k_X0_init : LKI z_X0_init 0 := ⟨⟨ALL_at 160 (by decide +kernel) rfl, (inALL_at 37 (by decide +kernel) rfl), by decide +kernel⟩, rfl, rfl, (inALL_at 159 (by decide +kernel) rfl)⟩
def z_X6_init : MZ := (yX6_init, cX6_init, 1, none, [(0, .aload_n 0, 1), (1, .invokespecial 3, 3), (4, .aload_n 0, 1), (5, .new 9, 3), (8, .dup, 1), (9, .invokespecial 11, 3), (12, .putfield 12, 3), (15, .aload_n 0, 1), (16, .new 9, 3), (19, .dup, 1), (20, .invokespecial 11, 3), (23, .putfield 18, 3), (26, .aload_n 0, 1), (27, .bipush 6, 2), (29, .newarray .int, 2), (31, .putfield 21, 3), (34, .return_, 1)], ftX6)
set_option maxRecDepth 20000 in
theorem zo_X6_init : ZOK z_X6_init := ⟨by decide +kernel, ftX6_ok⟩
set_option maxRecDepth 20000 in
theorem k_X6_init : LKI z_X6_init 0 := ⟨⟨ALL_at 246 (by decide +kernel) rfl, (inALL_at 38 (by decide +kernel) rfl), by decide +kernel⟩, rfl, rfl, (inALL_at 245 (by decide +kernel) rfl)⟩
def z_X2_init : MZ := (yX2_init, cX2_init, 1, none, [(0, .aload_n 0, 1), (1, .invokespecial 3, 3), (4, .aload_n 0, 1), (5, .bipush 8, 2), (7, .newarray .long, 2), (9, .putfield 9, 3), (12, .aload_n 0, 1), (13, .iconst 0, 1), (14, .putfield 15, 3), (17, .return_, 1)], ftX2)
set_option maxRecDepth 20000 in
theorem zo_X2_init : ZOK z_X2_init := ⟨by decide +kernel, ftX2_ok⟩
set_option maxRecDepth 20000 in
theorem k_X2_init : LKI z_X2_init 0 := ⟨⟨ALL_at 252 (by decide +kernel) rfl, (inALL_at 39 (by decide +kernel) rfl), by decide +kernel⟩, rfl, rfl, (inALL_at 251 (by decide +kernel) rfl)⟩
def z_X4_appendText : MZ := (yX4_appendText, cX4_appendText, 3, none, [(0, .iconst 0, 1), (1, .istore_n 2, 1), (2, .iload_n 2, 1), (3, .aload_n 1, 1), (4, .invokevirtual 44, 3), (7, .if_icmp .ge 18, 3), (10, .aload_n 0, 1), (11, .aload_n 1, 1), (12, .iload_n 2, 1), (13, .invokevirtual 49, 3), (16, .invokevirtual 53, 3), (19, .iinc 2 1, 3), (22, .goto (-20), 3), (25, .return_, 1)], ftX4)
set_option maxRecDepth 20000 in
theorem zo_X4_appendText : ZOK z_X4_appendText := ⟨by decide +kernel, ftX4_ok⟩
set_option maxRecDepth 20000 in
theorem k_X4_appendText : LKV z_X4_appendText 1 := ⟨⟨ALL_at 280 (by decide +kernel) rfl, (inALL_at 32 (by decide +kernel) rfl), by decide +kernel⟩, (inALL_at 278 (by decide +kernel) rfl), (inALL_at 279 (by decide +kernel) rfl)⟩
def z_X4_appendByte : MZ := (yX4_appendByte, cX4_appendByte, 2, none, [(0, .aload_n 0, 1), (1, .getfield 15, 3), (4, .ifCond .lt 37, 3), (7, .aload_n 0, 1), (8, .getfield 15, 3), (11, .sipush 600, 3), (14, .if_icmp .ge 27, 3), (17, .aload_n 0, 1), (18, .getfield 9, 3), (21, .aload_n 0, 1), (22, .getfield 15, 3), (25, .iload_n 1, 1), (26, .sipush 255, 3), (29, .iand, 1), (30, .iastore, 1), (31, .aload_n 0, 1), (32, .dup, 1), (33, .getfield 15, 3), (36, .iconst 1, 1), (37, .iadd, 1), (38, .putfield 15, 3), (41, .return_, 1)], ftX4)
set_option maxRecDepth 20000 in
theorem zo_X4_appendByte : ZOK z_X4_appendByte := ⟨by decide +kernel, ftX4_ok⟩
set_option maxRecDepth 20000 in
theorem k_X4_appendByte : LKV z_X4_appendByte 1 := ⟨⟨ALL_at 332 (by decide +kernel) rfl, (inALL_at 32 (by decide +kernel) rfl), by decide +kernel⟩, (inALL_at 331 (by decide +kernel) rfl), (inALL_at 0 (by decide +kernel) rfl)⟩
def z_X8_readSetup : MZ := (yX8_readSetup, cX8_readSetup, 2, (some .boolean), [(0, .aload_n 0, 1), (1, .getfield 61, 3), (4, .invokevirtual 338, 3), (7, .aload_n 0, 1), (8, .getfield 44, 3), (11, .invokevirtual 339, 3), (14, .aload_n 0, 1), (15, .getfield 10, 3), (18, .invokevirtual 340, 3), (21, .iconst 0, 1), (22, .istore_n 1, 1), (23, .iload_n 1, 1), (24, .sipush 600, 3), (27, .if_icmp .gt 87, 3), (30, .aload_n 0, 1), (31, .getfield 10, 3), (34, .invokevirtual 343, 3), (37, .ifCond .eq 77, 3), (40, .aload_n 0, 1), (41, .getfield 10, 3), (44, .ldc_w 346, 3), (47, .invokevirtual 347, 3), (50, .ifCond .eq 10, 3), (53, .aload_n 0, 1), (54, .invokevirtual 351, 3), (57, .goto 51, 3), (60, .aload_n 0, 1), (61, .getfield 10, 3), (64, .ldc_w 354, 3), (67, .invokevirtual 347, 3), (70, .ifCond .eq 10, 3), (73, .aload_n 0, 1), (74, .invokevirtual 355, 3), (77, .goto 31, 3), (80, .aload_n 0, 1), (81, .getfield 10, 3), (84, .ldc_w 358, 3), (87, .invokevirtual 347, 3), (90, .ifCond .eq 10, 3), (93, .aload_n 0, 1), (94, .invokevirtual 360, 3), (97, .goto 11, 3), (100, .aload_n 0, 1), (101, .getfield 10, 3), (104, .iconst 1, 1), (105, .invokevirtual 363, 3), (108, .iinc 1 1, 3), (111, .goto (-88), 3), (114, .aload_n 0, 1), (115, .getfield 61, 3), (118, .getfield 112, 3), (121, .getfield 116, 3), (124, .ifCond .eq 16, 3), (127, .aload_n 0, 1), (128, .getfield 61, 3), (131, .getfield 119, 3), (134, .getfield 116, 3), (137, .ifCond .ne 11, 3), (140, .aload_n 0, 1), (141, .getfield 10, 3), (144, .iconst 5, 1), (145, .invokevirtual 363, 3), (148, .aload_n 0, 1), (149, .getfield 10, 3), (152, .invokevirtual 366, 3), (155, .ireturn, 1)], ftX8)
set_option maxRecDepth 20000 in
theorem zo_X8_readSetup : ZOK z_X8_readSetup := ⟨by decide +kernel, ftX8_ok⟩
set_option maxRecDepth 20000 in
theorem k_X8_readSetup : LKV z_X8_readSetup 0 := ⟨⟨ALL_at 338 (by decide +kernel) rfl, (inALL_at 31 (by decide +kernel) rfl), by decide +kernel⟩, (inALL_at 337 (by decide +kernel) rfl), (inALL_at 1 (by decide +kernel) rfl)⟩
def z_X6_clear : MZ := (yX6_clear, cX6_clear, 1, none, [(0, .aload_n 0, 1), (1, .getfield 12, 3), (4, .iconst 0, 1), (5, .putfield 25, 3), (8, .aload_n 0, 1), (9, .getfield 18, 3), (12, .iconst 0, 1), (13, .putfield 25, 3), (16, .return_, 1)], ftX6)
set_option maxRecDepth 20000 in
theorem zo_X6_clear : ZOK z_X6_clear := ⟨by decide +kernel, ftX6_ok⟩
set_option maxRecDepth 20000 in
theorem k_X6_clear : LKV z_X6_clear 0 := ⟨⟨ALL_at 342 (by decide +kernel) rfl, (inALL_at 38 (by decide +kernel) rfl), by decide +kernel⟩, (inALL_at 340 (by decide +kernel) rfl), (inALL_at 341 (by decide +kernel) rfl)⟩
def z_X7_clear : MZ := (yX7_clear, cX7_clear, 2, none, [(0, .aload_n 0, 1), (1, .iconst 0, 1), (2, .putfield 18, 3), (5, .aload_n 0, 1), (6, .getfield 12, 3), (9, .invokevirtual 45, 3), (12, .iconst 0, 1), (13, .istore_n 1, 1), (14, .iload_n 1, 1), (15, .bipush 6, 2), (17, .if_icmp .ge 30, 3), (20, .aload_n 0, 1), (21, .getfield 35, 3), (24, .iload_n 1, 1), (25, .iconst (-1), 1), (26, .iastore, 1), (27, .aload_n 0, 1), (28, .getfield 38, 3), (31, .iload_n 1, 1), (32, .iconst 0, 1), (33, .iastore, 1), (34, .aload_n 0, 1), (35, .getfield 41, 3), (38, .iload_n 1, 1), (39, .iconst 0, 1), (40, .bastore, 1), (41, .iinc 1 1, 3), (44, .goto (-30), 3), (47, .return_, 1)], ftX7)
set_option maxRecDepth 20000 in
theorem zo_X7_clear : ZOK z_X7_clear := ⟨by decide +kernel, ftX7_ok⟩
set_option maxRecDepth 20000 in
theorem k_X7_clear : LKV z_X7_clear 0 := ⟨⟨ALL_at 346 (by decide +kernel) rfl, (inALL_at 36 (by decide +kernel) rfl), by decide +kernel⟩, (inALL_at 344 (by decide +kernel) rfl), (inALL_at 345 (by decide +kernel) rfl)⟩
def z_X0_clearCounters : MZ := (yX0_clearCounters, cX0_clearCounters, 1, none, [(0, .aload_n 0, 1), (1, .iconst 0, 1), (2, .putfield 27, 3), (5, .aload_n 0, 1), (6, .iconst 0, 1), (7, .putfield 31, 3), (10, .return_, 1)], ftX0)
set_option maxRecDepth 20000 in
theorem zo_X0_clearCounters : ZOK z_X0_clearCounters := ⟨by decide +kernel, ftX0_ok⟩
set_option maxRecDepth 20000 in
theorem k_X0_clearCounters : LKV z_X0_clearCounters 0 := ⟨⟨ALL_at 350 (by decide +kernel) rfl, (inALL_at 37 (by decide +kernel) rfl), by decide +kernel⟩, (inALL_at 348 (by decide +kernel) rfl), (inALL_at 349 (by decide +kernel) rfl)⟩
def z_X4_begin : MZ := (yX4_begin, cX4_begin, 1, none, [(0, .aload_n 0, 1), (1, .aload_n 0, 1), (2, .getfield 15, 3), (5, .putfield 19, 3), (8, .aload_n 0, 1), (9, .iconst 0, 1), (10, .putfield 15, 3), (13, .aload_n 0, 1), (14, .iconst 0, 1), (15, .putfield 22, 3), (18, .aload_n 0, 1), (19, .iconst 0, 1), (20, .putfield 38, 3), (23, .aload_n 0, 1), (24, .iconst (-1), 1), (25, .putfield 41, 3), (28, .return_, 1)], ftX4)
set_option maxRecDepth 20000 in
theorem zo_X4_begin : ZOK z_X4_begin := ⟨by decide +kernel, ftX4_ok⟩
set_option maxRecDepth 20000 in
theorem k_X4_begin : LKV z_X4_begin 0 := ⟨⟨ALL_at 354 (by decide +kernel) rfl, (inALL_at 32 (by decide +kernel) rfl), by decide +kernel⟩, (inALL_at 352 (by decide +kernel) rfl), (inALL_at 353 (by decide +kernel) rfl)⟩
def z_X4_startsStatement : MZ := (yX4_startsStatement, cX4_startsStatement, 1, (some .boolean), [(0, .aload_n 0, 1), (1, .invokevirtual 57, 3), (4, .aload_n 0, 1), (5, .getfield 25, 3), (8, .iconst 1, 1), (9, .if_icmp .eq 15, 3), (12, .aload_n 0, 1), (13, .getfield 25, 3), (16, .ifCond .eq 8, 3), (19, .aload_n 0, 1), (20, .iconst 1, 1), (21, .invokevirtual 60, 3), (24, .aload_n 0, 1), (25, .invokevirtual 63, 3), (28, .ifCond .eq 15, 3), (31, .aload_n 0, 1), (32, .getfield 25, 3), (35, .iconst 1, 1), (36, .if_icmp .ne 7, 3), (39, .iconst 1, 1), (40, .goto 4, 3), (43, .iconst 0, 1), (44, .ireturn, 1)], ftX4)
set_option maxRecDepth 20000 in
theorem zo_X4_startsStatement : ZOK z_X4_startsStatement := ⟨by decide +kernel, ftX4_ok⟩
set_option maxRecDepth 20000 in
theorem k_X4_startsStatement : LKV z_X4_startsStatement 0 := ⟨⟨ALL_at 358 (by decide +kernel) rfl, (inALL_at 32 (by decide +kernel) rfl), by decide +kernel⟩, (inALL_at 356 (by decide +kernel) rfl), (inALL_at 357 (by decide +kernel) rfl)⟩
def z_X4_readToken : MZ := (yX4_readToken, cX4_readToken, 2, none, [(0, .aload_n 0, 1), (1, .invokevirtual 63, 3), (4, .ifCond .ne 4, 3), (7, .return_, 1), (8, .aload_n 0, 1), (9, .getfield 22, 3), (12, .aload_n 0, 1), (13, .getfield 19, 3), (16, .if_icmp .ge 26, 3), (19, .aload_n 0, 1), (20, .invokevirtual 81, 3), (23, .invokestatic 84, 3), (26, .ifCond .eq 16, 3), (29, .aload_n 0, 1), (30, .dup, 1), (31, .getfield 22, 3), (34, .iconst 1, 1), (35, .iadd, 1), (36, .putfield 22, 3), (39, .goto (-31), 3), (42, .aload_n 0, 1), (43, .aload_n 0, 1), (44, .getfield 22, 3), (47, .putfield 28, 3), (50, .aload_n 0, 1), (51, .invokevirtual 81, 3), (54, .istore_n 1, 1), (55, .iload_n 1, 1), (56, .invokestatic 88, 3), (59, .ifCond .eq 10, 3), (62, .aload_n 0, 1), (63, .invokevirtual 91, 3), (66, .goto 55, 3), (69, .iload_n 1, 1), (70, .invokestatic 94, 3), (73, .ifCond .eq 10, 3), (76, .aload_n 0, 1), (77, .invokevirtual 97, 3), (80, .goto 41, 3), (83, .iload_n 1, 1), (84, .bipush 59, 2), (86, .if_icmp .ne 21, 3), (89, .aload_n 0, 1), (90, .iconst 3, 1), (91, .putfield 25, 3), (94, .aload_n 0, 1), (95, .dup, 1), (96, .getfield 22, 3), (99, .iconst 1, 1), (100, .iadd, 1), (101, .putfield 22, 3), (104, .goto 17, 3), (107, .aload_n 0, 1), (108, .iload_n 1, 1), (109, .iconst (-1), 1), (110, .if_icmp .ne 7, 3), (113, .iconst 0, 1), (114, .goto 4, 3), (117, .iconst 4, 1), (118, .putfield 25, 3), (121, .return_, 1)], ftX4)
set_option maxRecDepth 20000 in
theorem zo_X4_readToken : ZOK z_X4_readToken := ⟨by decide +kernel, ftX4_ok⟩
set_option maxRecDepth 20000 in
theorem k_X4_readToken : LKV z_X4_readToken 0 := ⟨⟨ALL_at 362 (by decide +kernel) rfl, (inALL_at 32 (by decide +kernel) rfl), by decide +kernel⟩, (inALL_at 361 (by decide +kernel) rfl), (inALL_at 2 (by decide +kernel) rfl)⟩
def z_X4_isValid : MZ := (yX4_isValid, cX4_isValid, 1, (some .boolean), [(0, .aload_n 0, 1), (1, .getfield 38, 3), (4, .ifCond .ne 7, 3), (7, .iconst 1, 1), (8, .goto 4, 3), (11, .iconst 0, 1), (12, .ireturn, 1)], ftX4)
set_option maxRecDepth 20000 in
theorem zo_X4_isValid : ZOK z_X4_isValid := ⟨by decide +kernel, ftX4_ok⟩
set_option maxRecDepth 20000 in
theorem k_X4_isValid : LKV z_X4_isValid 0 := ⟨⟨ALL_at 366 (by decide +kernel) rfl, (inALL_at 32 (by decide +kernel) rfl), by decide +kernel⟩, (inALL_at 364 (by decide +kernel) rfl), (inALL_at 365 (by decide +kernel) rfl)⟩
def z_X4_nextByte : MZ := (yX4_nextByte, cX4_nextByte, 1, (some .int), [(0, .aload_n 0, 1), (1, .getfield 22, 3), (4, .ifCond .lt 36, 3), (7, .aload_n 0, 1), (8, .getfield 22, 3), (11, .aload_n 0, 1), (12, .getfield 19, 3), (15, .if_icmp .ge 25, 3), (18, .aload_n 0, 1), (19, .getfield 22, 3), (22, .sipush 600, 3), (25, .if_icmp .ge 15, 3), (28, .aload_n 0, 1), (29, .getfield 9, 3), (32, .aload_n 0, 1), (33, .getfield 22, 3), (36, .iaload, 1), (37, .goto 4, 3), (40, .iconst (-1), 1), (41, .ireturn, 1)], ftX4)
set_option maxRecDepth 20000 in
theorem zo_X4_nextByte : ZOK z_X4_nextByte := ⟨by decide +kernel, ftX4_ok⟩
set_option maxRecDepth 20000 in
theorem k_X4_nextByte : LKV z_X4_nextByte 0 := ⟨⟨ALL_at 370 (by decide +kernel) rfl, (inALL_at 32 (by decide +kernel) rfl), by decide +kernel⟩, (inALL_at 369 (by decide +kernel) rfl), (inALL_at 3 (by decide +kernel) rfl)⟩
def z_X4_isBlank : MZ := (yX4_isBlank, cX4_isBlank, 1, (some .boolean), [(0, .iload_n 0, 1), (1, .bipush 32, 2), (3, .if_icmp .eq 9, 3), (6, .iload_n 0, 1), (7, .bipush 10, 2), (9, .if_icmp .ne 7, 3), (12, .iconst 1, 1), (13, .goto 4, 3), (16, .iconst 0, 1), (17, .ireturn, 1)], ftX4)
set_option maxRecDepth 20000 in
theorem zo_X4_isBlank : ZOK z_X4_isBlank := ⟨by decide +kernel, ftX4_ok⟩
set_option maxRecDepth 20000 in
theorem k_X4_isBlank : LKS z_X4_isBlank 1 := ⟨⟨ALL_at 373 (by decide +kernel) rfl, (inALL_at 32 (by decide +kernel) rfl), by decide +kernel⟩, (inALL_at 372 (by decide +kernel) rfl)⟩
def z_X4_isLetter : MZ := (yX4_isLetter, cX4_isLetter, 1, (some .boolean), [(0, .iload_n 0, 1), (1, .bipush 97, 2), (3, .if_icmp .lt 13, 3), (6, .iload_n 0, 1), (7, .bipush 122, 2), (9, .if_icmp .gt 7, 3), (12, .iconst 1, 1), (13, .goto 4, 3), (16, .iconst 0, 1), (17, .ireturn, 1)], ftX4)
set_option maxRecDepth 20000 in
theorem zo_X4_isLetter : ZOK z_X4_isLetter := ⟨by decide +kernel, ftX4_ok⟩
set_option maxRecDepth 20000 in
theorem k_X4_isLetter : LKS z_X4_isLetter 1 := ⟨⟨ALL_at 376 (by decide +kernel) rfl, (inALL_at 32 (by decide +kernel) rfl), by decide +kernel⟩, (inALL_at 375 (by decide +kernel) rfl)⟩
def z_X4_readWord : MZ := (yX4_readWord, cX4_readWord, 1, none, [(0, .aload_n 0, 1), (1, .lconst 0, 1), (2, .putfield 31, 3), (5, .aload_n 0, 1), (6, .getfield 22, 3), (9, .aload_n 0, 1), (10, .getfield 19, 3), (13, .if_icmp .ge 67, 3), (16, .aload_n 0, 1), (17, .invokevirtual 81, 3), (20, .invokestatic 88, 3), (23, .ifCond .eq 57, 3), (26, .aload_n 0, 1), (27, .getfield 22, 3), (30, .aload_n 0, 1), (31, .getfield 28, 3), (34, .isub, 1), (35, .bipush 8, 2), (37, .if_icmp .ge 30, 3), (40, .aload_n 0, 1), (41, .dup, 1), (42, .getfield 31, 3), (45, .aload_n 0, 1), (46, .invokevirtual 81, 3), (49, .i2l, 1), (50, .bipush 8, 2), (52, .aload_n 0, 1), (53, .getfield 22, 3), (56, .aload_n 0, 1), (57, .getfield 28, 3), (60, .isub, 1), (61, .imul, 1), (62, .lshl, 1), (63, .lor, 1), (64, .putfield 31, 3), (67, .aload_n 0, 1), (68, .dup, 1), (69, .getfield 22, 3), (72, .iconst 1, 1), (73, .iadd, 1), (74, .putfield 22, 3), (77, .goto (-72), 3), (80, .aload_n 0, 1), (81, .aload_n 0, 1), (82, .getfield 22, 3), (85, .aload_n 0, 1), (86, .getfield 28, 3), (89, .isub, 1), (90, .bipush 8, 2), (92, .if_icmp .le 7, 3), (95, .iconst 4, 1), (96, .goto 4, 3), (99, .iconst 1, 1), (100, .putfield 25, 3), (103, .return_, 1)], ftX4)
set_option maxRecDepth 20000 in
theorem zo_X4_readWord : ZOK z_X4_readWord := ⟨by decide +kernel, ftX4_ok⟩
set_option maxRecDepth 20000 in
theorem k_X4_readWord : LKV z_X4_readWord 0 := ⟨⟨ALL_at 380 (by decide +kernel) rfl, (inALL_at 32 (by decide +kernel) rfl), by decide +kernel⟩, (inALL_at 379 (by decide +kernel) rfl), (inALL_at 4 (by decide +kernel) rfl)⟩
def z_X4_isDigit : MZ := (yX4_isDigit, cX4_isDigit, 1, (some .boolean), [(0, .iload_n 0, 1), (1, .bipush 48, 2), (3, .if_icmp .lt 13, 3), (6, .iload_n 0, 1), (7, .bipush 57, 2), (9, .if_icmp .gt 7, 3), (12, .iconst 1, 1), (13, .goto 4, 3), (16, .iconst 0, 1), (17, .ireturn, 1)], ftX4)
set_option maxRecDepth 20000 in
theorem zo_X4_isDigit : ZOK z_X4_isDigit := ⟨by decide +kernel, ftX4_ok⟩
set_option maxRecDepth 20000 in
theorem k_X4_isDigit : LKS z_X4_isDigit 1 := ⟨⟨ALL_at 383 (by decide +kernel) rfl, (inALL_at 32 (by decide +kernel) rfl), by decide +kernel⟩, (inALL_at 382 (by decide +kernel) rfl)⟩
def z_X4_readDigits : MZ := (yX4_readDigits, cX4_readDigits, 1, none, [(0, .aload_n 0, 1), (1, .iconst 0, 1), (2, .putfield 35, 3), (5, .aload_n 0, 1), (6, .getfield 22, 3), (9, .aload_n 0, 1), (10, .getfield 19, 3), (13, .if_icmp .ge 58, 3), (16, .aload_n 0, 1), (17, .invokevirtual 81, 3), (20, .invokestatic 94, 3), (23, .ifCond .eq 48, 3), (26, .aload_n 0, 1), (27, .getfield 22, 3), (30, .aload_n 0, 1), (31, .getfield 28, 3), (34, .isub, 1), (35, .iconst 3, 1), (36, .if_icmp .ge 22, 3), (39, .aload_n 0, 1), (40, .aload_n 0, 1), (41, .getfield 35, 3), (44, .bipush 10, 2), (46, .imul, 1), (47, .aload_n 0, 1), (48, .invokevirtual 81, 3), (51, .iadd, 1), (52, .bipush 48, 2), (54, .isub, 1), (55, .putfield 35, 3), (58, .aload_n 0, 1), (59, .dup, 1), (60, .getfield 22, 3), (63, .iconst 1, 1), (64, .iadd, 1), (65, .putfield 22, 3), (68, .goto (-63), 3), (71, .aload_n 0, 1), (72, .iconst 2, 1), (73, .putfield 25, 3), (76, .return_, 1)], ftX4)
set_option maxRecDepth 20000 in
theorem zo_X4_readDigits : ZOK z_X4_readDigits := ⟨by decide +kernel, ftX4_ok⟩
set_option maxRecDepth 20000 in
theorem k_X4_readDigits : LKV z_X4_readDigits 0 := ⟨⟨ALL_at 387 (by decide +kernel) rfl, (inALL_at 32 (by decide +kernel) rfl), by decide +kernel⟩, (inALL_at 386 (by decide +kernel) rfl), (inALL_at 5 (by decide +kernel) rfl)⟩
def z_X4_fail : MZ := (yX4_fail, cX4_fail, 2, none, [(0, .aload_n 0, 1), (1, .getfield 38, 3), (4, .ifCond .ne 16, 3), (7, .aload_n 0, 1), (8, .iload_n 1, 1), (9, .putfield 38, 3), (12, .aload_n 0, 1), (13, .aload_n 0, 1), (14, .getfield 28, 3), (17, .putfield 41, 3), (20, .return_, 1)], ftX4)
set_option maxRecDepth 20000 in
theorem zo_X4_fail : ZOK z_X4_fail := ⟨by decide +kernel, ftX4_ok⟩
set_option maxRecDepth 20000 in
theorem k_X4_fail : LKV z_X4_fail 1 := ⟨⟨ALL_at 391 (by decide +kernel) rfl, (inALL_at 32 (by decide +kernel) rfl), by decide +kernel⟩, (inALL_at 389 (by decide +kernel) rfl), (inALL_at 390 (by decide +kernel) rfl)⟩
def z_X4_isWord : MZ := (yX4_isWord, cX4_isWord, 2, (some .boolean), [(0, .aload_n 0, 1), (1, .getfield 25, 3), (4, .iconst 1, 1), (5, .if_icmp .ne 19, 3), (8, .aload_n 0, 1), (9, .getfield 31, 3), (12, .aload_n 1, 1), (13, .invokestatic 67, 3), (16, .lcmp, 1), (17, .ifCond .ne 7, 3), (20, .iconst 1, 1), (21, .goto 4, 3), (24, .iconst 0, 1), (25, .ireturn, 1)], ftX4)
set_option maxRecDepth 20000 in
theorem zo_X4_isWord : ZOK z_X4_isWord := ⟨by decide +kernel, ftX4_ok⟩
set_option maxRecDepth 20000 in
theorem k_X4_isWord : LKV z_X4_isWord 1 := ⟨⟨ALL_at 396 (by decide +kernel) rfl, (inALL_at 32 (by decide +kernel) rfl), by decide +kernel⟩, (inALL_at 394 (by decide +kernel) rfl), (inALL_at 395 (by decide +kernel) rfl)⟩
def z_X4_packed : MZ := (yX4_packed, cX4_packed, 4, (some .long), [(0, .lconst 0, 1), (1, .lstore_n 1, 1), (2, .iconst 0, 1), (3, .istore_n 3, 1), (4, .iload_n 3, 1), (5, .aload_n 0, 1), (6, .invokevirtual 44, 3), (9, .if_icmp .ge 29, 3), (12, .iload_n 3, 1), (13, .bipush 8, 2), (15, .if_icmp .ge 23, 3), (18, .lload_n 1, 1), (19, .aload_n 0, 1), (20, .iload_n 3, 1), (21, .invokevirtual 49, 3), (24, .i2l, 1), (25, .bipush 8, 2), (27, .iload_n 3, 1), (28, .imul, 1), (29, .lshl, 1), (30, .lor, 1), (31, .lstore_n 1, 1), (32, .iinc 3 1, 3), (35, .goto (-31), 3), (38, .lload_n 1, 1), (39, .lreturn, 1)], ftX4)
set_option maxRecDepth 20000 in
theorem zo_X4_packed : ZOK z_X4_packed := ⟨by decide +kernel, ftX4_ok⟩
set_option maxRecDepth 20000 in
theorem k_X4_packed : LKS z_X4_packed 1 := ⟨⟨ALL_at 399 (by decide +kernel) rfl, (inALL_at 32 (by decide +kernel) rfl), by decide +kernel⟩, (inALL_at 398 (by decide +kernel) rfl)⟩
def z_X8_readQueue : MZ := (yX8_readQueue, cX8_readQueue, 4, none, [(0, .aload_n 0, 1), (1, .getfield 61, 3), (4, .getfield 112, 3), (7, .getfield 116, 3), (10, .bipush 6, 2), (12, .if_icmp .lt 11, 3), (15, .aload_n 0, 1), (16, .getfield 10, 3), (19, .iconst 4, 1), (20, .invokevirtual 363, 3), (23, .aload_n 0, 1), (24, .getfield 10, 3), (27, .aload_n 0, 1), (28, .getfield 61, 3), (31, .getfield 112, 3), (34, .invokevirtual 369, 3), (37, .lstore_n 1, 1), (38, .aload_n 0, 1), (39, .getfield 10, 3), (42, .iconst 1, 1), (43, .bipush 50, 2), (45, .invokevirtual 373, 3), (48, .istore_n 3, 1), (49, .aload_n 0, 1), (50, .getfield 10, 3), (53, .invokevirtual 376, 3), (56, .aload_n 0, 1), (57, .getfield 10, 3), (60, .invokevirtual 366, 3), (63, .ifCond .eq 12, 3), (66, .aload_n 0, 1), (67, .getfield 61, 3), (70, .lload_n 1, 1), (71, .iload_n 3, 1), (72, .invokevirtual 379, 3), (75, .return_, 1)], ftX8)
set_option maxRecDepth 20000 in
theorem zo_X8_readQueue : ZOK z_X8_readQueue := ⟨by decide +kernel, ftX8_ok⟩
set_option maxRecDepth 20000 in
theorem k_X8_readQueue : LKV z_X8_readQueue 0 := ⟨⟨ALL_at 403 (by decide +kernel) rfl, (inALL_at 31 (by decide +kernel) rfl), by decide +kernel⟩, (inALL_at 402 (by decide +kernel) rfl), (inALL_at 6 (by decide +kernel) rfl)⟩
def z_X4_newName : MZ := (yX4_newName, cX4_newName, 2, (some .long), [(0, .aload_n 0, 1), (1, .invokevirtual 57, 3), (4, .aload_n 0, 1), (5, .iconst 1, 1), (6, .bipush 6, 2), (8, .invokevirtual 71, 3), (11, .ifCond .eq 20, 3), (14, .aload_n 1, 1), (15, .aload_n 0, 1), (16, .getfield 31, 3), (19, .invokevirtual 75, 3), (22, .iconst (-1), 1), (23, .if_icmp .eq 8, 3), (26, .aload_n 0, 1), (27, .iconst 3, 1), (28, .invokevirtual 60, 3), (31, .aload_n 0, 1), (32, .getfield 31, 3), (35, .lreturn, 1)], ftX4)
set_option maxRecDepth 20000 in
theorem zo_X4_newName : ZOK z_X4_newName := ⟨by decide +kernel, ftX4_ok⟩
set_option maxRecDepth 20000 in
theorem k_X4_newName : LKV z_X4_newName 1 := ⟨⟨ALL_at 408 (by decide +kernel) rfl, (inALL_at 32 (by decide +kernel) rfl), by decide +kernel⟩, (inALL_at 406 (by decide +kernel) rfl), (inALL_at 407 (by decide +kernel) rfl)⟩
def z_X4_accepts : MZ := (yX4_accepts, cX4_accepts, 3, (some .boolean), [(0, .aload_n 0, 1), (1, .getfield 25, 3), (4, .iload_n 1, 1), (5, .if_icmp .ne 16, 3), (8, .aload_n 0, 1), (9, .getfield 22, 3), (12, .aload_n 0, 1), (13, .getfield 28, 3), (16, .isub, 1), (17, .iload_n 2, 1), (18, .if_icmp .le 8, 3), (21, .aload_n 0, 1), (22, .iconst 1, 1), (23, .invokevirtual 60, 3), (26, .aload_n 0, 1), (27, .invokevirtual 63, 3), (30, .ireturn, 1)], ftX4)
set_option maxRecDepth 20000 in
theorem zo_X4_accepts : ZOK z_X4_accepts := ⟨by decide +kernel, ftX4_ok⟩
set_option maxRecDepth 20000 in
theorem k_X4_accepts : LKV z_X4_accepts 2 := ⟨⟨ALL_at 412 (by decide +kernel) rfl, (inALL_at 32 (by decide +kernel) rfl), by decide +kernel⟩, (inALL_at 411 (by decide +kernel) rfl), (inALL_at 7 (by decide +kernel) rfl)⟩
def z_X2_find : MZ := (yX2_find, cX2_find, 4, (some .int), [(0, .iconst 0, 1), (1, .istore_n 3, 1), (2, .iload_n 3, 1), (3, .aload_n 0, 1), (4, .getfield 15, 3), (7, .if_icmp .ge 28, 3), (10, .iload_n 3, 1), (11, .bipush 8, 2), (13, .if_icmp .ge 22, 3), (16, .aload_n 0, 1), (17, .getfield 9, 3), (20, .iload_n 3, 1), (21, .laload, 1), (22, .lload_n 1, 1), (23, .lcmp, 1), (24, .ifCond .ne 5, 3), (27, .iload_n 3, 1), (28, .ireturn, 1), (29, .iinc 3 1, 3), (32, .goto (-30), 3), (35, .iconst (-1), 1), (36, .ireturn, 1)], ftX2)
set_option maxRecDepth 20000 in
theorem zo_X2_find : ZOK z_X2_find := ⟨by decide +kernel, ftX2_ok⟩
set_option maxRecDepth 20000 in
theorem k_X2_find : LKV z_X2_find 1 := ⟨⟨ALL_at 416 (by decide +kernel) rfl, (inALL_at 39 (by decide +kernel) rfl), by decide +kernel⟩, (inALL_at 414 (by decide +kernel) rfl), (inALL_at 415 (by decide +kernel) rfl)⟩
def z_X4_number : MZ := (yX4_number, cX4_number, 3, (some .int), [(0, .aload_n 0, 1), (1, .invokevirtual 57, 3), (4, .aload_n 0, 1), (5, .iconst 2, 1), (6, .iconst 3, 1), (7, .invokevirtual 71, 3), (10, .ifCond .ne 5, 3), (13, .iconst (-1), 1), (14, .ireturn, 1), (15, .aload_n 0, 1), (16, .getfield 35, 3), (19, .iload_n 1, 1), (20, .if_icmp .lt 11, 3), (23, .aload_n 0, 1), (24, .getfield 35, 3), (27, .iload_n 2, 1), (28, .if_icmp .le 10, 3), (31, .aload_n 0, 1), (32, .iconst 2, 1), (33, .invokevirtual 60, 3), (36, .iconst (-1), 1), (37, .ireturn, 1), (38, .aload_n 0, 1), (39, .getfield 35, 3), (42, .ireturn, 1)], ftX4)
set_option maxRecDepth 20000 in
theorem zo_X4_number : ZOK z_X4_number := ⟨by decide +kernel, ftX4_ok⟩
set_option maxRecDepth 20000 in
theorem k_X4_number : LKV z_X4_number 2 := ⟨⟨ALL_at 420 (by decide +kernel) rfl, (inALL_at 32 (by decide +kernel) rfl), by decide +kernel⟩, (inALL_at 418 (by decide +kernel) rfl), (inALL_at 419 (by decide +kernel) rfl)⟩
def z_X4_semicolon : MZ := (yX4_semicolon, cX4_semicolon, 1, none, [(0, .aload_n 0, 1), (1, .invokevirtual 57, 3), (4, .aload_n 0, 1), (5, .iconst 3, 1), (6, .iconst 1, 1), (7, .invokevirtual 71, 3), (10, .pop, 1), (11, .return_, 1)], ftX4)
set_option maxRecDepth 20000 in
theorem zo_X4_semicolon : ZOK z_X4_semicolon := ⟨by decide +kernel, ftX4_ok⟩
set_option maxRecDepth 20000 in
theorem k_X4_semicolon : LKV z_X4_semicolon 0 := ⟨⟨ALL_at 424 (by decide +kernel) rfl, (inALL_at 32 (by decide +kernel) rfl), by decide +kernel⟩, (inALL_at 422 (by decide +kernel) rfl), (inALL_at 423 (by decide +kernel) rfl)⟩
def z_X6_addQueue : MZ := (yX6_addQueue, cX6_addQueue, 5, none, [(0, .aload_n 0, 1), (1, .getfield 12, 3), (4, .getfield 25, 3), (7, .istore 4, 2), (9, .iload 4, 2), (11, .ifCond .lt 26, 3), (14, .iload 4, 2), (16, .bipush 6, 2), (18, .if_icmp .ge 19, 3), (21, .aload_n 0, 1), (22, .getfield 21, 3), (25, .iload 4, 2), (27, .iload_n 3, 1), (28, .iastore, 1), (29, .aload_n 0, 1), (30, .getfield 12, 3), (33, .lload_n 1, 1), (34, .invokevirtual 29, 3), (37, .return_, 1)], ftX6)
set_option maxRecDepth 20000 in
theorem zo_X6_addQueue : ZOK z_X6_addQueue := ⟨by decide +kernel, ftX6_ok⟩
set_option maxRecDepth 20000 in
theorem k_X6_addQueue : LKV z_X6_addQueue 2 := ⟨⟨ALL_at 429 (by decide +kernel) rfl, (inALL_at 38 (by decide +kernel) rfl), by decide +kernel⟩, (inALL_at 427 (by decide +kernel) rfl), (inALL_at 428 (by decide +kernel) rfl)⟩
def z_X2_add : MZ := (yX2_add, cX2_add, 3, none, [(0, .aload_n 0, 1), (1, .getfield 15, 3), (4, .ifCond .lt 32, 3), (7, .aload_n 0, 1), (8, .getfield 15, 3), (11, .bipush 8, 2), (13, .if_icmp .ge 23, 3), (16, .aload_n 0, 1), (17, .getfield 9, 3), (20, .aload_n 0, 1), (21, .getfield 15, 3), (24, .lload_n 1, 1), (25, .lastore, 1), (26, .aload_n 0, 1), (27, .dup, 1), (28, .getfield 15, 3), (31, .iconst 1, 1), (32, .iadd, 1), (33, .putfield 15, 3), (36, .return_, 1)], ftX2)
set_option maxRecDepth 20000 in
theorem zo_X2_add : ZOK z_X2_add := ⟨by decide +kernel, ftX2_ok⟩
set_option maxRecDepth 20000 in
theorem k_X2_add : LKV z_X2_add 1 := ⟨⟨ALL_at 433 (by decide +kernel) rfl, (inALL_at 39 (by decide +kernel) rfl), by decide +kernel⟩, (inALL_at 431 (by decide +kernel) rfl), (inALL_at 432 (by decide +kernel) rfl)⟩
def z_X8_readOwner : MZ := (yX8_readOwner, cX8_readOwner, 3, none, [(0, .aload_n 0, 1), (1, .getfield 61, 3), (4, .getfield 119, 3), (7, .getfield 116, 3), (10, .bipush 8, 2), (12, .if_icmp .lt 11, 3), (15, .aload_n 0, 1), (16, .getfield 10, 3), (19, .iconst 4, 1), (20, .invokevirtual 363, 3), (23, .aload_n 0, 1), (24, .getfield 10, 3), (27, .aload_n 0, 1), (28, .getfield 61, 3), (31, .getfield 119, 3), (34, .invokevirtual 369, 3), (37, .lstore_n 1, 1), (38, .aload_n 0, 1), (39, .getfield 10, 3), (42, .invokevirtual 376, 3), (45, .aload_n 0, 1), (46, .getfield 10, 3), (49, .invokevirtual 366, 3), (52, .ifCond .eq 14, 3), (55, .aload_n 0, 1), (56, .getfield 61, 3), (59, .getfield 119, 3), (62, .lload_n 1, 1), (63, .invokevirtual 383, 3), (66, .return_, 1)], ftX8)
set_option maxRecDepth 20000 in
theorem zo_X8_readOwner : ZOK z_X8_readOwner := ⟨by decide +kernel, ftX8_ok⟩
set_option maxRecDepth 20000 in
theorem k_X8_readOwner : LKV z_X8_readOwner 0 := ⟨⟨ALL_at 438 (by decide +kernel) rfl, (inALL_at 31 (by decide +kernel) rfl), by decide +kernel⟩, (inALL_at 437 (by decide +kernel) rfl), (inALL_at 8 (by decide +kernel) rfl)⟩
def z_X8_readJob : MZ := (yX8_readJob, cX8_readJob, 5, none, [(0, .aload_n 0, 1), (1, .getfield 44, 3), (4, .invokevirtual 264, 3), (7, .ifCond .eq 11, 3), (10, .aload_n 0, 1), (11, .getfield 10, 3), (14, .iconst 4, 1), (15, .invokevirtual 363, 3), (18, .aload_n 0, 1), (19, .getfield 10, 3), (22, .aload_n 0, 1), (23, .getfield 61, 3), (26, .getfield 112, 3), (29, .invokevirtual 387, 3), (32, .istore_n 1, 1), (33, .aload_n 0, 1), (34, .getfield 10, 3), (37, .aload_n 0, 1), (38, .getfield 61, 3), (41, .getfield 119, 3), (44, .invokevirtual 387, 3), (47, .istore_n 2, 1), (48, .aload_n 0, 1), (49, .getfield 10, 3), (52, .iconst 0, 1), (53, .bipush 99, 2), (55, .invokevirtual 373, 3), (58, .istore_n 3, 1), (59, .aload_n 0, 1), (60, .getfield 10, 3), (63, .iconst 1, 1), (64, .bipush 99, 2), (66, .invokevirtual 373, 3), (69, .istore 4, 2), (71, .aload_n 0, 1), (72, .getfield 10, 3), (75, .invokevirtual 376, 3), (78, .aload_n 0, 1), (79, .getfield 10, 3), (82, .invokevirtual 366, 3), (85, .ifCond .eq 16, 3), (88, .aload_n 0, 1), (89, .getfield 44, 3), (92, .iload_n 1, 1), (93, .iload_n 2, 1), (94, .iload_n 3, 1), (95, .iload 4, 2), (97, .invokevirtual 272, 3), (100, .pop, 1), (101, .return_, 1)], ftX8)
set_option maxRecDepth 20000 in
theorem zo_X8_readJob : ZOK z_X8_readJob := ⟨by decide +kernel, ftX8_ok⟩
set_option maxRecDepth 20000 in
theorem k_X8_readJob : LKV z_X8_readJob 0 := ⟨⟨ALL_at 444 (by decide +kernel) rfl, (inALL_at 31 (by decide +kernel) rfl), by decide +kernel⟩, (inALL_at 443 (by decide +kernel) rfl), (inALL_at 9 (by decide +kernel) rfl)⟩
def z_X7_isFull : MZ := (yX7_isFull, cX7_isFull, 1, (some .boolean), [(0, .aload_n 0, 1), (1, .getfield 18, 3), (4, .bipush 40, 2), (6, .if_icmp .lt 7, 3), (9, .iconst 1, 1), (10, .goto 4, 3), (13, .iconst 0, 1), (14, .ireturn, 1)], ftX7)
set_option maxRecDepth 20000 in
theorem zo_X7_isFull : ZOK z_X7_isFull := ⟨by decide +kernel, ftX7_ok⟩
set_option maxRecDepth 20000 in
theorem k_X7_isFull : LKV z_X7_isFull 0 := ⟨⟨ALL_at 448 (by decide +kernel) rfl, (inALL_at 36 (by decide +kernel) rfl), by decide +kernel⟩, (inALL_at 446 (by decide +kernel) rfl), (inALL_at 447 (by decide +kernel) rfl)⟩
def z_X4_knownName : MZ := (yX4_knownName, cX4_knownName, 3, (some .int), [(0, .aload_n 0, 1), (1, .invokevirtual 57, 3), (4, .aload_n 0, 1), (5, .iconst 1, 1), (6, .bipush 6, 2), (8, .invokevirtual 71, 3), (11, .ifCond .ne 5, 3), (14, .iconst (-1), 1), (15, .ireturn, 1), (16, .aload_n 1, 1), (17, .aload_n 0, 1), (18, .getfield 31, 3), (21, .invokevirtual 75, 3), (24, .istore_n 2, 1), (25, .iload_n 2, 1), (26, .iconst (-1), 1), (27, .if_icmp .ne 8, 3), (30, .aload_n 0, 1), (31, .iconst 3, 1), (32, .invokevirtual 60, 3), (35, .iload_n 2, 1), (36, .ireturn, 1)], ftX4)
set_option maxRecDepth 20000 in
theorem zo_X4_knownName : ZOK z_X4_knownName := ⟨by decide +kernel, ftX4_ok⟩
set_option maxRecDepth 20000 in
theorem k_X4_knownName : LKV z_X4_knownName 1 := ⟨⟨ALL_at 452 (by decide +kernel) rfl, (inALL_at 32 (by decide +kernel) rfl), by decide +kernel⟩, (inALL_at 450 (by decide +kernel) rfl), (inALL_at 451 (by decide +kernel) rfl)⟩
def z_X7_addJob : MZ := (yX7_addJob, cX7_addJob, 6, (some .int), [(0, .aload_n 0, 1), (1, .invokevirtual 63, 3), (4, .ifCond .ne 17, 3), (7, .aload_n 0, 1), (8, .getfield 18, 3), (11, .ifCond .lt 10, 3), (14, .iload_n 1, 1), (15, .invokestatic 56, 3), (18, .ifCond .ne 5, 3), (21, .iconst (-1), 1), (22, .ireturn, 1), (23, .aload_n 0, 1), (24, .getfield 18, 3), (27, .istore 5, 2), (29, .aload_n 0, 1), (30, .dup, 1), (31, .getfield 18, 3), (34, .iconst 1, 1), (35, .iadd, 1), (36, .putfield 18, 3), (39, .aload_n 0, 1), (40, .getfield 22, 3), (43, .iload 5, 2), (45, .iload_n 2, 1), (46, .iastore, 1), (47, .aload_n 0, 1), (48, .getfield 26, 3), (51, .iload 5, 2), (53, .iload 4, 2), (55, .iastore, 1), (56, .aload_n 0, 1), (57, .getfield 29, 3), (60, .iload 5, 2), (62, .iconst 0, 1), (63, .iastore, 1), (64, .aload_n 0, 1), (65, .getfield 32, 3), (68, .iload 5, 2), (70, .iload_n 1, 1), (71, .iastore, 1), (72, .aload_n 0, 1), (73, .getfield 12, 3), (76, .iload 5, 2), (78, .iload_n 3, 1), (79, .invokevirtual 67, 3), (82, .aload_n 0, 1), (83, .getfield 35, 3), (86, .iload_n 1, 1), (87, .aload_n 0, 1), (88, .getfield 12, 3), (91, .aload_n 0, 1), (92, .getfield 35, 3), (95, .iload_n 1, 1), (96, .iaload, 1), (97, .iload 5, 2), (99, .invokevirtual 71, 3), (102, .iastore, 1), (103, .iload 5, 2), (105, .ireturn, 1)], ftX7)
set_option maxRecDepth 20000 in
theorem zo_X7_addJob : ZOK z_X7_addJob := ⟨by decide +kernel, ftX7_ok⟩
set_option maxRecDepth 20000 in
theorem k_X7_addJob : LKV z_X7_addJob 4 := ⟨⟨ALL_at 456 (by decide +kernel) rfl, (inALL_at 36 (by decide +kernel) rfl), by decide +kernel⟩, (inALL_at 454 (by decide +kernel) rfl), (inALL_at 455 (by decide +kernel) rfl)⟩
def z_X7_isQueue : MZ := (yX7_isQueue, cX7_isQueue, 1, (some .boolean), [(0, .iload_n 0, 1), (1, .ifCond .lt 13, 3), (4, .iload_n 0, 1), (5, .bipush 6, 2), (7, .if_icmp .ge 7, 3), (10, .iconst 1, 1), (11, .goto 4, 3), (14, .iconst 0, 1), (15, .ireturn, 1)], ftX7)
set_option maxRecDepth 20000 in
theorem zo_X7_isQueue : ZOK z_X7_isQueue := ⟨by decide +kernel, ftX7_ok⟩
set_option maxRecDepth 20000 in
theorem k_X7_isQueue : LKS z_X7_isQueue 1 := ⟨⟨ALL_at 460 (by decide +kernel) rfl, (inALL_at 36 (by decide +kernel) rfl), by decide +kernel⟩, (inALL_at 459 (by decide +kernel) rfl)⟩
def z_X0_plant : MZ := (yX0_plant, cX0_plant, 3, none, [(0, .iload_n 1, 1), (1, .invokestatic 41, 3), (4, .ifCond .eq 22, 3), (7, .aload_n 0, 1), (8, .getfield 9, 3), (11, .iload_n 1, 1), (12, .iload_n 2, 1), (13, .iastore, 1), (14, .aload_n 0, 1), (15, .iload_n 1, 1), (16, .invokevirtual 49, 3), (19, .aload_n 0, 1), (20, .getfield 24, 3), (23, .iload_n 1, 1), (24, .iconst 1, 1), (25, .iastore, 1), (26, .return_, 1)], ftX0)
set_option maxRecDepth 20000 in
theorem zo_X0_plant : ZOK z_X0_plant := ⟨by decide +kernel, ftX0_ok⟩
set_option maxRecDepth 20000 in
theorem k_X0_plant : LKV z_X0_plant 2 := ⟨⟨ALL_at 464 (by decide +kernel) rfl, (inALL_at 37 (by decide +kernel) rfl), by decide +kernel⟩, (inALL_at 462 (by decide +kernel) rfl), (inALL_at 463 (by decide +kernel) rfl)⟩
def z_X0_isNode : MZ := (yX0_isNode, cX0_isNode, 1, (some .boolean), [(0, .iload_n 0, 1), (1, .ifCond .lt 13, 3), (4, .iload_n 0, 1), (5, .bipush 40, 2), (7, .if_icmp .ge 7, 3), (10, .iconst 1, 1), (11, .goto 4, 3), (14, .iconst 0, 1), (15, .ireturn, 1)], ftX0)
set_option maxRecDepth 20000 in
theorem zo_X0_isNode : ZOK z_X0_isNode := ⟨by decide +kernel, ftX0_ok⟩
set_option maxRecDepth 20000 in
theorem k_X0_isNode : LKS z_X0_isNode 1 := ⟨⟨ALL_at 467 (by decide +kernel) rfl, (inALL_at 37 (by decide +kernel) rfl), by decide +kernel⟩, (inALL_at 466 (by decide +kernel) rfl)⟩
def z_X0_unlink : MZ := (yX0_unlink, cX0_unlink, 2, none, [(0, .aload_n 0, 1), (1, .getfield 15, 3), (4, .iload_n 1, 1), (5, .iconst (-1), 1), (6, .iastore, 1), (7, .aload_n 0, 1), (8, .getfield 18, 3), (11, .iload_n 1, 1), (12, .iconst (-1), 1), (13, .iastore, 1), (14, .aload_n 0, 1), (15, .getfield 21, 3), (18, .iload_n 1, 1), (19, .iconst (-1), 1), (20, .iastore, 1), (21, .aload_n 0, 1), (22, .getfield 24, 3), (25, .iload_n 1, 1), (26, .iconst 0, 1), (27, .iastore, 1), (28, .return_, 1)], ftX0)
set_option maxRecDepth 20000 in
theorem zo_X0_unlink : ZOK z_X0_unlink := ⟨by decide +kernel, ftX0_ok⟩
set_option maxRecDepth 20000 in
theorem k_X0_unlink : LKV z_X0_unlink 1 := ⟨⟨ALL_at 471 (by decide +kernel) rfl, (inALL_at 37 (by decide +kernel) rfl), by decide +kernel⟩, (inALL_at 470 (by decide +kernel) rfl), (inALL_at 10 (by decide +kernel) rfl)⟩
def z_X0_merge : MZ := (yX0_merge, cX0_merge, 9, (some .int), [(0, .iload_n 1, 1), (1, .istore_n 3, 1), (2, .iload_n 2, 1), (3, .istore 4, 2), (5, .iconst 0, 1), (6, .istore 5, 2), (8, .iload 5, 2), (10, .bipush 40, 2), (12, .if_icmp .ge 80, 3), (15, .iload_n 3, 1), (16, .invokestatic 41, 3), (19, .ifCond .eq 73, 3), (22, .iload 4, 2), (24, .invokestatic 41, 3), (27, .ifCond .eq 65, 3), (30, .aload_n 0, 1), (31, .dup, 1), (32, .getfield 27, 3), (35, .iconst 1, 1), (36, .iadd, 1), (37, .putfield 27, 3), (40, .aload_n 0, 1), (41, .iload_n 3, 1), (42, .iload 4, 2), (44, .invokevirtual 53, 3), (47, .ifCond .eq 21, 3), (50, .aload_n 0, 1), (51, .getfield 34, 3), (54, .iload 5, 2), (56, .iload_n 3, 1), (57, .iastore, 1), (58, .aload_n 0, 1), (59, .getfield 18, 3), (62, .iload_n 3, 1), (63, .iaload, 1), (64, .istore_n 3, 1), (65, .goto 21, 3), (68, .aload_n 0, 1), (69, .getfield 34, 3), (72, .iload 5, 2), (74, .iload 4, 2), (76, .iastore, 1), (77, .aload_n 0, 1), (78, .getfield 18, 3), (81, .iload 4, 2), (83, .iaload, 1), (84, .istore 4, 2), (86, .iinc 5 1, 3), (89, .goto (-81), 3), (92, .iload_n 3, 1), (93, .invokestatic 41, 3), (96, .ifCond .eq 7, 3), (99, .iload_n 3, 1), (100, .goto 5, 3), (103, .iload 4, 2), (105, .istore 6, 2), (107, .iload 5, 2), (109, .iconst 1, 1), (110, .isub, 1), (111, .istore 7, 2), (113, .iload 7, 2), (115, .ifCond .lt 45, 3), (118, .aload_n 0, 1), (119, .getfield 34, 3), (122, .iload 7, 2), (124, .iaload, 1), (125, .istore 8, 2), (127, .aload_n 0, 1), (128, .getfield 18, 3), (131, .iload 8, 2), (133, .iload 6, 2), (135, .iastore, 1), (136, .aload_n 0, 1), (137, .iload 6, 2), (139, .iload 8, 2), (141, .invokevirtual 57, 3), (144, .aload_n 0, 1), (145, .iload 8, 2), (147, .invokevirtual 61, 3), (150, .iload 8, 2), (152, .istore 6, 2), (154, .iinc 7 (-1), 3), (157, .goto (-44), 3), (160, .aload_n 0, 1), (161, .iload 6, 2), (163, .iconst (-1), 1), (164, .invokevirtual 57, 3), (167, .iload 6, 2), (169, .ireturn, 1)], ftX0)
set_option maxRecDepth 20000 in
theorem zo_X0_merge : ZOK z_X0_merge := ⟨by decide +kernel, ftX0_ok⟩
set_option maxRecDepth 20000 in
theorem k_X0_merge : LKV z_X0_merge 2 := ⟨⟨ALL_at 475 (by decide +kernel) rfl, (inALL_at 37 (by decide +kernel) rfl), by decide +kernel⟩, (inALL_at 473 (by decide +kernel) rfl), (inALL_at 474 (by decide +kernel) rfl)⟩
def z_X0_precedes : MZ := (yX0_precedes, cX0_precedes, 3, (some .boolean), [(0, .iload_n 1, 1), (1, .invokestatic 41, 3), (4, .ifCond .eq 10, 3), (7, .iload_n 2, 1), (8, .invokestatic 41, 3), (11, .ifCond .ne 5, 3), (14, .iconst 0, 1), (15, .ireturn, 1), (16, .aload_n 0, 1), (17, .iload_n 1, 1), (18, .iload_n 2, 1), (19, .aload_n 0, 1), (20, .getfield 9, 3), (23, .iload_n 2, 1), (24, .iaload, 1), (25, .invokevirtual 45, 3), (28, .ireturn, 1)], ftX0)
set_option maxRecDepth 20000 in
theorem zo_X0_precedes : ZOK z_X0_precedes := ⟨by decide +kernel, ftX0_ok⟩
set_option maxRecDepth 20000 in
theorem k_X0_precedes : LKV z_X0_precedes 2 := ⟨⟨ALL_at 479 (by decide +kernel) rfl, (inALL_at 37 (by decide +kernel) rfl), by decide +kernel⟩, (inALL_at 477 (by decide +kernel) rfl), (inALL_at 478 (by decide +kernel) rfl)⟩
def z_X0_comesBefore : MZ := (yX0_comesBefore, cX0_comesBefore, 4, (some .boolean), [(0, .aload_n 0, 1), (1, .getfield 9, 3), (4, .iload_n 1, 1), (5, .iaload, 1), (6, .iload_n 3, 1), (7, .if_icmp .lt 18, 3), (10, .aload_n 0, 1), (11, .getfield 9, 3), (14, .iload_n 1, 1), (15, .iaload, 1), (16, .iload_n 3, 1), (17, .if_icmp .ne 12, 3), (20, .iload_n 1, 1), (21, .iload_n 2, 1), (22, .if_icmp .ge 7, 3), (25, .iconst 1, 1), (26, .goto 4, 3), (29, .iconst 0, 1), (30, .ireturn, 1)], ftX0)
set_option maxRecDepth 20000 in
theorem zo_X0_comesBefore : ZOK z_X0_comesBefore := ⟨by decide +kernel, ftX0_ok⟩
set_option maxRecDepth 20000 in
theorem k_X0_comesBefore : LKV z_X0_comesBefore 3 := ⟨⟨ALL_at 483 (by decide +kernel) rfl, (inALL_at 37 (by decide +kernel) rfl), by decide +kernel⟩, (inALL_at 481 (by decide +kernel) rfl), (inALL_at 482 (by decide +kernel) rfl)⟩
def z_X0_setAbove : MZ := (yX0_setAbove, cX0_setAbove, 3, none, [(0, .iload_n 1, 1), (1, .invokestatic 41, 3), (4, .ifCond .eq 10, 3), (7, .aload_n 0, 1), (8, .getfield 21, 3), (11, .iload_n 1, 1), (12, .iload_n 2, 1), (13, .iastore, 1), (14, .return_, 1)], ftX0)
set_option maxRecDepth 20000 in
theorem zo_X0_setAbove : ZOK z_X0_setAbove := ⟨by decide +kernel, ftX0_ok⟩
set_option maxRecDepth 20000 in
theorem k_X0_setAbove : LKV z_X0_setAbove 2 := ⟨⟨ALL_at 487 (by decide +kernel) rfl, (inALL_at 37 (by decide +kernel) rfl), by decide +kernel⟩, (inALL_at 486 (by decide +kernel) rfl), (inALL_at 11 (by decide +kernel) rfl)⟩
def z_X0_settle : MZ := (yX0_settle, cX0_settle, 3, none, [(0, .aload_n 0, 1), (1, .aload_n 0, 1), (2, .getfield 15, 3), (5, .iload_n 1, 1), (6, .iaload, 1), (7, .invokevirtual 64, 3), (10, .aload_n 0, 1), (11, .aload_n 0, 1), (12, .getfield 18, 3), (15, .iload_n 1, 1), (16, .iaload, 1), (17, .invokevirtual 64, 3), (20, .if_icmp .ge 39, 3), (23, .aload_n 0, 1), (24, .getfield 15, 3), (27, .iload_n 1, 1), (28, .iaload, 1), (29, .istore_n 2, 1), (30, .aload_n 0, 1), (31, .getfield 15, 3), (34, .iload_n 1, 1), (35, .aload_n 0, 1), (36, .getfield 18, 3), (39, .iload_n 1, 1), (40, .iaload, 1), (41, .iastore, 1), (42, .aload_n 0, 1), (43, .getfield 18, 3), (46, .iload_n 1, 1), (47, .iload_n 2, 1), (48, .iastore, 1), (49, .aload_n 0, 1), (50, .dup, 1), (51, .getfield 31, 3), (54, .iconst 1, 1), (55, .iadd, 1), (56, .putfield 31, 3), (59, .aload_n 0, 1), (60, .getfield 24, 3), (63, .iload_n 1, 1), (64, .iconst 1, 1), (65, .aload_n 0, 1), (66, .aload_n 0, 1), (67, .getfield 18, 3), (70, .iload_n 1, 1), (71, .iaload, 1), (72, .invokevirtual 64, 3), (75, .iadd, 1), (76, .iastore, 1), (77, .return_, 1)], ftX0)
set_option maxRecDepth 20000 in
theorem zo_X0_settle : ZOK z_X0_settle := ⟨by decide +kernel, ftX0_ok⟩
set_option maxRecDepth 20000 in
theorem k_X0_settle : LKV z_X0_settle 1 := ⟨⟨ALL_at 491 (by decide +kernel) rfl, (inALL_at 37 (by decide +kernel) rfl), by decide +kernel⟩, (inALL_at 490 (by decide +kernel) rfl), (inALL_at 12 (by decide +kernel) rfl)⟩
def z_X0_rankOf : MZ := (yX0_rankOf, cX0_rankOf, 2, (some .int), [(0, .iload_n 1, 1), (1, .ifCond .lt 18, 3), (4, .iload_n 1, 1), (5, .bipush 40, 2), (7, .if_icmp .ge 12, 3), (10, .aload_n 0, 1), (11, .getfield 24, 3), (14, .iload_n 1, 1), (15, .iaload, 1), (16, .goto 4, 3), (19, .iconst 0, 1), (20, .ireturn, 1)], ftX0)
set_option maxRecDepth 20000 in
theorem zo_X0_rankOf : ZOK z_X0_rankOf := ⟨by decide +kernel, ftX0_ok⟩
set_option maxRecDepth 20000 in
theorem k_X0_rankOf : LKV z_X0_rankOf 1 := ⟨⟨ALL_at 495 (by decide +kernel) rfl, (inALL_at 37 (by decide +kernel) rfl), by decide +kernel⟩, (inALL_at 493 (by decide +kernel) rfl), (inALL_at 494 (by decide +kernel) rfl)⟩
def z_X8_adoptDraft : MZ := (yX8_adoptDraft, cX8_adoptDraft, 2, none, [(0, .aload_n 0, 1), (1, .getfield 57, 3), (4, .astore_n 1, 1), (5, .aload_n 0, 1), (6, .aload_n 0, 1), (7, .getfield 61, 3), (10, .putfield 57, 3), (13, .aload_n 0, 1), (14, .aload_n 1, 1), (15, .putfield 61, 3), (18, .aload_n 0, 1), (19, .getfield 40, 3), (22, .aload_n 0, 1), (23, .getfield 44, 3), (26, .invokevirtual 251, 3), (29, .aload_n 0, 1), (30, .getfield 40, 3), (33, .getfield 142, 3), (36, .invokevirtual 391, 3), (39, .aload_n 0, 1), (40, .getfield 33, 3), (43, .invokevirtual 317, 3), (46, .aload_n 0, 1), (47, .iconst 0, 1), (48, .putfield 50, 3), (51, .return_, 1)], ftX8)
set_option maxRecDepth 20000 in
theorem zo_X8_adoptDraft : ZOK z_X8_adoptDraft := ⟨by decide +kernel, ftX8_ok⟩
set_option maxRecDepth 20000 in
theorem k_X8_adoptDraft : LKV z_X8_adoptDraft 0 := ⟨⟨ALL_at 499 (by decide +kernel) rfl, (inALL_at 31 (by decide +kernel) rfl), by decide +kernel⟩, (inALL_at 498 (by decide +kernel) rfl), (inALL_at 13 (by decide +kernel) rfl)⟩
def z_X7_copyFrom : MZ := (yX7_copyFrom, cX7_copyFrom, 3, none, [(0, .aload_n 0, 1), (1, .getfield 12, 3), (4, .aload_n 1, 1), (5, .getfield 12, 3), (8, .invokevirtual 48, 3), (11, .aload_n 0, 1), (12, .aload_n 1, 1), (13, .getfield 18, 3), (16, .putfield 18, 3), (19, .aload_n 1, 1), (20, .getfield 22, 3), (23, .aload_n 0, 1), (24, .getfield 22, 3), (27, .invokestatic 52, 3), (30, .aload_n 1, 1), (31, .getfield 26, 3), (34, .aload_n 0, 1), (35, .getfield 26, 3), (38, .invokestatic 52, 3), (41, .aload_n 1, 1), (42, .getfield 29, 3), (45, .aload_n 0, 1), (46, .getfield 29, 3), (49, .invokestatic 52, 3), (52, .aload_n 1, 1), (53, .getfield 32, 3), (56, .aload_n 0, 1), (57, .getfield 32, 3), (60, .invokestatic 52, 3), (63, .aload_n 1, 1), (64, .getfield 35, 3), (67, .aload_n 0, 1), (68, .getfield 35, 3), (71, .invokestatic 52, 3), (74, .aload_n 1, 1), (75, .getfield 38, 3), (78, .aload_n 0, 1), (79, .getfield 38, 3), (82, .invokestatic 52, 3), (85, .iconst 0, 1), (86, .istore_n 2, 1), (87, .iload_n 2, 1), (88, .bipush 6, 2), (90, .if_icmp .ge 21, 3), (93, .aload_n 0, 1), (94, .getfield 41, 3), (97, .iload_n 2, 1), (98, .aload_n 1, 1), (99, .getfield 41, 3), (102, .iload_n 2, 1), (103, .baload, 1), (104, .bastore, 1), (105, .iinc 2 1, 3), (108, .goto (-21), 3), (111, .return_, 1)], ftX7)
set_option maxRecDepth 20000 in
theorem zo_X7_copyFrom : ZOK z_X7_copyFrom := ⟨by decide +kernel, ftX7_ok⟩
set_option maxRecDepth 20000 in
theorem k_X7_copyFrom : LKV z_X7_copyFrom 1 := ⟨⟨ALL_at 503 (by decide +kernel) rfl, (inALL_at 36 (by decide +kernel) rfl), by decide +kernel⟩, (inALL_at 501 (by decide +kernel) rfl), (inALL_at 502 (by decide +kernel) rfl)⟩
def z_X0_copyFrom : MZ := (yX0_copyFrom, cX0_copyFrom, 2, none, [(0, .aload_n 1, 1), (1, .getfield 9, 3), (4, .aload_n 0, 1), (5, .getfield 9, 3), (8, .invokestatic 37, 3), (11, .aload_n 1, 1), (12, .getfield 15, 3), (15, .aload_n 0, 1), (16, .getfield 15, 3), (19, .invokestatic 37, 3), (22, .aload_n 1, 1), (23, .getfield 18, 3), (26, .aload_n 0, 1), (27, .getfield 18, 3), (30, .invokestatic 37, 3), (33, .aload_n 1, 1), (34, .getfield 21, 3), (37, .aload_n 0, 1), (38, .getfield 21, 3), (41, .invokestatic 37, 3), (44, .aload_n 1, 1), (45, .getfield 24, 3), (48, .aload_n 0, 1), (49, .getfield 24, 3), (52, .invokestatic 37, 3), (55, .aload_n 0, 1), (56, .aload_n 1, 1), (57, .getfield 27, 3), (60, .putfield 27, 3), (63, .aload_n 0, 1), (64, .aload_n 1, 1), (65, .getfield 31, 3), (68, .putfield 31, 3), (71, .return_, 1)], ftX0)
set_option maxRecDepth 20000 in
theorem zo_X0_copyFrom : ZOK z_X0_copyFrom := ⟨by decide +kernel, ftX0_ok⟩
set_option maxRecDepth 20000 in
theorem k_X0_copyFrom : LKV z_X0_copyFrom 1 := ⟨⟨ALL_at 507 (by decide +kernel) rfl, (inALL_at 37 (by decide +kernel) rfl), by decide +kernel⟩, (inALL_at 505 (by decide +kernel) rfl), (inALL_at 506 (by decide +kernel) rfl)⟩
def z_X8_copyRow : MZ := (yX8_copyRow, cX8_copyRow, 2, none, [(0, .aload_n 0, 1), (1, .iconst 0, 1), (2, .aload_n 1, 1), (3, .iconst 0, 1), (4, .aload_n 0, 1), (5, .arraylength, 1), (6, .aload_n 1, 1), (7, .arraylength, 1), (8, .invokestatic 441, 3), (11, .invokestatic 446, 3), (14, .return_, 1)], ftX8)
set_option maxRecDepth 20000 in
theorem zo_X8_copyRow : ZOK z_X8_copyRow := ⟨by decide +kernel, ftX8_ok⟩
set_option maxRecDepth 20000 in
theorem k_X8_copyRow : LKS z_X8_copyRow 2 := ⟨⟨ALL_at 510 (by decide +kernel) rfl, (inALL_at 31 (by decide +kernel) rfl), by decide +kernel⟩, (inALL_at 509 (by decide +kernel) rfl)⟩
def z_X1_clear : MZ := (yX1_clear, cX1_clear, 1, none, [(0, .aload_n 0, 1), (1, .iconst 0, 1), (2, .putfield 17, 3), (5, .return_, 1)], ftX1)
set_option maxRecDepth 20000 in
theorem zo_X1_clear : ZOK z_X1_clear := ⟨by decide +kernel, ftX1_ok⟩
set_option maxRecDepth 20000 in
theorem k_X1_clear : LKV z_X1_clear 0 := ⟨⟨ALL_at 522 (by decide +kernel) rfl, (inALL_at 35 (by decide +kernel) rfl), by decide +kernel⟩, (inALL_at 520 (by decide +kernel) rfl), (inALL_at 521 (by decide +kernel) rfl)⟩
def z_X8_loadSetup : MZ := (yX8_loadSetup, cX8_loadSetup, 1, (some .int), [(0, .aload_n 0, 1), (1, .invokevirtual 74, 3), (4, .ifCond .ne 5, 3), (7, .iconst (-1), 1), (8, .ireturn, 1), (9, .aload_n 0, 1), (10, .invokevirtual 78, 3), (13, .aload_n 0, 1), (14, .getfield 40, 3), (17, .getfield 89, 3), (20, .ireturn, 1)], ftX8)
set_option maxRecDepth 20000 in
theorem zo_X8_loadSetup : ZOK z_X8_loadSetup := ⟨by decide +kernel, ftX8_ok⟩
set_option maxRecDepth 20000 in
theorem k_X8_loadSetup : LKV z_X8_loadSetup 0 := ⟨⟨ALL_at 558 (by decide +kernel) rfl, (inALL_at 31 (by decide +kernel) rfl), by decide +kernel⟩, (inALL_at 556 (by decide +kernel) rfl), (inALL_at 557 (by decide +kernel) rfl)⟩
def z_X8_appendInput : MZ := (yX8_appendInput, cX8_appendInput, 6, (some .int), [(0, .aload_n 0, 1), (1, .getfield 10, 3), (4, .getfield 81, 3), (7, .sipush 580, 3), (10, .if_icmp .le 5, 3), (13, .iconst (-1), 1), (14, .ireturn, 1), (15, .aload_n 0, 1), (16, .getfield 10, 3), (19, .iload_n 1, 1), (20, .invokevirtual 85, 3), (23, .aload_n 0, 1), (24, .getfield 10, 3), (27, .iload_n 2, 1), (28, .invokevirtual 85, 3), (31, .aload_n 0, 1), (32, .getfield 10, 3), (35, .iload_n 3, 1), (36, .invokevirtual 85, 3), (39, .aload_n 0, 1), (40, .getfield 10, 3), (43, .iload 4, 2), (45, .invokevirtual 85, 3), (48, .aload_n 0, 1), (49, .getfield 10, 3), (52, .iload 5, 2), (54, .invokevirtual 85, 3), (57, .aload_n 0, 1), (58, .getfield 10, 3), (61, .getfield 81, 3), (64, .ireturn, 1)], ftX8)
set_option maxRecDepth 20000 in
theorem zo_X8_appendInput : ZOK z_X8_appendInput := ⟨by decide +kernel, ftX8_ok⟩
set_option maxRecDepth 20000 in
theorem k_X8_appendInput : LKV z_X8_appendInput 5 := ⟨⟨ALL_at 616 (by decide +kernel) rfl, (inALL_at 31 (by decide +kernel) rfl), by decide +kernel⟩, (inALL_at 614 (by decide +kernel) rfl), (inALL_at 615 (by decide +kernel) rfl)⟩
def z_X4_appendFourBytes : MZ := (yX4_appendFourBytes, cX4_appendFourBytes, 2, none, [(0, .aload_n 0, 1), (1, .iload_n 1, 1), (2, .bipush 24, 2), (4, .iushr, 1), (5, .invokevirtual 53, 3), (8, .aload_n 0, 1), (9, .iload_n 1, 1), (10, .bipush 16, 2), (12, .iushr, 1), (13, .invokevirtual 53, 3), (16, .aload_n 0, 1), (17, .iload_n 1, 1), (18, .bipush 8, 2), (20, .iushr, 1), (21, .invokevirtual 53, 3), (24, .aload_n 0, 1), (25, .iload_n 1, 1), (26, .invokevirtual 53, 3), (29, .return_, 1)], ftX4)
set_option maxRecDepth 20000 in
theorem zo_X4_appendFourBytes : ZOK z_X4_appendFourBytes := ⟨by decide +kernel, ftX4_ok⟩
set_option maxRecDepth 20000 in
theorem k_X4_appendFourBytes : LKV z_X4_appendFourBytes 1 := ⟨⟨ALL_at 620 (by decide +kernel) rfl, (inALL_at 32 (by decide +kernel) rfl), by decide +kernel⟩, (inALL_at 618 (by decide +kernel) rfl), (inALL_at 619 (by decide +kernel) rfl)⟩
def z_X8_truncateInput : MZ := (yX8_truncateInput, cX8_truncateInput, 2, (some .boolean), [(0, .iload_n 1, 1), (1, .ifCond .lt 14, 3), (4, .iload_n 1, 1), (5, .aload_n 0, 1), (6, .getfield 10, 3), (9, .getfield 81, 3), (12, .if_icmp .le 5, 3), (15, .iconst 0, 1), (16, .ireturn, 1), (17, .aload_n 0, 1), (18, .getfield 10, 3), (21, .iload_n 1, 1), (22, .putfield 81, 3), (25, .iconst 1, 1), (26, .ireturn, 1)], ftX8)
set_option maxRecDepth 20000 in
theorem zo_X8_truncateInput : ZOK z_X8_truncateInput := ⟨by decide +kernel, ftX8_ok⟩
set_option maxRecDepth 20000 in
theorem k_X8_truncateInput : LKV z_X8_truncateInput 1 := ⟨⟨ALL_at 624 (by decide +kernel) rfl, (inALL_at 31 (by decide +kernel) rfl), by decide +kernel⟩, (inALL_at 622 (by decide +kernel) rfl), (inALL_at 623 (by decide +kernel) rfl)⟩
def z_X8_printNext : MZ := (yX8_printNext, cX8_printNext, 3, (some .int), [(0, .aload_n 0, 1), (1, .iload_n 1, 1), (2, .invokevirtual 122, 3), (5, .aload_n 0, 1), (6, .getfield 40, 3), (9, .iload_n 1, 1), (10, .invokevirtual 213, 3), (13, .ifCond .eq 14, 3), (16, .new 267, 3), (19, .dup, 1), (20, .ldc_w 276, 3), (23, .invokespecial 271, 3), (26, .athrow, 1), (27, .aload_n 0, 1), (28, .getfield 33, 3), (31, .aload_n 0, 1), (32, .getfield 40, 3), (35, .invokevirtual 95, 3), (38, .aload_n 0, 1), (39, .getfield 40, 3), (42, .getfield 157, 3), (45, .iload_n 1, 1), (46, .iaload, 1), (47, .istore_n 2, 1), (48, .aload_n 0, 1), (49, .getfield 40, 3), (52, .iload_n 2, 1), (53, .iconst 1, 1), (54, .invokevirtual 278, 3), (57, .pop, 1), (58, .iload_n 2, 1), (59, .ireturn, 1)], ftX8)
set_option maxRecDepth 20000 in
theorem zo_X8_printNext : ZOK z_X8_printNext := ⟨by decide +kernel, ftX8_ok⟩
set_option maxRecDepth 20000 in
theorem k_X8_printNext : LKV z_X8_printNext 1 := ⟨⟨ALL_at 636 (by decide +kernel) rfl, (inALL_at 31 (by decide +kernel) rfl), by decide +kernel⟩, (inALL_at 634 (by decide +kernel) rfl), (inALL_at 635 (by decide +kernel) rfl)⟩
def z_X8_checkQueue : MZ := (yX8_checkQueue, cX8_checkQueue, 2, none, [(0, .iload_n 1, 1), (1, .ifCond .lt 23, 3), (4, .iload_n 1, 1), (5, .aload_n 0, 1), (6, .getfield 57, 3), (9, .getfield 112, 3), (12, .getfield 116, 3), (15, .if_icmp .ge 9, 3), (18, .iload_n 1, 1), (19, .bipush 6, 2), (21, .if_icmp .lt 14, 3), (24, .new 320, 3), (27, .dup, 1), (28, .ldc_w 322, 3), (31, .invokespecial 324, 3), (34, .athrow, 1), (35, .return_, 1)], ftX8)
set_option maxRecDepth 20000 in
theorem zo_X8_checkQueue : ZOK z_X8_checkQueue := ⟨by decide +kernel, ftX8_ok⟩
set_option maxRecDepth 20000 in
theorem k_X8_checkQueue : LKV z_X8_checkQueue 1 := ⟨⟨ALL_at 640 (by decide +kernel) rfl, (inALL_at 31 (by decide +kernel) rfl), by decide +kernel⟩, (inALL_at 639 (by decide +kernel) rfl), (inALL_at 15 (by decide +kernel) rfl)⟩
def z_X7_obstacle : MZ := (yX7_obstacle, cX7_obstacle, 2, (some .int), [(0, .iload_n 1, 1), (1, .invokestatic 56, 3), (4, .ifCond .eq 12, 3), (7, .aload_n 0, 1), (8, .getfield 41, 3), (11, .iload_n 1, 1), (12, .baload, 1), (13, .ifCond .eq 5, 3), (16, .iconst 1, 1), (17, .ireturn, 1), (18, .aload_n 0, 1), (19, .getfield 35, 3), (22, .iload_n 1, 1), (23, .iaload, 1), (24, .iconst (-1), 1), (25, .if_icmp .ne 7, 3), (28, .iconst 2, 1), (29, .goto 4, 3), (32, .iconst 0, 1), (33, .ireturn, 1)], ftX7)
set_option maxRecDepth 20000 in
theorem zo_X7_obstacle : ZOK z_X7_obstacle := ⟨by decide +kernel, ftX7_ok⟩
set_option maxRecDepth 20000 in
theorem k_X7_obstacle : LKV z_X7_obstacle 1 := ⟨⟨ALL_at 711 (by decide +kernel) rfl, (inALL_at 36 (by decide +kernel) rfl), by decide +kernel⟩, (inALL_at 709 (by decide +kernel) rfl), (inALL_at 710 (by decide +kernel) rfl)⟩
def z_X1_keep : MZ := (yX1_keep, cX1_keep, 3, none, [(0, .aload_n 0, 1), (1, .getfield 11, 3), (4, .aload_n 0, 1), (5, .getfield 21, 3), (8, .bipush 8, 2), (10, .invokestatic 25, 3), (13, .aaload, 1), (14, .astore_n 2, 1), (15, .aload_n 2, 1), (16, .ifnull 8, 3), (19, .aload_n 2, 1), (20, .aload_n 1, 1), (21, .invokevirtual 31, 3), (24, .aload_n 0, 1), (25, .aload_n 0, 1), (26, .getfield 21, 3), (29, .iconst 1, 1), (30, .iadd, 1), (31, .bipush 8, 2), (33, .invokestatic 25, 3), (36, .putfield 21, 3), (39, .aload_n 0, 1), (40, .aload_n 0, 1), (41, .getfield 17, 3), (44, .iconst 1, 1), (45, .iadd, 1), (46, .bipush 8, 2), (48, .invokestatic 35, 3), (51, .putfield 17, 3), (54, .return_, 1)], ftX1)
set_option maxRecDepth 20000 in
theorem zo_X1_keep : ZOK z_X1_keep := ⟨by decide +kernel, ftX1_ok⟩
set_option maxRecDepth 20000 in
theorem k_X1_keep : LKV z_X1_keep 1 := ⟨⟨ALL_at 731 (by decide +kernel) rfl, (inALL_at 35 (by decide +kernel) rfl), by decide +kernel⟩, (inALL_at 729 (by decide +kernel) rfl), (inALL_at 730 (by decide +kernel) rfl)⟩
def z_X7_endJob : MZ := (yX7_endJob, cX7_endJob, 4, (some .boolean), [(0, .aload_n 0, 1), (1, .iload_n 1, 1), (2, .invokevirtual 60, 3), (5, .ifCond .ne 5, 3), (8, .iconst 0, 1), (9, .ireturn, 1), (10, .aload_n 0, 1), (11, .getfield 32, 3), (14, .iload_n 1, 1), (15, .iaload, 1), (16, .istore_n 3, 1), (17, .aload_n 0, 1), (18, .getfield 35, 3), (21, .iload_n 3, 1), (22, .aload_n 0, 1), (23, .getfield 12, 3), (26, .aload_n 0, 1), (27, .getfield 35, 3), (30, .iload_n 3, 1), (31, .iaload, 1), (32, .iload_n 1, 1), (33, .invokevirtual 75, 3), (36, .iastore, 1), (37, .aload_n 0, 1), (38, .getfield 32, 3), (41, .iload_n 1, 1), (42, .iconst (-1), 1), (43, .iastore, 1), (44, .aload_n 0, 1), (45, .getfield 29, 3), (48, .iload_n 1, 1), (49, .iload_n 2, 1), (50, .iastore, 1), (51, .iload_n 2, 1), (52, .iconst 1, 1), (53, .if_icmp .ne 18, 3), (56, .aload_n 0, 1), (57, .getfield 38, 3), (60, .iload_n 3, 1), (61, .dup2, 1), (62, .iaload, 1), (63, .aload_n 0, 1), (64, .getfield 26, 3), (67, .iload_n 1, 1), (68, .iaload, 1), (69, .iadd, 1), (70, .iastore, 1), (71, .iconst 1, 1), (72, .ireturn, 1)], ftX7)
set_option maxRecDepth 20000 in
theorem zo_X7_endJob : ZOK z_X7_endJob := ⟨by decide +kernel, ftX7_ok⟩
set_option maxRecDepth 20000 in
theorem k_X7_endJob : LKV z_X7_endJob 2 := ⟨⟨ALL_at 740 (by decide +kernel) rfl, (inALL_at 36 (by decide +kernel) rfl), by decide +kernel⟩, (inALL_at 738 (by decide +kernel) rfl), (inALL_at 739 (by decide +kernel) rfl)⟩
def z_X7_waits : MZ := (yX7_waits, cX7_waits, 2, (some .boolean), [(0, .iload_n 1, 1), (1, .ifCond .lt 42, 3), (4, .iload_n 1, 1), (5, .aload_n 0, 1), (6, .getfield 18, 3), (9, .if_icmp .ge 34, 3), (12, .iload_n 1, 1), (13, .bipush 40, 2), (15, .if_icmp .ge 28, 3), (18, .aload_n 0, 1), (19, .getfield 29, 3), (22, .iload_n 1, 1), (23, .iaload, 1), (24, .ifCond .ne 19, 3), (27, .aload_n 0, 1), (28, .getfield 32, 3), (31, .iload_n 1, 1), (32, .iaload, 1), (33, .invokestatic 56, 3), (36, .ifCond .eq 7, 3), (39, .iconst 1, 1), (40, .goto 4, 3), (43, .iconst 0, 1), (44, .ireturn, 1)], ftX7)
set_option maxRecDepth 20000 in
theorem zo_X7_waits : ZOK z_X7_waits := ⟨by decide +kernel, ftX7_ok⟩
set_option maxRecDepth 20000 in
theorem k_X7_waits : LKV z_X7_waits 1 := ⟨⟨ALL_at 744 (by decide +kernel) rfl, (inALL_at 36 (by decide +kernel) rfl), by decide +kernel⟩, (inALL_at 742 (by decide +kernel) rfl), (inALL_at 743 (by decide +kernel) rfl)⟩
def z_X0_takeOut : MZ := (yX0_takeOut, cX0_takeOut, 7, (some .int), [(0, .iload_n 2, 1), (1, .invokestatic 41, 3), (4, .ifCond .ne 5, 3), (7, .iload_n 1, 1), (8, .ireturn, 1), (9, .aload_n 0, 1), (10, .getfield 21, 3), (13, .iload_n 2, 1), (14, .iaload, 1), (15, .istore_n 3, 1), (16, .aload_n 0, 1), (17, .aload_n 0, 1), (18, .getfield 15, 3), (21, .iload_n 2, 1), (22, .iaload, 1), (23, .aload_n 0, 1), (24, .getfield 18, 3), (27, .iload_n 2, 1), (28, .iaload, 1), (29, .invokevirtual 68, 3), (32, .istore 4, 2), (34, .aload_n 0, 1), (35, .iload_n 2, 1), (36, .invokevirtual 49, 3), (39, .iload_n 3, 1), (40, .invokestatic 41, 3), (43, .ifCond .ne 6, 3), (46, .iload 4, 2), (48, .ireturn, 1), (49, .aload_n 0, 1), (50, .getfield 15, 3), (53, .iload_n 3, 1), (54, .iaload, 1), (55, .iload_n 2, 1), (56, .if_icmp .ne 14, 3), (59, .aload_n 0, 1), (60, .getfield 15, 3), (63, .iload_n 3, 1), (64, .iload 4, 2), (66, .iastore, 1), (67, .goto 11, 3), (70, .aload_n 0, 1), (71, .getfield 18, 3), (74, .iload_n 3, 1), (75, .iload 4, 2), (77, .iastore, 1), (78, .aload_n 0, 1), (79, .iload 4, 2), (81, .iload_n 3, 1), (82, .invokevirtual 57, 3), (85, .iload_n 3, 1), (86, .istore 5, 2), (88, .iconst 0, 1), (89, .istore 6, 2), (91, .iload 6, 2), (93, .bipush 40, 2), (95, .if_icmp .ge 32, 3), (98, .iload 5, 2), (100, .invokestatic 41, 3), (103, .ifCond .eq 24, 3), (106, .aload_n 0, 1), (107, .iload 5, 2), (109, .invokevirtual 61, 3), (112, .aload_n 0, 1), (113, .getfield 21, 3), (116, .iload 5, 2), (118, .iaload, 1), (119, .istore 5, 2), (121, .iinc 6 1, 3), (124, .goto (-33), 3), (127, .iload_n 1, 1), (128, .ireturn, 1)], ftX0)
set_option maxRecDepth 20000 in
theorem zo_X0_takeOut : ZOK z_X0_takeOut := ⟨by decide +kernel, ftX0_ok⟩
set_option maxRecDepth 20000 in
theorem k_X0_takeOut : LKV z_X0_takeOut 2 := ⟨⟨ALL_at 748 (by decide +kernel) rfl, (inALL_at 37 (by decide +kernel) rfl), by decide +kernel⟩, (inALL_at 746 (by decide +kernel) rfl), (inALL_at 747 (by decide +kernel) rfl)⟩
def z_X8_cancel : MZ := (yX8_cancel, cX8_cancel, 3, (some .int), [(0, .aload_n 0, 1), (1, .iload_n 1, 1), (2, .invokevirtual 132, 3), (5, .aload_n 0, 1), (6, .iload_n 1, 1), (7, .invokevirtual 173, 3), (10, .aload_n 0, 1), (11, .getfield 33, 3), (14, .aload_n 0, 1), (15, .getfield 40, 3), (18, .invokevirtual 95, 3), (21, .aload_n 0, 1), (22, .getfield 40, 3), (25, .getfield 135, 3), (28, .iload_n 1, 1), (29, .iaload, 1), (30, .istore_n 2, 1), (31, .aload_n 0, 1), (32, .getfield 40, 3), (35, .iload_n 1, 1), (36, .iconst 2, 1), (37, .invokevirtual 278, 3), (40, .pop, 1), (41, .aload_n 0, 1), (42, .getfield 40, 3), (45, .iload_n 2, 1), (46, .invokevirtual 182, 3), (49, .ireturn, 1)], ftX8)
set_option maxRecDepth 20000 in
theorem zo_X8_cancel : ZOK z_X8_cancel := ⟨by decide +kernel, ftX8_ok⟩
set_option maxRecDepth 20000 in
theorem k_X8_cancel : LKV z_X8_cancel 1 := ⟨⟨ALL_at 753 (by decide +kernel) rfl, (inALL_at 31 (by decide +kernel) rfl), by decide +kernel⟩, (inALL_at 751 (by decide +kernel) rfl), (inALL_at 752 (by decide +kernel) rfl)⟩
def z_X8_checkJob : MZ := (yX8_checkJob, cX8_checkJob, 2, none, [(0, .iload_n 1, 1), (1, .ifCond .lt 20, 3), (4, .iload_n 1, 1), (5, .aload_n 0, 1), (6, .getfield 40, 3), (9, .getfield 89, 3), (12, .if_icmp .ge 9, 3), (15, .iload_n 1, 1), (16, .bipush 40, 2), (18, .if_icmp .lt 14, 3), (21, .new 320, 3), (24, .dup, 1), (25, .ldc_w 327, 3), (28, .invokespecial 324, 3), (31, .athrow, 1), (32, .return_, 1)], ftX8)
set_option maxRecDepth 20000 in
theorem zo_X8_checkJob : ZOK z_X8_checkJob := ⟨by decide +kernel, ftX8_ok⟩
set_option maxRecDepth 20000 in
theorem k_X8_checkJob : LKV z_X8_checkJob 1 := ⟨⟨ALL_at 757 (by decide +kernel) rfl, (inALL_at 31 (by decide +kernel) rfl), by decide +kernel⟩, (inALL_at 756 (by decide +kernel) rfl), (inALL_at 17 (by decide +kernel) rfl)⟩
def z_X8_checkWaits : MZ := (yX8_checkWaits, cX8_checkWaits, 2, none, [(0, .aload_n 0, 1), (1, .getfield 40, 3), (4, .iload_n 1, 1), (5, .invokevirtual 329, 3), (8, .ifCond .ne 14, 3), (11, .new 267, 3), (14, .dup, 1), (15, .ldc_w 332, 3), (18, .invokespecial 271, 3), (21, .athrow, 1), (22, .return_, 1)], ftX8)
set_option maxRecDepth 20000 in
theorem zo_X8_checkWaits : ZOK z_X8_checkWaits := ⟨by decide +kernel, ftX8_ok⟩
set_option maxRecDepth 20000 in
theorem k_X8_checkWaits : LKV z_X8_checkWaits 1 := ⟨⟨ALL_at 762 (by decide +kernel) rfl, (inALL_at 31 (by decide +kernel) rfl), by decide +kernel⟩, (inALL_at 761 (by decide +kernel) rfl), (inALL_at 18 (by decide +kernel) rfl)⟩
def z_X7_jobsIn : MZ := (yX7_jobsIn, cX7_jobsIn, 4, (some .int), [(0, .iconst 0, 1), (1, .istore_n 2, 1), (2, .iconst 0, 1), (3, .istore_n 3, 1), (4, .iload_n 3, 1), (5, .aload_n 0, 1), (6, .getfield 18, 3), (9, .if_icmp .ge 28, 3), (12, .iload_n 3, 1), (13, .bipush 40, 2), (15, .if_icmp .ge 22, 3), (18, .aload_n 0, 1), (19, .getfield 32, 3), (22, .iload_n 3, 1), (23, .iaload, 1), (24, .iload_n 1, 1), (25, .if_icmp .ne 6, 3), (28, .iinc 2 1, 3), (31, .iinc 3 1, 3), (34, .goto (-30), 3), (37, .iload_n 2, 1), (38, .ireturn, 1)], ftX7)
set_option maxRecDepth 20000 in
theorem zo_X7_jobsIn : ZOK z_X7_jobsIn := ⟨by decide +kernel, ftX7_ok⟩
set_option maxRecDepth 20000 in
theorem k_X7_jobsIn : LKV z_X7_jobsIn 1 := ⟨⟨ALL_at 768 (by decide +kernel) rfl, (inALL_at 36 (by decide +kernel) rfl), by decide +kernel⟩, (inALL_at 766 (by decide +kernel) rfl), (inALL_at 767 (by decide +kernel) rfl)⟩
def z_X8_changePriority : MZ := (yX8_changePriority, cX8_changePriority, 4, (some .int), [(0, .aload_n 0, 1), (1, .iload_n 1, 1), (2, .invokevirtual 132, 3), (5, .iload_n 2, 1), (6, .invokestatic 232, 3), (9, .aload_n 0, 1), (10, .iload_n 1, 1), (11, .invokevirtual 173, 3), (14, .aload_n 0, 1), (15, .getfield 33, 3), (18, .aload_n 0, 1), (19, .getfield 40, 3), (22, .invokevirtual 95, 3), (25, .aload_n 0, 1), (26, .getfield 40, 3), (29, .getfield 142, 3), (32, .getfield 146, 3), (35, .iload_n 1, 1), (36, .iaload, 1), (37, .istore_n 3, 1), (38, .aload_n 0, 1), (39, .getfield 40, 3), (42, .iload_n 1, 1), (43, .aload_n 0, 1), (44, .getfield 40, 3), (47, .getfield 135, 3), (50, .iload_n 1, 1), (51, .iaload, 1), (52, .iload_n 2, 1), (53, .invokevirtual 282, 3), (56, .pop, 1), (57, .iload_n 3, 1), (58, .ireturn, 1)], ftX8)
set_option maxRecDepth 20000 in
theorem zo_X8_changePriority : ZOK z_X8_changePriority := ⟨by decide +kernel, ftX8_ok⟩
set_option maxRecDepth 20000 in
theorem k_X8_changePriority : LKV z_X8_changePriority 2 := ⟨⟨ALL_at 772 (by decide +kernel) rfl, (inALL_at 31 (by decide +kernel) rfl), by decide +kernel⟩, (inALL_at 770 (by decide +kernel) rfl), (inALL_at 771 (by decide +kernel) rfl)⟩
def z_X8_checkPriority : MZ := (yX8_checkPriority, cX8_checkPriority, 1, none, [(0, .iload_n 0, 1), (1, .ifCond .lt 9, 3), (4, .iload_n 0, 1), (5, .bipush 99, 2), (7, .if_icmp .le 14, 3), (10, .new 258, 3), (13, .dup, 1), (14, .ldc_w 336, 3), (17, .invokespecial 262, 3), (20, .athrow, 1), (21, .return_, 1)], ftX8)
set_option maxRecDepth 20000 in
theorem zo_X8_checkPriority : ZOK z_X8_checkPriority := ⟨by decide +kernel, ftX8_ok⟩
set_option maxRecDepth 20000 in
theorem k_X8_checkPriority : LKS z_X8_checkPriority 1 := ⟨⟨ALL_at 775 (by decide +kernel) rfl, (inALL_at 31 (by decide +kernel) rfl), by decide +kernel⟩, (inALL_at 774 (by decide +kernel) rfl)⟩
def z_X7_insertAgain : MZ := (yX7_insertAgain, cX7_insertAgain, 5, (some .boolean), [(0, .aload_n 0, 1), (1, .iload_n 1, 1), (2, .invokevirtual 60, 3), (5, .ifCond .eq 10, 3), (8, .iload_n 2, 1), (9, .invokestatic 56, 3), (12, .ifCond .ne 5, 3), (15, .iconst 0, 1), (16, .ireturn, 1), (17, .aload_n 0, 1), (18, .getfield 32, 3), (21, .iload_n 1, 1), (22, .iaload, 1), (23, .istore 4, 2), (25, .aload_n 0, 1), (26, .getfield 35, 3), (29, .iload 4, 2), (31, .aload_n 0, 1), (32, .getfield 12, 3), (35, .aload_n 0, 1), (36, .getfield 35, 3), (39, .iload 4, 2), (41, .iaload, 1), (42, .iload_n 1, 1), (43, .invokevirtual 75, 3), (46, .iastore, 1), (47, .aload_n 0, 1), (48, .getfield 12, 3), (51, .iload_n 1, 1), (52, .iload_n 3, 1), (53, .invokevirtual 67, 3), (56, .aload_n 0, 1), (57, .getfield 35, 3), (60, .iload_n 2, 1), (61, .aload_n 0, 1), (62, .getfield 12, 3), (65, .aload_n 0, 1), (66, .getfield 35, 3), (69, .iload_n 2, 1), (70, .iaload, 1), (71, .iload_n 1, 1), (72, .invokevirtual 71, 3), (75, .iastore, 1), (76, .aload_n 0, 1), (77, .getfield 32, 3), (80, .iload_n 1, 1), (81, .iload_n 2, 1), (82, .iastore, 1), (83, .iconst 1, 1), (84, .ireturn, 1)], ftX7)
set_option maxRecDepth 20000 in
theorem zo_X7_insertAgain : ZOK z_X7_insertAgain := ⟨by decide +kernel, ftX7_ok⟩
set_option maxRecDepth 20000 in
theorem k_X7_insertAgain : LKV z_X7_insertAgain 3 := ⟨⟨ALL_at 795 (by decide +kernel) rfl, (inALL_at 36 (by decide +kernel) rfl), by decide +kernel⟩, (inALL_at 793 (by decide +kernel) rfl), (inALL_at 794 (by decide +kernel) rfl)⟩
def z_X8_moveJob : MZ := (yX8_moveJob, cX8_moveJob, 3, (some .int), [(0, .aload_n 0, 1), (1, .iload_n 1, 1), (2, .invokevirtual 132, 3), (5, .aload_n 0, 1), (6, .iload_n 2, 1), (7, .invokevirtual 122, 3), (10, .aload_n 0, 1), (11, .getfield 40, 3), (14, .iload_n 1, 1), (15, .iload_n 2, 1), (16, .invokevirtual 286, 3), (19, .ifCond .ne 14, 3), (22, .new 267, 3), (25, .dup, 1), (26, .ldc_w 289, 3), (29, .invokespecial 271, 3), (32, .athrow, 1), (33, .aload_n 0, 1), (34, .getfield 33, 3), (37, .aload_n 0, 1), (38, .getfield 40, 3), (41, .invokevirtual 95, 3), (44, .aload_n 0, 1), (45, .getfield 40, 3), (48, .iload_n 1, 1), (49, .iload_n 2, 1), (50, .aload_n 0, 1), (51, .getfield 40, 3), (54, .getfield 142, 3), (57, .getfield 146, 3), (60, .iload_n 1, 1), (61, .iaload, 1), (62, .invokevirtual 282, 3), (65, .pop, 1), (66, .aload_n 0, 1), (67, .getfield 40, 3), (70, .getfield 157, 3), (73, .iload_n 2, 1), (74, .iaload, 1), (75, .ireturn, 1)], ftX8)
set_option maxRecDepth 20000 in
theorem zo_X8_moveJob : ZOK z_X8_moveJob := ⟨by decide +kernel, ftX8_ok⟩
set_option maxRecDepth 20000 in
theorem k_X8_moveJob : LKV z_X8_moveJob 2 := ⟨⟨ALL_at 799 (by decide +kernel) rfl, (inALL_at 31 (by decide +kernel) rfl), by decide +kernel⟩, (inALL_at 797 (by decide +kernel) rfl), (inALL_at 798 (by decide +kernel) rfl)⟩
def z_X7_canMove : MZ := (yX7_canMove, cX7_canMove, 3, (some .boolean), [(0, .aload_n 0, 1), (1, .iload_n 1, 1), (2, .invokevirtual 60, 3), (5, .ifCond .eq 17, 3), (8, .aload_n 0, 1), (9, .getfield 32, 3), (12, .iload_n 1, 1), (13, .iaload, 1), (14, .iload_n 2, 1), (15, .if_icmp .eq 7, 3), (18, .iconst 1, 1), (19, .goto 4, 3), (22, .iconst 0, 1), (23, .ireturn, 1)], ftX7)
set_option maxRecDepth 20000 in
theorem zo_X7_canMove : ZOK z_X7_canMove := ⟨by decide +kernel, ftX7_ok⟩
set_option maxRecDepth 20000 in
theorem k_X7_canMove : LKV z_X7_canMove 2 := ⟨⟨ALL_at 803 (by decide +kernel) rfl, (inALL_at 36 (by decide +kernel) rfl), by decide +kernel⟩, (inALL_at 801 (by decide +kernel) rfl), (inALL_at 802 (by decide +kernel) rfl)⟩
def z_X8_submit : MZ := (yX8_submit, cX8_submit, 5, (some .int), [(0, .aload_n 0, 1), (1, .iload_n 1, 1), (2, .invokevirtual 122, 3), (5, .aload_n 0, 1), (6, .iload_n 2, 1), (7, .invokevirtual 129, 3), (10, .iload_n 3, 1), (11, .invokestatic 232, 3), (14, .iload 4, 2), (16, .iconst 1, 1), (17, .if_icmp .lt 10, 3), (20, .iload 4, 2), (22, .bipush 99, 2), (24, .if_icmp .le 14, 3), (27, .new 258, 3), (30, .dup, 1), (31, .ldc_w 260, 3), (34, .invokespecial 262, 3), (37, .athrow, 1), (38, .aload_n 0, 1), (39, .getfield 40, 3), (42, .invokevirtual 264, 3), (45, .ifCond .eq 14, 3), (48, .new 267, 3), (51, .dup, 1), (52, .ldc_w 269, 3), (55, .invokespecial 271, 3), (58, .athrow, 1), (59, .aload_n 0, 1), (60, .getfield 33, 3), (63, .aload_n 0, 1), (64, .getfield 40, 3), (67, .invokevirtual 95, 3), (70, .aload_n 0, 1), (71, .getfield 40, 3), (74, .iload_n 1, 1), (75, .iload_n 2, 1), (76, .iload_n 3, 1), (77, .iload 4, 2), (79, .invokevirtual 272, 3), (82, .ireturn, 1)], ftX8)
set_option maxRecDepth 20000 in
theorem zo_X8_submit : ZOK z_X8_submit := ⟨by decide +kernel, ftX8_ok⟩
set_option maxRecDepth 20000 in
theorem k_X8_submit : LKV z_X8_submit 4 := ⟨⟨ALL_at 808 (by decide +kernel) rfl, (inALL_at 31 (by decide +kernel) rfl), by decide +kernel⟩, (inALL_at 806 (by decide +kernel) rfl), (inALL_at 807 (by decide +kernel) rfl)⟩
def z_X8_checkOwner : MZ := (yX8_checkOwner, cX8_checkOwner, 2, none, [(0, .iload_n 1, 1), (1, .ifCond .lt 23, 3), (4, .iload_n 1, 1), (5, .aload_n 0, 1), (6, .getfield 57, 3), (9, .getfield 119, 3), (12, .getfield 116, 3), (15, .if_icmp .ge 9, 3), (18, .iload_n 1, 1), (19, .bipush 8, 2), (21, .if_icmp .lt 14, 3), (24, .new 320, 3), (27, .dup, 1), (28, .ldc_w 325, 3), (31, .invokespecial 324, 3), (34, .athrow, 1), (35, .return_, 1)], ftX8)
set_option maxRecDepth 20000 in
theorem zo_X8_checkOwner : ZOK z_X8_checkOwner := ⟨by decide +kernel, ftX8_ok⟩
set_option maxRecDepth 20000 in
theorem k_X8_checkOwner : LKV z_X8_checkOwner 1 := ⟨⟨ALL_at 812 (by decide +kernel) rfl, (inALL_at 31 (by decide +kernel) rfl), by decide +kernel⟩, (inALL_at 811 (by decide +kernel) rfl), (inALL_at 19 (by decide +kernel) rfl)⟩
def z_X8_printingObstacle : MZ := (yX8_printingObstacle, cX8_printingObstacle, 2, (some .int), [(0, .aload_n 0, 1), (1, .iload_n 1, 1), (2, .invokevirtual 122, 3), (5, .aload_n 0, 1), (6, .getfield 40, 3), (9, .iload_n 1, 1), (10, .invokevirtual 213, 3), (13, .ireturn, 1)], ftX8)
set_option maxRecDepth 20000 in
theorem zo_X8_printingObstacle : ZOK z_X8_printingObstacle := ⟨by decide +kernel, ftX8_ok⟩
set_option maxRecDepth 20000 in
theorem k_X8_printingObstacle : LKV z_X8_printingObstacle 1 := ⟨⟨ALL_at 831 (by decide +kernel) rfl, (inALL_at 31 (by decide +kernel) rfl), by decide +kernel⟩, (inALL_at 829 (by decide +kernel) rfl), (inALL_at 830 (by decide +kernel) rfl)⟩
def z_X8_jobCount : MZ := (yX8_jobCount, cX8_jobCount, 1, (some .int), [(0, .aload_n 0, 1), (1, .getfield 40, 3), (4, .getfield 89, 3), (7, .ireturn, 1)], ftX8)
set_option maxRecDepth 20000 in
theorem zo_X8_jobCount : ZOK z_X8_jobCount := ⟨by decide +kernel, ftX8_ok⟩
set_option maxRecDepth 20000 in
theorem k_X8_jobCount : LKV z_X8_jobCount 0 := ⟨⟨ALL_at 835 (by decide +kernel) rfl, (inALL_at 31 (by decide +kernel) rfl), by decide +kernel⟩, (inALL_at 833 (by decide +kernel) rfl), (inALL_at 834 (by decide +kernel) rfl)⟩
def z_X8_positionWith : MZ := (yX8_positionWith, cX8_positionWith, 3, (some .int), [(0, .aload_n 0, 1), (1, .iload_n 1, 1), (2, .invokevirtual 132, 3), (5, .iload_n 2, 1), (6, .invokestatic 232, 3), (9, .aload_n 0, 1), (10, .iload_n 1, 1), (11, .invokevirtual 173, 3), (14, .aload_n 0, 1), (15, .getfield 40, 3), (18, .iload_n 1, 1), (19, .iload_n 2, 1), (20, .invokevirtual 188, 3), (23, .ireturn, 1)], ftX8)
set_option maxRecDepth 20000 in
theorem zo_X8_positionWith : ZOK z_X8_positionWith := ⟨by decide +kernel, ftX8_ok⟩
set_option maxRecDepth 20000 in
theorem k_X8_positionWith : LKV z_X8_positionWith 2 := ⟨⟨ALL_at 843 (by decide +kernel) rfl, (inALL_at 31 (by decide +kernel) rfl), by decide +kernel⟩, (inALL_at 841 (by decide +kernel) rfl), (inALL_at 842 (by decide +kernel) rfl)⟩
def z_X7_jobsAhead : MZ := (yX7_jobsAhead, cX7_jobsAhead, 5, (some .int), [(0, .aload_n 0, 1), (1, .iload_n 1, 1), (2, .invokevirtual 60, 3), (5, .ifCond .ne 5, 3), (8, .iconst 0, 1), (9, .ireturn, 1), (10, .iconst 0, 1), (11, .istore_n 3, 1), (12, .iconst 0, 1), (13, .istore 4, 2), (15, .iload 4, 2), (17, .aload_n 0, 1), (18, .getfield 18, 3), (21, .if_icmp .ge 55, 3), (24, .iload 4, 2), (26, .bipush 40, 2), (28, .if_icmp .ge 48, 3), (31, .iload 4, 2), (33, .iload_n 1, 1), (34, .if_icmp .eq 36, 3), (37, .aload_n 0, 1), (38, .getfield 32, 3), (41, .iload 4, 2), (43, .iaload, 1), (44, .aload_n 0, 1), (45, .getfield 32, 3), (48, .iload_n 1, 1), (49, .iaload, 1), (50, .if_icmp .ne 20, 3), (53, .aload_n 0, 1), (54, .getfield 12, 3), (57, .iload 4, 2), (59, .iload_n 1, 1), (60, .iload_n 2, 1), (61, .invokevirtual 94, 3), (64, .ifCond .eq 6, 3), (67, .iinc 3 1, 3), (70, .iinc 4 1, 3), (73, .goto (-58), 3), (76, .iload_n 3, 1), (77, .ireturn, 1)], ftX7)
set_option maxRecDepth 20000 in
theorem zo_X7_jobsAhead : ZOK z_X7_jobsAhead := ⟨by decide +kernel, ftX7_ok⟩
set_option maxRecDepth 20000 in
theorem k_X7_jobsAhead : LKV z_X7_jobsAhead 2 := ⟨⟨ALL_at 847 (by decide +kernel) rfl, (inALL_at 36 (by decide +kernel) rfl), by decide +kernel⟩, (inALL_at 845 (by decide +kernel) rfl), (inALL_at 846 (by decide +kernel) rfl)⟩
def z_X8_mergeQueues : MZ := (yX8_mergeQueues, cX8_mergeQueues, 3, (some .int), [(0, .aload_n 0, 1), (1, .iload_n 1, 1), (2, .iload_n 2, 1), (3, .invokevirtual 222, 3), (6, .aload_n 0, 1), (7, .getfield 33, 3), (10, .aload_n 0, 1), (11, .getfield 40, 3), (14, .invokevirtual 95, 3), (17, .aload_n 0, 1), (18, .getfield 40, 3), (21, .iload_n 1, 1), (22, .iload_n 2, 1), (23, .invokevirtual 291, 3), (26, .pop, 1), (27, .aload_n 0, 1), (28, .getfield 40, 3), (31, .iload_n 2, 1), (32, .invokevirtual 182, 3), (35, .ireturn, 1)], ftX8)
set_option maxRecDepth 20000 in
theorem zo_X8_mergeQueues : ZOK z_X8_mergeQueues := ⟨by decide +kernel, ftX8_ok⟩
set_option maxRecDepth 20000 in
theorem k_X8_mergeQueues : LKV z_X8_mergeQueues 2 := ⟨⟨ALL_at 852 (by decide +kernel) rfl, (inALL_at 31 (by decide +kernel) rfl), by decide +kernel⟩, (inALL_at 850 (by decide +kernel) rfl), (inALL_at 851 (by decide +kernel) rfl)⟩
def z_X8_checkTwoQueues : MZ := (yX8_checkTwoQueues, cX8_checkTwoQueues, 3, none, [(0, .aload_n 0, 1), (1, .iload_n 1, 1), (2, .invokevirtual 122, 3), (5, .aload_n 0, 1), (6, .iload_n 2, 1), (7, .invokevirtual 122, 3), (10, .iload_n 1, 1), (11, .iload_n 2, 1), (12, .if_icmp .ne 14, 3), (15, .new 258, 3), (18, .dup, 1), (19, .ldc_w 334, 3), (22, .invokespecial 262, 3), (25, .athrow, 1), (26, .return_, 1)], ftX8)
set_option maxRecDepth 20000 in
theorem zo_X8_checkTwoQueues : ZOK z_X8_checkTwoQueues := ⟨by decide +kernel, ftX8_ok⟩
set_option maxRecDepth 20000 in
theorem k_X8_checkTwoQueues : LKV z_X8_checkTwoQueues 2 := ⟨⟨ALL_at 856 (by decide +kernel) rfl, (inALL_at 31 (by decide +kernel) rfl), by decide +kernel⟩, (inALL_at 855 (by decide +kernel) rfl), (inALL_at 24 (by decide +kernel) rfl)⟩
def z_X7_joinQueues : MZ := (yX7_joinQueues, cX7_joinQueues, 4, (some .boolean), [(0, .iload_n 1, 1), (1, .invokestatic 56, 3), (4, .ifCond .eq 15, 3), (7, .iload_n 2, 1), (8, .invokestatic 56, 3), (11, .ifCond .eq 8, 3), (14, .iload_n 1, 1), (15, .iload_n 2, 1), (16, .if_icmp .ne 5, 3), (19, .iconst 0, 1), (20, .ireturn, 1), (21, .aload_n 0, 1), (22, .getfield 35, 3), (25, .iload_n 2, 1), (26, .aload_n 0, 1), (27, .getfield 12, 3), (30, .aload_n 0, 1), (31, .getfield 35, 3), (34, .iload_n 1, 1), (35, .iaload, 1), (36, .aload_n 0, 1), (37, .getfield 35, 3), (40, .iload_n 2, 1), (41, .iaload, 1), (42, .invokevirtual 71, 3), (45, .iastore, 1), (46, .aload_n 0, 1), (47, .getfield 35, 3), (50, .iload_n 1, 1), (51, .iconst (-1), 1), (52, .iastore, 1), (53, .iconst 0, 1), (54, .istore_n 3, 1), (55, .iload_n 3, 1), (56, .aload_n 0, 1), (57, .getfield 18, 3), (60, .if_icmp .ge 32, 3), (63, .iload_n 3, 1), (64, .bipush 40, 2), (66, .if_icmp .ge 26, 3), (69, .aload_n 0, 1), (70, .getfield 32, 3), (73, .iload_n 3, 1), (74, .iaload, 1), (75, .iload_n 1, 1), (76, .if_icmp .ne 10, 3), (79, .aload_n 0, 1), (80, .getfield 32, 3), (83, .iload_n 3, 1), (84, .iload_n 2, 1), (85, .iastore, 1), (86, .iinc 3 1, 3), (89, .goto (-34), 3), (92, .iconst 1, 1), (93, .ireturn, 1)], ftX7)
set_option maxRecDepth 20000 in
theorem zo_X7_joinQueues : ZOK z_X7_joinQueues := ⟨by decide +kernel, ftX7_ok⟩
set_option maxRecDepth 20000 in
theorem k_X7_joinQueues : LKV z_X7_joinQueues 2 := ⟨⟨ALL_at 861 (by decide +kernel) rfl, (inALL_at 36 (by decide +kernel) rfl), by decide +kernel⟩, (inALL_at 859 (by decide +kernel) rfl), (inALL_at 860 (by decide +kernel) rfl)⟩
def z_X8_setPaused : MZ := (yX8_setPaused, cX8_setPaused, 4, (some .boolean), [(0, .aload_n 0, 1), (1, .iload_n 1, 1), (2, .invokevirtual 122, 3), (5, .aload_n 0, 1), (6, .getfield 33, 3), (9, .aload_n 0, 1), (10, .getfield 40, 3), (13, .invokevirtual 95, 3), (16, .aload_n 0, 1), (17, .getfield 40, 3), (20, .getfield 206, 3), (23, .iload_n 1, 1), (24, .baload, 1), (25, .istore_n 3, 1), (26, .aload_n 0, 1), (27, .getfield 40, 3), (30, .iload_n 1, 1), (31, .iload_n 2, 1), (32, .invokevirtual 294, 3), (35, .pop, 1), (36, .iload_n 3, 1), (37, .ireturn, 1)], ftX8)
set_option maxRecDepth 20000 in
theorem zo_X8_setPaused : ZOK z_X8_setPaused := ⟨by decide +kernel, ftX8_ok⟩
set_option maxRecDepth 20000 in
theorem k_X8_setPaused : LKV z_X8_setPaused 2 := ⟨⟨ALL_at 865 (by decide +kernel) rfl, (inALL_at 31 (by decide +kernel) rfl), by decide +kernel⟩, (inALL_at 863 (by decide +kernel) rfl), (inALL_at 864 (by decide +kernel) rfl)⟩
def z_X7_holdQueue : MZ := (yX7_holdQueue, cX7_holdQueue, 3, (some .boolean), [(0, .iload_n 1, 1), (1, .invokestatic 56, 3), (4, .ifCond .ne 5, 3), (7, .iconst 0, 1), (8, .ireturn, 1), (9, .aload_n 0, 1), (10, .getfield 41, 3), (13, .iload_n 1, 1), (14, .iload_n 2, 1), (15, .bastore, 1), (16, .iconst 1, 1), (17, .ireturn, 1)], ftX7)
set_option maxRecDepth 20000 in
theorem zo_X7_holdQueue : ZOK z_X7_holdQueue := ⟨by decide +kernel, ftX7_ok⟩
set_option maxRecDepth 20000 in
theorem k_X7_holdQueue : LKV z_X7_holdQueue 2 := ⟨⟨ALL_at 869 (by decide +kernel) rfl, (inALL_at 36 (by decide +kernel) rfl), by decide +kernel⟩, (inALL_at 867 (by decide +kernel) rfl), (inALL_at 868 (by decide +kernel) rfl)⟩
def z_X8_root : MZ := (yX8_root, cX8_root, 2, (some .int), [(0, .aload_n 0, 1), (1, .iload_n 1, 1), (2, .invokevirtual 122, 3), (5, .aload_n 0, 1), (6, .getfield 40, 3), (9, .getfield 157, 3), (12, .iload_n 1, 1), (13, .iaload, 1), (14, .ireturn, 1)], ftX8)
set_option maxRecDepth 20000 in
theorem zo_X8_root : ZOK z_X8_root := ⟨by decide +kernel, ftX8_ok⟩
set_option maxRecDepth 20000 in
theorem k_X8_root : LKV z_X8_root 1 := ⟨⟨ALL_at 877 (by decide +kernel) rfl, (inALL_at 31 (by decide +kernel) rfl), by decide +kernel⟩, (inALL_at 875 (by decide +kernel) rfl), (inALL_at 876 (by decide +kernel) rfl)⟩
def z_X8_leftChild : MZ := (yX8_leftChild, cX8_leftChild, 2, (some .int), [(0, .aload_n 0, 1), (1, .iload_n 1, 1), (2, .invokevirtual 132, 3), (5, .aload_n 0, 1), (6, .getfield 40, 3), (9, .getfield 142, 3), (12, .getfield 160, 3), (15, .iload_n 1, 1), (16, .iaload, 1), (17, .ireturn, 1)], ftX8)
set_option maxRecDepth 20000 in
theorem zo_X8_leftChild : ZOK z_X8_leftChild := ⟨by decide +kernel, ftX8_ok⟩
set_option maxRecDepth 20000 in
theorem k_X8_leftChild : LKV z_X8_leftChild 1 := ⟨⟨ALL_at 885 (by decide +kernel) rfl, (inALL_at 31 (by decide +kernel) rfl), by decide +kernel⟩, (inALL_at 883 (by decide +kernel) rfl), (inALL_at 884 (by decide +kernel) rfl)⟩
def z_X8_rightChild : MZ := (yX8_rightChild, cX8_rightChild, 2, (some .int), [(0, .aload_n 0, 1), (1, .iload_n 1, 1), (2, .invokevirtual 132, 3), (5, .aload_n 0, 1), (6, .getfield 40, 3), (9, .getfield 142, 3), (12, .getfield 163, 3), (15, .iload_n 1, 1), (16, .iaload, 1), (17, .ireturn, 1)], ftX8)
set_option maxRecDepth 20000 in
theorem zo_X8_rightChild : ZOK z_X8_rightChild := ⟨by decide +kernel, ftX8_ok⟩
set_option maxRecDepth 20000 in
theorem k_X8_rightChild : LKV z_X8_rightChild 1 := ⟨⟨ALL_at 889 (by decide +kernel) rfl, (inALL_at 31 (by decide +kernel) rfl), by decide +kernel⟩, (inALL_at 887 (by decide +kernel) rfl), (inALL_at 888 (by decide +kernel) rfl)⟩
def z_X8_rank : MZ := (yX8_rank, cX8_rank, 2, (some .int), [(0, .aload_n 0, 1), (1, .iload_n 1, 1), (2, .invokevirtual 132, 3), (5, .aload_n 0, 1), (6, .getfield 40, 3), (9, .getfield 142, 3), (12, .iload_n 1, 1), (13, .invokevirtual 169, 3), (16, .ireturn, 1)], ftX8)
set_option maxRecDepth 20000 in
theorem zo_X8_rank : ZOK z_X8_rank := ⟨by decide +kernel, ftX8_ok⟩
set_option maxRecDepth 20000 in
theorem k_X8_rank : LKV z_X8_rank 1 := ⟨⟨ALL_at 893 (by decide +kernel) rfl, (inALL_at 31 (by decide +kernel) rfl), by decide +kernel⟩, (inALL_at 891 (by decide +kernel) rfl), (inALL_at 892 (by decide +kernel) rfl)⟩
def z_X8_parent : MZ := (yX8_parent, cX8_parent, 2, (some .int), [(0, .aload_n 0, 1), (1, .iload_n 1, 1), (2, .invokevirtual 132, 3), (5, .aload_n 0, 1), (6, .getfield 40, 3), (9, .getfield 142, 3), (12, .getfield 166, 3), (15, .iload_n 1, 1), (16, .iaload, 1), (17, .ireturn, 1)], ftX8)
set_option maxRecDepth 20000 in
theorem zo_X8_parent : ZOK z_X8_parent := ⟨by decide +kernel, ftX8_ok⟩
set_option maxRecDepth 20000 in
theorem k_X8_parent : LKV z_X8_parent 1 := ⟨⟨ALL_at 898 (by decide +kernel) rfl, (inALL_at 31 (by decide +kernel) rfl), by decide +kernel⟩, (inALL_at 896 (by decide +kernel) rfl), (inALL_at 897 (by decide +kernel) rfl)⟩
def z_X8_depth : MZ := (yX8_depth, cX8_depth, 2, (some .int), [(0, .aload_n 0, 1), (1, .iload_n 1, 1), (2, .invokevirtual 132, 3), (5, .aload_n 0, 1), (6, .iload_n 1, 1), (7, .invokevirtual 173, 3), (10, .aload_n 0, 1), (11, .getfield 40, 3), (14, .getfield 142, 3), (17, .iload_n 1, 1), (18, .invokevirtual 176, 3), (21, .ireturn, 1)], ftX8)
set_option maxRecDepth 20000 in
theorem zo_X8_depth : ZOK z_X8_depth := ⟨by decide +kernel, ftX8_ok⟩
set_option maxRecDepth 20000 in
theorem k_X8_depth : LKV z_X8_depth 1 := ⟨⟨ALL_at 902 (by decide +kernel) rfl, (inALL_at 31 (by decide +kernel) rfl), by decide +kernel⟩, (inALL_at 900 (by decide +kernel) rfl), (inALL_at 901 (by decide +kernel) rfl)⟩
def z_X0_ancestors : MZ := (yX0_ancestors, cX0_ancestors, 4, (some .int), [(0, .iconst 0, 1), (1, .istore_n 2, 1), (2, .iload_n 1, 1), (3, .istore_n 3, 1), (4, .iload_n 2, 1), (5, .bipush 40, 2), (7, .if_icmp .ge 35, 3), (10, .iload_n 3, 1), (11, .invokestatic 41, 3), (14, .ifCond .eq 28, 3), (17, .aload_n 0, 1), (18, .getfield 21, 3), (21, .iload_n 3, 1), (22, .iaload, 1), (23, .invokestatic 41, 3), (26, .ifCond .eq 16, 3), (29, .aload_n 0, 1), (30, .getfield 21, 3), (33, .iload_n 3, 1), (34, .iaload, 1), (35, .istore_n 3, 1), (36, .iinc 2 1, 3), (39, .goto (-35), 3), (42, .iload_n 2, 1), (43, .ireturn, 1)], ftX0)
set_option maxRecDepth 20000 in
theorem zo_X0_ancestors : ZOK z_X0_ancestors := ⟨by decide +kernel, ftX0_ok⟩
set_option maxRecDepth 20000 in
theorem k_X0_ancestors : LKV z_X0_ancestors 1 := ⟨⟨ALL_at 906 (by decide +kernel) rfl, (inALL_at 37 (by decide +kernel) rfl), by decide +kernel⟩, (inALL_at 904 (by decide +kernel) rfl), (inALL_at 905 (by decide +kernel) rfl)⟩
def z_X8_size : MZ := (yX8_size, cX8_size, 2, (some .int), [(0, .aload_n 0, 1), (1, .iload_n 1, 1), (2, .invokevirtual 122, 3), (5, .aload_n 0, 1), (6, .getfield 40, 3), (9, .iload_n 1, 1), (10, .invokevirtual 182, 3), (13, .ireturn, 1)], ftX8)
set_option maxRecDepth 20000 in
theorem zo_X8_size : ZOK z_X8_size := ⟨by decide +kernel, ftX8_ok⟩
set_option maxRecDepth 20000 in
theorem k_X8_size : LKV z_X8_size 1 := ⟨⟨ALL_at 910 (by decide +kernel) rfl, (inALL_at 31 (by decide +kernel) rfl), by decide +kernel⟩, (inALL_at 908 (by decide +kernel) rfl), (inALL_at 909 (by decide +kernel) rfl)⟩
def z_X8_printedPages : MZ := (yX8_printedPages, cX8_printedPages, 2, (some .int), [(0, .aload_n 0, 1), (1, .iload_n 1, 1), (2, .invokevirtual 122, 3), (5, .aload_n 0, 1), (6, .getfield 40, 3), (9, .getfield 200, 3), (12, .iload_n 1, 1), (13, .iaload, 1), (14, .ireturn, 1)], ftX8)
set_option maxRecDepth 20000 in
theorem zo_X8_printedPages : ZOK z_X8_printedPages := ⟨by decide +kernel, ftX8_ok⟩
set_option maxRecDepth 20000 in
theorem k_X8_printedPages : LKV z_X8_printedPages 1 := ⟨⟨ALL_at 914 (by decide +kernel) rfl, (inALL_at 31 (by decide +kernel) rfl), by decide +kernel⟩, (inALL_at 912 (by decide +kernel) rfl), (inALL_at 913 (by decide +kernel) rfl)⟩
def z_X8_isPaused : MZ := (yX8_isPaused, cX8_isPaused, 2, (some .boolean), [(0, .aload_n 0, 1), (1, .iload_n 1, 1), (2, .invokevirtual 122, 3), (5, .aload_n 0, 1), (6, .getfield 40, 3), (9, .getfield 206, 3), (12, .iload_n 1, 1), (13, .baload, 1), (14, .ireturn, 1)], ftX8)
set_option maxRecDepth 20000 in
theorem zo_X8_isPaused : ZOK z_X8_isPaused := ⟨by decide +kernel, ftX8_ok⟩
set_option maxRecDepth 20000 in
theorem k_X8_isPaused : LKV z_X8_isPaused 1 := ⟨⟨ALL_at 918 (by decide +kernel) rfl, (inALL_at 31 (by decide +kernel) rfl), by decide +kernel⟩, (inALL_at 916 (by decide +kernel) rfl), (inALL_at 917 (by decide +kernel) rfl)⟩
def z_X8_waitingPages : MZ := (yX8_waitingPages, cX8_waitingPages, 2, (some .int), [(0, .aload_n 0, 1), (1, .iload_n 1, 1), (2, .invokevirtual 122, 3), (5, .aload_n 0, 1), (6, .getfield 40, 3), (9, .iload_n 1, 1), (10, .invokevirtual 197, 3), (13, .ireturn, 1)], ftX8)
set_option maxRecDepth 20000 in
theorem zo_X8_waitingPages : ZOK z_X8_waitingPages := ⟨by decide +kernel, ftX8_ok⟩
set_option maxRecDepth 20000 in
theorem k_X8_waitingPages : LKV z_X8_waitingPages 1 := ⟨⟨ALL_at 922 (by decide +kernel) rfl, (inALL_at 31 (by decide +kernel) rfl), by decide +kernel⟩, (inALL_at 920 (by decide +kernel) rfl), (inALL_at 921 (by decide +kernel) rfl)⟩
def z_X7_pagesIn : MZ := (yX7_pagesIn, cX7_pagesIn, 4, (some .int), [(0, .iconst 0, 1), (1, .istore_n 2, 1), (2, .iconst 0, 1), (3, .istore_n 3, 1), (4, .iload_n 3, 1), (5, .aload_n 0, 1), (6, .getfield 18, 3), (9, .if_icmp .ge 34, 3), (12, .iload_n 3, 1), (13, .bipush 40, 2), (15, .if_icmp .ge 28, 3), (18, .aload_n 0, 1), (19, .getfield 32, 3), (22, .iload_n 3, 1), (23, .iaload, 1), (24, .iload_n 1, 1), (25, .if_icmp .ne 12, 3), (28, .iload_n 2, 1), (29, .aload_n 0, 1), (30, .getfield 26, 3), (33, .iload_n 3, 1), (34, .iaload, 1), (35, .iadd, 1), (36, .istore_n 2, 1), (37, .iinc 3 1, 3), (40, .goto (-36), 3), (43, .iload_n 2, 1), (44, .ireturn, 1)], ftX7)
set_option maxRecDepth 20000 in
theorem zo_X7_pagesIn : ZOK z_X7_pagesIn := ⟨by decide +kernel, ftX7_ok⟩
set_option maxRecDepth 20000 in
theorem k_X7_pagesIn : LKV z_X7_pagesIn 1 := ⟨⟨ALL_at 926 (by decide +kernel) rfl, (inALL_at 36 (by decide +kernel) rfl), by decide +kernel⟩, (inALL_at 924 (by decide +kernel) rfl), (inALL_at 925 (by decide +kernel) rfl)⟩
def z_X8_isWaiting : MZ := (yX8_isWaiting, cX8_isWaiting, 2, (some .boolean), [(0, .aload_n 0, 1), (1, .iload_n 1, 1), (2, .invokevirtual 132, 3), (5, .aload_n 0, 1), (6, .getfield 40, 3), (9, .getfield 154, 3), (12, .iload_n 1, 1), (13, .iaload, 1), (14, .ifCond .ne 7, 3), (17, .iconst 1, 1), (18, .goto 4, 3), (21, .iconst 0, 1), (22, .ireturn, 1)], ftX8)
set_option maxRecDepth 20000 in
theorem zo_X8_isWaiting : ZOK z_X8_isWaiting := ⟨by decide +kernel, ftX8_ok⟩
set_option maxRecDepth 20000 in
theorem k_X8_isWaiting : LKV z_X8_isWaiting 1 := ⟨⟨ALL_at 930 (by decide +kernel) rfl, (inALL_at 31 (by decide +kernel) rfl), by decide +kernel⟩, (inALL_at 928 (by decide +kernel) rfl), (inALL_at 929 (by decide +kernel) rfl)⟩
def z_X8_isPrinted : MZ := (yX8_isPrinted, cX8_isPrinted, 2, (some .boolean), [(0, .aload_n 0, 1), (1, .iload_n 1, 1), (2, .invokevirtual 132, 3), (5, .aload_n 0, 1), (6, .getfield 40, 3), (9, .getfield 154, 3), (12, .iload_n 1, 1), (13, .iaload, 1), (14, .iconst 1, 1), (15, .if_icmp .ne 7, 3), (18, .iconst 1, 1), (19, .goto 4, 3), (22, .iconst 0, 1), (23, .ireturn, 1)], ftX8)
set_option maxRecDepth 20000 in
theorem zo_X8_isPrinted : ZOK z_X8_isPrinted := ⟨by decide +kernel, ftX8_ok⟩
set_option maxRecDepth 20000 in
theorem k_X8_isPrinted : LKV z_X8_isPrinted 1 := ⟨⟨ALL_at 934 (by decide +kernel) rfl, (inALL_at 31 (by decide +kernel) rfl), by decide +kernel⟩, (inALL_at 932 (by decide +kernel) rfl), (inALL_at 933 (by decide +kernel) rfl)⟩
def z_X8_isCancelled : MZ := (yX8_isCancelled, cX8_isCancelled, 2, (some .boolean), [(0, .aload_n 0, 1), (1, .iload_n 1, 1), (2, .invokevirtual 132, 3), (5, .aload_n 0, 1), (6, .getfield 40, 3), (9, .getfield 154, 3), (12, .iload_n 1, 1), (13, .iaload, 1), (14, .iconst 2, 1), (15, .if_icmp .ne 7, 3), (18, .iconst 1, 1), (19, .goto 4, 3), (22, .iconst 0, 1), (23, .ireturn, 1)], ftX8)
set_option maxRecDepth 20000 in
theorem zo_X8_isCancelled : ZOK z_X8_isCancelled := ⟨by decide +kernel, ftX8_ok⟩
set_option maxRecDepth 20000 in
theorem k_X8_isCancelled : LKV z_X8_isCancelled 1 := ⟨⟨ALL_at 938 (by decide +kernel) rfl, (inALL_at 31 (by decide +kernel) rfl), by decide +kernel⟩, (inALL_at 936 (by decide +kernel) rfl), (inALL_at 937 (by decide +kernel) rfl)⟩
def z_X8_priority : MZ := (yX8_priority, cX8_priority, 2, (some .int), [(0, .aload_n 0, 1), (1, .iload_n 1, 1), (2, .invokevirtual 132, 3), (5, .aload_n 0, 1), (6, .getfield 40, 3), (9, .getfield 142, 3), (12, .getfield 146, 3), (15, .iload_n 1, 1), (16, .iaload, 1), (17, .ireturn, 1)], ftX8)
set_option maxRecDepth 20000 in
theorem zo_X8_priority : ZOK z_X8_priority := ⟨by decide +kernel, ftX8_ok⟩
set_option maxRecDepth 20000 in
theorem k_X8_priority : LKV z_X8_priority 1 := ⟨⟨ALL_at 942 (by decide +kernel) rfl, (inALL_at 31 (by decide +kernel) rfl), by decide +kernel⟩, (inALL_at 940 (by decide +kernel) rfl), (inALL_at 941 (by decide +kernel) rfl)⟩
def z_X8_pages : MZ := (yX8_pages, cX8_pages, 2, (some .int), [(0, .aload_n 0, 1), (1, .iload_n 1, 1), (2, .invokevirtual 132, 3), (5, .aload_n 0, 1), (6, .getfield 40, 3), (9, .getfield 151, 3), (12, .iload_n 1, 1), (13, .iaload, 1), (14, .ireturn, 1)], ftX8)
set_option maxRecDepth 20000 in
theorem zo_X8_pages : ZOK z_X8_pages := ⟨by decide +kernel, ftX8_ok⟩
set_option maxRecDepth 20000 in
theorem k_X8_pages : LKV z_X8_pages 1 := ⟨⟨ALL_at 946 (by decide +kernel) rfl, (inALL_at 31 (by decide +kernel) rfl), by decide +kernel⟩, (inALL_at 944 (by decide +kernel) rfl), (inALL_at 945 (by decide +kernel) rfl)⟩
def z_X8_ownerOf : MZ := (yX8_ownerOf, cX8_ownerOf, 2, (some .int), [(0, .aload_n 0, 1), (1, .iload_n 1, 1), (2, .invokevirtual 132, 3), (5, .aload_n 0, 1), (6, .getfield 40, 3), (9, .getfield 139, 3), (12, .iload_n 1, 1), (13, .iaload, 1), (14, .ireturn, 1)], ftX8)
set_option maxRecDepth 20000 in
theorem zo_X8_ownerOf : ZOK z_X8_ownerOf := ⟨by decide +kernel, ftX8_ok⟩
set_option maxRecDepth 20000 in
theorem k_X8_ownerOf : LKV z_X8_ownerOf 1 := ⟨⟨ALL_at 950 (by decide +kernel) rfl, (inALL_at 31 (by decide +kernel) rfl), by decide +kernel⟩, (inALL_at 948 (by decide +kernel) rfl), (inALL_at 949 (by decide +kernel) rfl)⟩
def z_X8_queueOf : MZ := (yX8_queueOf, cX8_queueOf, 2, (some .int), [(0, .aload_n 0, 1), (1, .iload_n 1, 1), (2, .invokevirtual 132, 3), (5, .aload_n 0, 1), (6, .getfield 40, 3), (9, .getfield 135, 3), (12, .iload_n 1, 1), (13, .iaload, 1), (14, .ireturn, 1)], ftX8)
set_option maxRecDepth 20000 in
theorem zo_X8_queueOf : ZOK z_X8_queueOf := ⟨by decide +kernel, ftX8_ok⟩
set_option maxRecDepth 20000 in
theorem k_X8_queueOf : LKV z_X8_queueOf 1 := ⟨⟨ALL_at 954 (by decide +kernel) rfl, (inALL_at 31 (by decide +kernel) rfl), by decide +kernel⟩, (inALL_at 952 (by decide +kernel) rfl), (inALL_at 953 (by decide +kernel) rfl)⟩
def z_X8_positionOf : MZ := (yX8_positionOf, cX8_positionOf, 2, (some .int), [(0, .aload_n 0, 1), (1, .iload_n 1, 1), (2, .invokevirtual 132, 3), (5, .aload_n 0, 1), (6, .iload_n 1, 1), (7, .invokevirtual 173, 3), (10, .aload_n 0, 1), (11, .getfield 40, 3), (14, .iload_n 1, 1), (15, .aload_n 0, 1), (16, .getfield 40, 3), (19, .getfield 142, 3), (22, .getfield 146, 3), (25, .iload_n 1, 1), (26, .iaload, 1), (27, .invokevirtual 188, 3), (30, .ireturn, 1)], ftX8)
set_option maxRecDepth 20000 in
theorem zo_X8_positionOf : ZOK z_X8_positionOf := ⟨by decide +kernel, ftX8_ok⟩
set_option maxRecDepth 20000 in
theorem k_X8_positionOf : LKV z_X8_positionOf 1 := ⟨⟨ALL_at 962 (by decide +kernel) rfl, (inALL_at 31 (by decide +kernel) rfl), by decide +kernel⟩, (inALL_at 960 (by decide +kernel) rfl), (inALL_at 961 (by decide +kernel) rfl)⟩
def z_X8_jobAt : MZ := (yX8_jobAt, cX8_jobAt, 5, (some .int), [(0, .aload_n 0, 1), (1, .iload_n 1, 1), (2, .invokevirtual 122, 3), (5, .iload_n 2, 1), (6, .ifCond .lt 15, 3), (9, .iload_n 2, 1), (10, .aload_n 0, 1), (11, .getfield 40, 3), (14, .iload_n 1, 1), (15, .invokevirtual 182, 3), (18, .if_icmp .lt 5, 3), (21, .iconst (-1), 1), (22, .ireturn, 1), (23, .aload_n 0, 1), (24, .getfield 40, 3), (27, .iload_n 1, 1), (28, .iconst (-1), 1), (29, .invokevirtual 185, 3), (32, .istore_n 3, 1), (33, .iconst 0, 1), (34, .istore 4, 2), (36, .iload 4, 2), (38, .iload_n 2, 1), (39, .if_icmp .ge 19, 3), (42, .aload_n 0, 1), (43, .getfield 40, 3), (46, .iload_n 1, 1), (47, .iload_n 3, 1), (48, .invokevirtual 185, 3), (51, .istore_n 3, 1), (52, .iinc 4 1, 3), (55, .goto (-19), 3), (58, .iload_n 3, 1), (59, .ireturn, 1)], ftX8)
set_option maxRecDepth 20000 in
theorem zo_X8_jobAt : ZOK z_X8_jobAt := ⟨by decide +kernel, ftX8_ok⟩
set_option maxRecDepth 20000 in
theorem k_X8_jobAt : LKV z_X8_jobAt 2 := ⟨⟨ALL_at 970 (by decide +kernel) rfl, (inALL_at 31 (by decide +kernel) rfl), by decide +kernel⟩, (inALL_at 968 (by decide +kernel) rfl), (inALL_at 969 (by decide +kernel) rfl)⟩
def z_X7_firstAfter : MZ := (yX7_firstAfter, cX7_firstAfter, 6, (some .int), [(0, .iconst (-1), 1), (1, .istore_n 3, 1), (2, .iconst 0, 1), (3, .istore 4, 2), (5, .iload 4, 2), (7, .aload_n 0, 1), (8, .getfield 18, 3), (11, .if_icmp .ge 78, 3), (14, .iload 4, 2), (16, .bipush 40, 2), (18, .if_icmp .ge 71, 3), (21, .aload_n 0, 1), (22, .getfield 32, 3), (25, .iload 4, 2), (27, .iaload, 1), (28, .iload_n 1, 1), (29, .if_icmp .ne 25, 3), (32, .iload_n 2, 1), (33, .iconst (-1), 1), (34, .if_icmp .eq 16, 3), (37, .aload_n 0, 1), (38, .getfield 12, 3), (41, .iload_n 2, 1), (42, .iload 4, 2), (44, .invokevirtual 90, 3), (47, .ifCond .eq 7, 3), (50, .iconst 1, 1), (51, .goto 4, 3), (54, .iconst 0, 1), (55, .istore 5, 2), (57, .iload 5, 2), (59, .ifCond .eq 24, 3), (62, .iload_n 3, 1), (63, .iconst (-1), 1), (64, .if_icmp .eq 16, 3), (67, .aload_n 0, 1), (68, .getfield 12, 3), (71, .iload 4, 2), (73, .iload_n 3, 1), (74, .invokevirtual 90, 3), (77, .ifCond .eq 6, 3), (80, .iload 4, 2), (82, .istore_n 3, 1), (83, .iinc 4 1, 3), (86, .goto (-81), 3), (89, .iload_n 3, 1), (90, .ireturn, 1)], ftX7)
set_option maxRecDepth 20000 in
theorem zo_X7_firstAfter : ZOK z_X7_firstAfter := ⟨by decide +kernel, ftX7_ok⟩
set_option maxRecDepth 20000 in
theorem k_X7_firstAfter : LKV z_X7_firstAfter 2 := ⟨⟨ALL_at 974 (by decide +kernel) rfl, (inALL_at 36 (by decide +kernel) rfl), by decide +kernel⟩, (inALL_at 972 (by decide +kernel) rfl), (inALL_at 973 (by decide +kernel) rfl)⟩
def z_X8_pagesBefore : MZ := (yX8_pagesBefore, cX8_pagesBefore, 2, (some .int), [(0, .aload_n 0, 1), (1, .iload_n 1, 1), (2, .invokevirtual 132, 3), (5, .aload_n 0, 1), (6, .iload_n 1, 1), (7, .invokevirtual 173, 3), (10, .aload_n 0, 1), (11, .getfield 40, 3), (14, .iload_n 1, 1), (15, .invokevirtual 191, 3), (18, .ireturn, 1)], ftX8)
set_option maxRecDepth 20000 in
theorem zo_X8_pagesBefore : ZOK z_X8_pagesBefore := ⟨by decide +kernel, ftX8_ok⟩
set_option maxRecDepth 20000 in
theorem k_X8_pagesBefore : LKV z_X8_pagesBefore 1 := ⟨⟨ALL_at 979 (by decide +kernel) rfl, (inALL_at 31 (by decide +kernel) rfl), by decide +kernel⟩, (inALL_at 977 (by decide +kernel) rfl), (inALL_at 978 (by decide +kernel) rfl)⟩
def z_X7_pagesAhead : MZ := (yX7_pagesAhead, cX7_pagesAhead, 4, (some .int), [(0, .aload_n 0, 1), (1, .iload_n 1, 1), (2, .invokevirtual 60, 3), (5, .ifCond .ne 5, 3), (8, .iconst 0, 1), (9, .ireturn, 1), (10, .iconst 0, 1), (11, .istore_n 2, 1), (12, .iconst 0, 1), (13, .istore_n 3, 1), (14, .iload_n 3, 1), (15, .aload_n 0, 1), (16, .getfield 18, 3), (19, .if_icmp .ge 51, 3), (22, .iload_n 3, 1), (23, .bipush 40, 2), (25, .if_icmp .ge 45, 3), (28, .aload_n 0, 1), (29, .getfield 32, 3), (32, .iload_n 3, 1), (33, .iaload, 1), (34, .aload_n 0, 1), (35, .getfield 32, 3), (38, .iload_n 1, 1), (39, .iaload, 1), (40, .if_icmp .ne 24, 3), (43, .aload_n 0, 1), (44, .getfield 12, 3), (47, .iload_n 3, 1), (48, .iload_n 1, 1), (49, .invokevirtual 90, 3), (52, .ifCond .eq 12, 3), (55, .iload_n 2, 1), (56, .aload_n 0, 1), (57, .getfield 26, 3), (60, .iload_n 3, 1), (61, .iaload, 1), (62, .iadd, 1), (63, .istore_n 2, 1), (64, .iinc 3 1, 3), (67, .goto (-53), 3), (70, .iload_n 2, 1), (71, .ireturn, 1)], ftX7)
set_option maxRecDepth 20000 in
theorem zo_X7_pagesAhead : ZOK z_X7_pagesAhead := ⟨by decide +kernel, ftX7_ok⟩
set_option maxRecDepth 20000 in
theorem k_X7_pagesAhead : LKV z_X7_pagesAhead 1 := ⟨⟨ALL_at 983 (by decide +kernel) rfl, (inALL_at 36 (by decide +kernel) rfl), by decide +kernel⟩, (inALL_at 981 (by decide +kernel) rfl), (inALL_at 982 (by decide +kernel) rfl)⟩
def z_X8_minutesUntilPrinted : MZ := (yX8_minutesUntilPrinted, cX8_minutesUntilPrinted, 2, (some .int), [(0, .aload_n 0, 1), (1, .iload_n 1, 1), (2, .invokevirtual 132, 3), (5, .aload_n 0, 1), (6, .iload_n 1, 1), (7, .invokevirtual 173, 3), (10, .aload_n 0, 1), (11, .getfield 57, 3), (14, .aload_n 0, 1), (15, .getfield 40, 3), (18, .getfield 135, 3), (21, .iload_n 1, 1), (22, .iaload, 1), (23, .aload_n 0, 1), (24, .getfield 40, 3), (27, .iload_n 1, 1), (28, .invokevirtual 191, 3), (31, .aload_n 0, 1), (32, .getfield 40, 3), (35, .getfield 151, 3), (38, .iload_n 1, 1), (39, .iaload, 1), (40, .iadd, 1), (41, .invokevirtual 194, 3), (44, .ireturn, 1)], ftX8)
set_option maxRecDepth 20000 in
theorem zo_X8_minutesUntilPrinted : ZOK z_X8_minutesUntilPrinted := ⟨by decide +kernel, ftX8_ok⟩
set_option maxRecDepth 20000 in
theorem k_X8_minutesUntilPrinted : LKV z_X8_minutesUntilPrinted 1 := ⟨⟨ALL_at 987 (by decide +kernel) rfl, (inALL_at 31 (by decide +kernel) rfl), by decide +kernel⟩, (inALL_at 985 (by decide +kernel) rfl), (inALL_at 986 (by decide +kernel) rfl)⟩
def z_X6_minutes : MZ := (yX6_minutes, cX6_minutes, 4, (some .int), [(0, .iload_n 1, 1), (1, .ifCond .lt 18, 3), (4, .iload_n 1, 1), (5, .bipush 6, 2), (7, .if_icmp .ge 12, 3), (10, .aload_n 0, 1), (11, .getfield 21, 3), (14, .iload_n 1, 1), (15, .iaload, 1), (16, .goto 4, 3), (19, .iconst 0, 1), (20, .istore_n 3, 1), (21, .iload_n 3, 1), (22, .ifCond .le 13, 3), (25, .iload_n 2, 1), (26, .iload_n 3, 1), (27, .iadd, 1), (28, .iconst 1, 1), (29, .isub, 1), (30, .iload_n 3, 1), (31, .idiv, 1), (32, .goto 4, 3), (35, .iconst 0, 1), (36, .ireturn, 1)], ftX6)
set_option maxRecDepth 20000 in
theorem zo_X6_minutes : ZOK z_X6_minutes := ⟨by decide +kernel, ftX6_ok⟩
set_option maxRecDepth 20000 in
theorem k_X6_minutes : LKV z_X6_minutes 2 := ⟨⟨ALL_at 991 (by decide +kernel) rfl, (inALL_at 38 (by decide +kernel) rfl), by decide +kernel⟩, (inALL_at 989 (by decide +kernel) rfl), (inALL_at 990 (by decide +kernel) rfl)⟩
def z_X8_isConsistent : MZ := (yX8_isConsistent, cX8_isConsistent, 2, (some .boolean), [(0, .iconst 0, 1), (1, .istore_n 1, 1), (2, .iload_n 1, 1), (3, .aload_n 0, 1), (4, .getfield 40, 3), (7, .getfield 89, 3), (10, .if_icmp .ge 28, 3), (13, .iload_n 1, 1), (14, .bipush 40, 2), (16, .if_icmp .ge 22, 3), (19, .aload_n 0, 1), (20, .getfield 40, 3), (23, .iload_n 1, 1), (24, .invokevirtual 248, 3), (27, .ifCond .ne 5, 3), (30, .iconst 0, 1), (31, .ireturn, 1), (32, .iinc 1 1, 3), (35, .goto (-33), 3), (38, .aload_n 0, 1), (39, .getfield 44, 3), (42, .aload_n 0, 1), (43, .getfield 40, 3), (46, .invokevirtual 251, 3), (49, .iconst 0, 1), (50, .istore_n 1, 1), (51, .iload_n 1, 1), (52, .aload_n 0, 1), (53, .getfield 57, 3), (56, .getfield 112, 3), (59, .getfield 116, 3), (62, .if_icmp .ge 29, 3), (65, .aload_n 0, 1), (66, .getfield 40, 3), (69, .iload_n 1, 1), (70, .aload_n 0, 1), (71, .getfield 44, 3), (74, .getfield 142, 3), (77, .invokevirtual 254, 3), (80, .ifCond .ne 5, 3), (83, .iconst 0, 1), (84, .ireturn, 1), (85, .iinc 1 1, 3), (88, .goto (-37), 3), (91, .iconst 1, 1), (92, .ireturn, 1)], ftX8)
set_option maxRecDepth 20000 in
theorem zo_X8_isConsistent : ZOK z_X8_isConsistent := ⟨by decide +kernel, ftX8_ok⟩
set_option maxRecDepth 20000 in
theorem k_X8_isConsistent : LKV z_X8_isConsistent 0 := ⟨⟨ALL_at 995 (by decide +kernel) rfl, (inALL_at 31 (by decide +kernel) rfl), by decide +kernel⟩, (inALL_at 993 (by decide +kernel) rfl), (inALL_at 994 (by decide +kernel) rfl)⟩
def z_X7_isSound : MZ := (yX7_isSound, cX7_isSound, 3, (some .boolean), [(0, .aload_n 0, 1), (1, .iload_n 1, 1), (2, .invokevirtual 60, 3), (5, .ifCond .ne 60, 3), (8, .aload_n 0, 1), (9, .getfield 29, 3), (12, .iload_n 1, 1), (13, .iaload, 1), (14, .iconst 1, 1), (15, .if_icmp .eq 13, 3), (18, .aload_n 0, 1), (19, .getfield 29, 3), (22, .iload_n 1, 1), (23, .iaload, 1), (24, .iconst 2, 1), (25, .if_icmp .ne 7, 3), (28, .iconst 1, 1), (29, .goto 4, 3), (32, .iconst 0, 1), (33, .istore_n 2, 1), (34, .iload_n 2, 1), (35, .ifCond .eq 28, 3), (38, .aload_n 0, 1), (39, .getfield 32, 3), (42, .iload_n 1, 1), (43, .iaload, 1), (44, .iconst (-1), 1), (45, .if_icmp .ne 18, 3), (48, .aload_n 0, 1), (49, .getfield 12, 3), (52, .iload_n 1, 1), (53, .invokevirtual 98, 3), (56, .ifCond .eq 7, 3), (59, .iconst 1, 1), (60, .goto 4, 3), (63, .iconst 0, 1), (64, .ireturn, 1), (65, .aload_n 0, 1), (66, .getfield 35, 3), (69, .aload_n 0, 1), (70, .getfield 32, 3), (73, .iload_n 1, 1), (74, .iaload, 1), (75, .iaload, 1), (76, .iload_n 1, 1), (77, .if_icmp .ne 7, 3), (80, .iconst 1, 1), (81, .goto 4, 3), (84, .iconst 0, 1), (85, .istore_n 2, 1), (86, .aload_n 0, 1), (87, .getfield 12, 3), (90, .iload_n 1, 1), (91, .invokevirtual 101, 3), (94, .ifCond .eq 29, 3), (97, .iload_n 2, 1), (98, .aload_n 0, 1), (99, .getfield 12, 3), (102, .getfield 104, 3), (105, .iload_n 1, 1), (106, .iaload, 1), (107, .iconst (-1), 1), (108, .if_icmp .ne 7, 3), (111, .iconst 1, 1), (112, .goto 4, 3), (115, .iconst 0, 1), (116, .if_icmp .ne 7, 3), (119, .iconst 1, 1), (120, .goto 4, 3), (123, .iconst 0, 1), (124, .ireturn, 1)], ftX7)
set_option maxRecDepth 20000 in
theorem zo_X7_isSound : ZOK z_X7_isSound := ⟨by decide +kernel, ftX7_ok⟩
set_option maxRecDepth 20000 in
theorem k_X7_isSound : LKV z_X7_isSound 1 := ⟨⟨ALL_at 999 (by decide +kernel) rfl, (inALL_at 36 (by decide +kernel) rfl), by decide +kernel⟩, (inALL_at 997 (by decide +kernel) rfl), (inALL_at 998 (by decide +kernel) rfl)⟩
def z_X0_isOutside : MZ := (yX0_isOutside, cX0_isOutside, 2, (some .boolean), [(0, .iload_n 1, 1), (1, .invokestatic 41, 3), (4, .ifCond .eq 46, 3), (7, .aload_n 0, 1), (8, .getfield 15, 3), (11, .iload_n 1, 1), (12, .iaload, 1), (13, .iconst (-1), 1), (14, .if_icmp .ne 36, 3), (17, .aload_n 0, 1), (18, .getfield 18, 3), (21, .iload_n 1, 1), (22, .iaload, 1), (23, .iconst (-1), 1), (24, .if_icmp .ne 26, 3), (27, .aload_n 0, 1), (28, .getfield 21, 3), (31, .iload_n 1, 1), (32, .iaload, 1), (33, .iconst (-1), 1), (34, .if_icmp .ne 16, 3), (37, .aload_n 0, 1), (38, .getfield 24, 3), (41, .iload_n 1, 1), (42, .iaload, 1), (43, .ifCond .ne 7, 3), (46, .iconst 1, 1), (47, .goto 4, 3), (50, .iconst 0, 1), (51, .ireturn, 1)], ftX0)
set_option maxRecDepth 20000 in
theorem zo_X0_isOutside : ZOK z_X0_isOutside := ⟨by decide +kernel, ftX0_ok⟩
set_option maxRecDepth 20000 in
theorem k_X0_isOutside : LKV z_X0_isOutside 1 := ⟨⟨ALL_at 1003 (by decide +kernel) rfl, (inALL_at 37 (by decide +kernel) rfl), by decide +kernel⟩, (inALL_at 1001 (by decide +kernel) rfl), (inALL_at 1002 (by decide +kernel) rfl)⟩
def z_X0_isSound : MZ := (yX0_isSound, cX0_isSound, 2, (some .boolean), [(0, .iload_n 1, 1), (1, .invokestatic 41, 3), (4, .ifCond .eq 17, 3), (7, .aload_n 0, 1), (8, .iload_n 1, 1), (9, .aload_n 0, 1), (10, .getfield 21, 3), (13, .iload_n 1, 1), (14, .iaload, 1), (15, .invokevirtual 53, 3), (18, .ifCond .eq 5, 3), (21, .iconst 0, 1), (22, .ireturn, 1), (23, .aload_n 0, 1), (24, .aload_n 0, 1), (25, .getfield 15, 3), (28, .iload_n 1, 1), (29, .iaload, 1), (30, .iload_n 1, 1), (31, .invokevirtual 77, 3), (34, .ifCond .eq 107, 3), (37, .aload_n 0, 1), (38, .aload_n 0, 1), (39, .getfield 18, 3), (42, .iload_n 1, 1), (43, .iaload, 1), (44, .iload_n 1, 1), (45, .invokevirtual 77, 3), (48, .ifCond .eq 93, 3), (51, .aload_n 0, 1), (52, .aload_n 0, 1), (53, .getfield 15, 3), (56, .iload_n 1, 1), (57, .iaload, 1), (58, .invokevirtual 64, 3), (61, .aload_n 0, 1), (62, .aload_n 0, 1), (63, .getfield 18, 3), (66, .iload_n 1, 1), (67, .iaload, 1), (68, .invokevirtual 64, 3), (71, .if_icmp .lt 70, 3), (74, .aload_n 0, 1), (75, .getfield 24, 3), (78, .iload_n 1, 1), (79, .iaload, 1), (80, .iconst 1, 1), (81, .aload_n 0, 1), (82, .aload_n 0, 1), (83, .getfield 18, 3), (86, .iload_n 1, 1), (87, .iaload, 1), (88, .invokevirtual 64, 3), (91, .iadd, 1), (92, .if_icmp .ne 49, 3), (95, .aload_n 0, 1), (96, .getfield 21, 3), (99, .iload_n 1, 1), (100, .iaload, 1), (101, .invokestatic 41, 3), (104, .ifCond .eq 33, 3), (107, .aload_n 0, 1), (108, .getfield 15, 3), (111, .aload_n 0, 1), (112, .getfield 21, 3), (115, .iload_n 1, 1), (116, .iaload, 1), (117, .iaload, 1), (118, .iload_n 1, 1), (119, .if_icmp .eq 18, 3), (122, .aload_n 0, 1), (123, .getfield 18, 3), (126, .aload_n 0, 1), (127, .getfield 21, 3), (130, .iload_n 1, 1), (131, .iaload, 1), (132, .iaload, 1), (133, .iload_n 1, 1), (134, .if_icmp .ne 7, 3), (137, .iconst 1, 1), (138, .goto 4, 3), (141, .iconst 0, 1), (142, .ireturn, 1)], ftX0)
set_option maxRecDepth 20000 in
theorem zo_X0_isSound : ZOK z_X0_isSound := ⟨by decide +kernel, ftX0_ok⟩
set_option maxRecDepth 20000 in
theorem k_X0_isSound : LKV z_X0_isSound 1 := ⟨⟨ALL_at 1007 (by decide +kernel) rfl, (inALL_at 37 (by decide +kernel) rfl), by decide +kernel⟩, (inALL_at 1005 (by decide +kernel) rfl), (inALL_at 1006 (by decide +kernel) rfl)⟩
def z_X0_isChildOf : MZ := (yX0_isChildOf, cX0_isChildOf, 3, (some .boolean), [(0, .iload_n 1, 1), (1, .invokestatic 41, 3), (4, .ifCond .eq 13, 3), (7, .aload_n 0, 1), (8, .getfield 21, 3), (11, .iload_n 1, 1), (12, .iaload, 1), (13, .iload_n 2, 1), (14, .if_icmp .ne 7, 3), (17, .iconst 1, 1), (18, .goto 4, 3), (21, .iconst 0, 1), (22, .ireturn, 1)], ftX0)
set_option maxRecDepth 20000 in
theorem zo_X0_isChildOf : ZOK z_X0_isChildOf := ⟨by decide +kernel, ftX0_ok⟩
set_option maxRecDepth 20000 in
theorem k_X0_isChildOf : LKV z_X0_isChildOf 2 := ⟨⟨ALL_at 1011 (by decide +kernel) rfl, (inALL_at 37 (by decide +kernel) rfl), by decide +kernel⟩, (inALL_at 1010 (by decide +kernel) rfl), (inALL_at 29 (by decide +kernel) rfl)⟩
def z_X7_empties : MZ := (yX7_empties, cX7_empties, 6, (some .boolean), [(0, .iload_n 1, 1), (1, .invokestatic 56, 3), (4, .ifCond .ne 5, 3), (7, .iconst 0, 1), (8, .ireturn, 1), (9, .aload_n 0, 1), (10, .getfield 35, 3), (13, .iload_n 1, 1), (14, .iaload, 1), (15, .istore_n 3, 1), (16, .aload_n 0, 1), (17, .iload_n 1, 1), (18, .iconst (-1), 1), (19, .invokevirtual 107, 3), (22, .istore 4, 2), (24, .iconst 0, 1), (25, .istore 5, 2), (27, .iload 5, 2), (29, .bipush 40, 2), (31, .if_icmp .ge 36, 3), (34, .iload_n 3, 1), (35, .iconst (-1), 1), (36, .if_icmp .eq 31, 3), (39, .iload_n 3, 1), (40, .iload 4, 2), (42, .if_icmp .ne 25, 3), (45, .aload_n 2, 1), (46, .iload_n 3, 1), (47, .iload_n 3, 1), (48, .invokevirtual 75, 3), (51, .istore_n 3, 1), (52, .aload_n 0, 1), (53, .iload_n 1, 1), (54, .iload 4, 2), (56, .invokevirtual 107, 3), (59, .istore 4, 2), (61, .iinc 5 1, 3), (64, .goto (-37), 3), (67, .iload_n 3, 1), (68, .iconst (-1), 1), (69, .if_icmp .ne 13, 3), (72, .iload 4, 2), (74, .iconst (-1), 1), (75, .if_icmp .ne 7, 3), (78, .iconst 1, 1), (79, .goto 4, 3), (82, .iconst 0, 1), (83, .ireturn, 1)], ftX7)
set_option maxRecDepth 20000 in
theorem zo_X7_empties : ZOK z_X7_empties := ⟨by decide +kernel, ftX7_ok⟩
set_option maxRecDepth 20000 in
theorem k_X7_empties : LKV z_X7_empties 2 := ⟨⟨ALL_at 1015 (by decide +kernel) rfl, (inALL_at 36 (by decide +kernel) rfl), by decide +kernel⟩, (inALL_at 1013 (by decide +kernel) rfl), (inALL_at 1014 (by decide +kernel) rfl)⟩
theorem l_X0_37 : LKA RX0 37 z_X8_copyRow := Or.inr (by decide +kernel)
set_option maxRecDepth 20000 in
theorem l_X0_41 : LKA RX0 41 z_X0_isNode := Or.inl (inALL_at 465 (by decide +kernel) rfl)
set_option maxRecDepth 20000 in
theorem l_X0_45 : LKA RX0 45 z_X0_comesBefore := Or.inl (inALL_at 480 (by decide +kernel) rfl)
set_option maxRecDepth 20000 in
theorem l_X0_49 : LKA RX0 49 z_X0_unlink := Or.inl (inALL_at 468 (by decide +kernel) rfl)
set_option maxRecDepth 20000 in
theorem l_X0_53 : LKA RX0 53 z_X0_precedes := Or.inl (inALL_at 476 (by decide +kernel) rfl)
set_option maxRecDepth 20000 in
theorem l_X0_57 : LKA RX0 57 z_X0_setAbove := Or.inl (inALL_at 484 (by decide +kernel) rfl)
set_option maxRecDepth 20000 in
theorem l_X0_61 : LKA RX0 61 z_X0_settle := Or.inl (inALL_at 488 (by decide +kernel) rfl)
set_option maxRecDepth 20000 in
theorem l_X0_64 : LKA RX0 64 z_X0_rankOf := Or.inl (inALL_at 492 (by decide +kernel) rfl)
set_option maxRecDepth 20000 in
theorem l_X0_68 : LKA RX0 68 z_X0_merge := Or.inl (inALL_at 749 (by decide +kernel) rfl)
set_option maxRecDepth 20000 in
theorem l_X0_77 : LKA RX0 77 z_X0_isChildOf := Or.inl (inALL_at 1008 (by decide +kernel) rfl)
theorem l_X1_24 : LKA RX1 24 z_X7_init := Or.inr (by decide +kernel)
set_option maxRecDepth 20000 in
theorem l_X1_31 : LKA RX1 31 z_X7_copyFrom := Or.inl (inALL_at 735 (by decide +kernel) rfl)
set_option maxRecDepth 20000 in
theorem l_X4_53 : LKA RX4 53 z_X4_appendByte := Or.inl (inALL_at 329 (by decide +kernel) rfl)
set_option maxRecDepth 20000 in
theorem l_X4_57 : LKA RX4 57 z_X4_readToken := Or.inl (inALL_at 359 (by decide +kernel) rfl)
set_option maxRecDepth 20000 in
theorem l_X4_60 : LKA RX4 60 z_X4_fail := Or.inl (inALL_at 388 (by decide +kernel) rfl)
set_option maxRecDepth 20000 in
theorem l_X4_63 : LKA RX4 63 z_X4_isValid := Or.inl (inALL_at 363 (by decide +kernel) rfl)
set_option maxRecDepth 20000 in
theorem l_X4_67 : LKA RX4 67 z_X4_packed := Or.inl (inALL_at 397 (by decide +kernel) rfl)
set_option maxRecDepth 20000 in
theorem l_X4_71 : LKA RX4 71 z_X4_accepts := Or.inl (inALL_at 409 (by decide +kernel) rfl)
set_option maxRecDepth 20000 in
theorem l_X4_75 : LKA RX4 75 z_X2_find := Or.inl (inALL_at 413 (by decide +kernel) rfl)
set_option maxRecDepth 20000 in
theorem l_X4_81 : LKA RX4 81 z_X4_nextByte := Or.inl (inALL_at 367 (by decide +kernel) rfl)
set_option maxRecDepth 20000 in
theorem l_X4_84 : LKA RX4 84 z_X4_isBlank := Or.inl (inALL_at 371 (by decide +kernel) rfl)
set_option maxRecDepth 20000 in
theorem l_X4_88 : LKA RX4 88 z_X4_isLetter := Or.inl (inALL_at 374 (by decide +kernel) rfl)
set_option maxRecDepth 20000 in
theorem l_X4_91 : LKA RX4 91 z_X4_readWord := Or.inl (inALL_at 377 (by decide +kernel) rfl)
set_option maxRecDepth 20000 in
theorem l_X4_94 : LKA RX4 94 z_X4_isDigit := Or.inl (inALL_at 381 (by decide +kernel) rfl)
set_option maxRecDepth 20000 in
theorem l_X4_97 : LKA RX4 97 z_X4_readDigits := Or.inl (inALL_at 384 (by decide +kernel) rfl)
theorem l_X6_11 : LKA RX6 11 z_X2_init := Or.inr (by decide +kernel)
set_option maxRecDepth 20000 in
theorem l_X6_29 : LKA RX6 29 z_X2_add := Or.inl (inALL_at 430 (by decide +kernel) rfl)
theorem l_X7_11 : LKA RX7 11 z_X0_init := Or.inr (by decide +kernel)
set_option maxRecDepth 20000 in
theorem l_X7_45 : LKA RX7 45 z_X0_clearCounters := Or.inl (inALL_at 347 (by decide +kernel) rfl)
set_option maxRecDepth 20000 in
theorem l_X7_48 : LKA RX7 48 z_X0_copyFrom := Or.inl (inALL_at 504 (by decide +kernel) rfl)
theorem l_X7_52 : LKA RX7 52 z_X8_copyRow := Or.inr (by decide +kernel)
set_option maxRecDepth 20000 in
theorem l_X7_56 : LKA RX7 56 z_X7_isQueue := Or.inl (inALL_at 458 (by decide +kernel) rfl)
set_option maxRecDepth 20000 in
theorem l_X7_60 : LKA RX7 60 z_X7_waits := Or.inl (inALL_at 741 (by decide +kernel) rfl)
set_option maxRecDepth 20000 in
theorem l_X7_63 : LKA RX7 63 z_X7_isFull := Or.inl (inALL_at 457 (by decide +kernel) rfl)
set_option maxRecDepth 20000 in
theorem l_X7_67 : LKA RX7 67 z_X0_plant := Or.inl (inALL_at 461 (by decide +kernel) rfl)
set_option maxRecDepth 20000 in
theorem l_X7_71 : LKA RX7 71 z_X0_merge := Or.inl (inALL_at 472 (by decide +kernel) rfl)
set_option maxRecDepth 20000 in
theorem l_X7_75 : LKA RX7 75 z_X0_takeOut := Or.inl (inALL_at 745 (by decide +kernel) rfl)
set_option maxRecDepth 20000 in
theorem l_X7_90 : LKA RX7 90 z_X0_precedes := Or.inl (inALL_at 975 (by decide +kernel) rfl)
set_option maxRecDepth 20000 in
theorem l_X7_94 : LKA RX7 94 z_X0_comesBefore := Or.inl (inALL_at 848 (by decide +kernel) rfl)
set_option maxRecDepth 20000 in
theorem l_X7_98 : LKA RX7 98 z_X0_isOutside := Or.inl (inALL_at 1000 (by decide +kernel) rfl)
set_option maxRecDepth 20000 in
theorem l_X7_101 : LKA RX7 101 z_X0_isSound := Or.inl (inALL_at 1004 (by decide +kernel) rfl)
set_option maxRecDepth 20000 in
theorem l_X7_107 : LKA RX7 107 z_X7_firstAfter := Or.inl (inALL_at 1016 (by decide +kernel) rfl)
theorem l_X8_9 : LKA RX8 9 z_X4_init := Or.inr (by decide +kernel)
theorem l_X8_18 : LKA RX8 18 z_X5_init := Or.inr (by decide +kernel)
theorem l_X8_25 : LKA RX8 25 z_X3_init := Or.inr (by decide +kernel)
set_option maxRecDepth 20000 in
theorem l_X8_32 : LKA RX8 32 z_X1_init := Or.inl (inALL_at 145 (by decide +kernel) rfl)
theorem l_X8_39 : LKA RX8 39 z_X7_init := Or.inr (by decide +kernel)
theorem l_X8_56 : LKA RX8 56 z_X6_init := Or.inr (by decide +kernel)
set_option maxRecDepth 20000 in
theorem l_X8_66 : LKA RX8 66 z_X4_appendText := Or.inl (inALL_at 277 (by decide +kernel) rfl)
set_option maxRecDepth 20000 in
theorem l_X8_74 : LKA RX8 74 z_X8_readSetup := Or.inl (inALL_at 335 (by decide +kernel) rfl)
set_option maxRecDepth 20000 in
theorem l_X8_78 : LKA RX8 78 z_X8_adoptDraft := Or.inl (inALL_at 496 (by decide +kernel) rfl)
set_option maxRecDepth 20000 in
theorem l_X8_85 : LKA RX8 85 z_X4_appendFourBytes := Or.inl (inALL_at 617 (by decide +kernel) rfl)
set_option maxRecDepth 20000 in
theorem l_X8_95 : LKA RX8 95 z_X1_keep := Or.inl (inALL_at 728 (by decide +kernel) rfl)
set_option maxRecDepth 20000 in
theorem l_X8_122 : LKA RX8 122 z_X8_checkQueue := Or.inl (inALL_at 637 (by decide +kernel) rfl)
set_option maxRecDepth 20000 in
theorem l_X8_129 : LKA RX8 129 z_X8_checkOwner := Or.inl (inALL_at 809 (by decide +kernel) rfl)
set_option maxRecDepth 20000 in
theorem l_X8_132 : LKA RX8 132 z_X8_checkJob := Or.inl (inALL_at 754 (by decide +kernel) rfl)
set_option maxRecDepth 20000 in
theorem l_X8_169 : LKA RX8 169 z_X0_rankOf := Or.inl (inALL_at 894 (by decide +kernel) rfl)
set_option maxRecDepth 20000 in
theorem l_X8_173 : LKA RX8 173 z_X8_checkWaits := Or.inl (inALL_at 759 (by decide +kernel) rfl)
set_option maxRecDepth 20000 in
theorem l_X8_176 : LKA RX8 176 z_X0_ancestors := Or.inl (inALL_at 903 (by decide +kernel) rfl)
set_option maxRecDepth 20000 in
theorem l_X8_182 : LKA RX8 182 z_X7_jobsIn := Or.inl (inALL_at 765 (by decide +kernel) rfl)
set_option maxRecDepth 20000 in
theorem l_X8_185 : LKA RX8 185 z_X7_firstAfter := Or.inl (inALL_at 971 (by decide +kernel) rfl)
set_option maxRecDepth 20000 in
theorem l_X8_188 : LKA RX8 188 z_X7_jobsAhead := Or.inl (inALL_at 844 (by decide +kernel) rfl)
set_option maxRecDepth 20000 in
theorem l_X8_191 : LKA RX8 191 z_X7_pagesAhead := Or.inl (inALL_at 980 (by decide +kernel) rfl)
set_option maxRecDepth 20000 in
theorem l_X8_194 : LKA RX8 194 z_X6_minutes := Or.inl (inALL_at 988 (by decide +kernel) rfl)
set_option maxRecDepth 20000 in
theorem l_X8_197 : LKA RX8 197 z_X7_pagesIn := Or.inl (inALL_at 923 (by decide +kernel) rfl)
set_option maxRecDepth 20000 in
theorem l_X8_213 : LKA RX8 213 z_X7_obstacle := Or.inl (inALL_at 708 (by decide +kernel) rfl)
set_option maxRecDepth 20000 in
theorem l_X8_222 : LKA RX8 222 z_X8_checkTwoQueues := Or.inl (inALL_at 853 (by decide +kernel) rfl)
set_option maxRecDepth 20000 in
theorem l_X8_232 : LKA RX8 232 z_X8_checkPriority := Or.inl (inALL_at 773 (by decide +kernel) rfl)
set_option maxRecDepth 20000 in
theorem l_X8_248 : LKA RX8 248 z_X7_isSound := Or.inl (inALL_at 996 (by decide +kernel) rfl)
set_option maxRecDepth 20000 in
theorem l_X8_251 : LKA RX8 251 z_X7_copyFrom := Or.inl (inALL_at 500 (by decide +kernel) rfl)
set_option maxRecDepth 20000 in
theorem l_X8_254 : LKA RX8 254 z_X7_empties := Or.inl (inALL_at 1012 (by decide +kernel) rfl)
set_option maxRecDepth 20000 in
theorem l_X8_264 : LKA RX8 264 z_X7_isFull := Or.inl (inALL_at 445 (by decide +kernel) rfl)
set_option maxRecDepth 20000 in
theorem l_X8_272 : LKA RX8 272 z_X7_addJob := Or.inl (inALL_at 453 (by decide +kernel) rfl)
set_option maxRecDepth 20000 in
theorem l_X8_278 : LKA RX8 278 z_X7_endJob := Or.inl (inALL_at 737 (by decide +kernel) rfl)
set_option maxRecDepth 20000 in
theorem l_X8_282 : LKA RX8 282 z_X7_insertAgain := Or.inl (inALL_at 792 (by decide +kernel) rfl)
set_option maxRecDepth 20000 in
theorem l_X8_286 : LKA RX8 286 z_X7_canMove := Or.inl (inALL_at 800 (by decide +kernel) rfl)
set_option maxRecDepth 20000 in
theorem l_X8_291 : LKA RX8 291 z_X7_joinQueues := Or.inl (inALL_at 858 (by decide +kernel) rfl)
set_option maxRecDepth 20000 in
theorem l_X8_294 : LKA RX8 294 z_X7_holdQueue := Or.inl (inALL_at 866 (by decide +kernel) rfl)
set_option maxRecDepth 20000 in
theorem l_X8_317 : LKA RX8 317 z_X1_clear := Or.inl (inALL_at 519 (by decide +kernel) rfl)
set_option maxRecDepth 20000 in
theorem l_X8_329 : LKA RX8 329 z_X7_waits := Or.inl (inALL_at 763 (by decide +kernel) rfl)
set_option maxRecDepth 20000 in
theorem l_X8_338 : LKA RX8 338 z_X6_clear := Or.inl (inALL_at 339 (by decide +kernel) rfl)
set_option maxRecDepth 20000 in
theorem l_X8_339 : LKA RX8 339 z_X7_clear := Or.inl (inALL_at 343 (by decide +kernel) rfl)
set_option maxRecDepth 20000 in
theorem l_X8_340 : LKA RX8 340 z_X4_begin := Or.inl (inALL_at 351 (by decide +kernel) rfl)
set_option maxRecDepth 20000 in
theorem l_X8_343 : LKA RX8 343 z_X4_startsStatement := Or.inl (inALL_at 355 (by decide +kernel) rfl)
set_option maxRecDepth 20000 in
theorem l_X8_347 : LKA RX8 347 z_X4_isWord := Or.inl (inALL_at 393 (by decide +kernel) rfl)
set_option maxRecDepth 20000 in
theorem l_X8_351 : LKA RX8 351 z_X8_readQueue := Or.inl (inALL_at 400 (by decide +kernel) rfl)
set_option maxRecDepth 20000 in
theorem l_X8_355 : LKA RX8 355 z_X8_readOwner := Or.inl (inALL_at 435 (by decide +kernel) rfl)
set_option maxRecDepth 20000 in
theorem l_X8_360 : LKA RX8 360 z_X8_readJob := Or.inl (inALL_at 441 (by decide +kernel) rfl)
set_option maxRecDepth 20000 in
theorem l_X8_363 : LKA RX8 363 z_X4_fail := Or.inl (inALL_at 404 (by decide +kernel) rfl)
set_option maxRecDepth 20000 in
theorem l_X8_366 : LKA RX8 366 z_X4_isValid := Or.inl (inALL_at 425 (by decide +kernel) rfl)
set_option maxRecDepth 20000 in
theorem l_X8_369 : LKA RX8 369 z_X4_newName := Or.inl (inALL_at 405 (by decide +kernel) rfl)
set_option maxRecDepth 20000 in
theorem l_X8_373 : LKA RX8 373 z_X4_number := Or.inl (inALL_at 417 (by decide +kernel) rfl)
set_option maxRecDepth 20000 in
theorem l_X8_376 : LKA RX8 376 z_X4_semicolon := Or.inl (inALL_at 421 (by decide +kernel) rfl)
set_option maxRecDepth 20000 in
theorem l_X8_379 : LKA RX8 379 z_X6_addQueue := Or.inl (inALL_at 426 (by decide +kernel) rfl)
set_option maxRecDepth 20000 in
theorem l_X8_383 : LKA RX8 383 z_X2_add := Or.inl (inALL_at 439 (by decide +kernel) rfl)
set_option maxRecDepth 20000 in
theorem l_X8_387 : LKA RX8 387 z_X4_knownName := Or.inl (inALL_at 449 (by decide +kernel) rfl)
set_option maxRecDepth 20000 in
theorem l_X8_391 : LKA RX8 391 z_X0_clearCounters := Or.inl (inALL_at 518 (by decide +kernel) rfl)
