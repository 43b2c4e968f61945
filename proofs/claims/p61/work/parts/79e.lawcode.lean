/-! ===== 79e: the law's code, its words (gen79e.py) ===== -/
def t_W : MC := [(0, .new 46, 3), (3, .dup, 1), (4, .invokespecial 198, 3), (7, .astore_n 1, 1), (8, .new 8, 3), (11, .dup, 1), (12, .invokespecial 199, 3), (15, .astore_n 2, 1), (16, .aload_n 0, 1), (17, .iconst 0, 1), (18, .invokestatic 200, 3), (21, .istore_n 3, 1), (22, .aload_n 2, 1), (23, .iconst 1, 1), (24, .iload_n 3, 1), (25, .iconst 0, 1), (26, .iconst 2, 1), (27, .invokestatic 86, 3), (30, .iadd, 1), (31, .putfield 90, 3), (34, .aload_n 2, 1), (35, .iconst 1, 1), (36, .iload_n 3, 1), (37, .iconst 2, 1), (38, .iconst 2, 1), (39, .invokestatic 86, 3), (42, .iadd, 1), (43, .putfield 97, 3), (46, .new 204, 3), (49, .dup, 1), (50, .invokespecial 206, 3), (53, .astore 4, 2), (55, .iconst 0, 1), (56, .istore 5, 2), (58, .iload 5, 2), (60, .aload_n 2, 1), (61, .getfield 90, 3), (64, .if_icmp .ge 66, 3), (67, .aload_n 2, 1), (68, .getfield 25, 3), (71, .iload 5, 2), (73, .iconst 1, 1), (74, .iload_n 3, 1), (75, .iconst 4, 1), (76, .iconst 4, 1), (77, .iload 5, 2), (79, .imul, 1), (80, .iadd, 1), (81, .iconst 4, 1), (82, .invokestatic 86, 3), (85, .iadd, 1), (86, .iastore, 1), (87, .aload 4, 2), (89, .ldc 207, 2), (91, .invokevirtual 209, 3), (94, .bipush 97, 2), (96, .iload 5, 2), (98, .iadd, 1), (99, .i2c, 1), (100, .invokevirtual 213, 3), (103, .bipush 32, 2), (105, .invokevirtual 213, 3), (108, .aload_n 2, 1), (109, .getfield 25, 3), (112, .iload 5, 2), (114, .iaload, 1), (115, .invokevirtual 216, 3), (118, .bipush 59, 2), (120, .invokevirtual 213, 3), (123, .pop, 1), (124, .iinc 5 1, 3), (127, .goto (-69), 3), (130, .iconst 0, 1), (131, .istore 5, 2), (133, .iload 5, 2), (135, .aload_n 2, 1), (136, .getfield 97, 3), (139, .if_icmp .ge 31, 3), (142, .aload 4, 2), (144, .ldc 219, 2), (146, .invokevirtual 209, 3), (149, .bipush 97, 2), (151, .iload 5, 2), (153, .iadd, 1), (154, .i2c, 1), (155, .invokevirtual 213, 3), (158, .bipush 59, 2), (160, .invokevirtual 213, 3), (163, .pop, 1), (164, .iinc 5 1, 3), (167, .goto (-34), 3), (170, .aload_n 1, 1), (171, .aload 4, 2), (173, .invokevirtual 221, 3), (176, .invokestatic 225, 3), (179, .aload_n 1, 1), (180, .invokevirtual 229, 3), (183, .ifCond .ne 11, 3), (186, .aload_n 2, 1), (187, .aload_n 1, 1), (188, .invokevirtual 232, 3), (191, .ifCond .ne 5, 3), (194, .iconst 0, 1), (195, .ireturn, 1), (196, .iconst 0, 1), (197, .istore 5, 2), (199, .iload 5, 2), (201, .bipush 48, 2), (203, .if_icmp .ge 46, 3), (206, .aload_n 2, 1), (207, .aload_n 1, 1), (208, .aload_n 0, 1), (209, .iconst 1, 1), (210, .iload 5, 2), (212, .iadd, 1), (213, .invokestatic 200, 3), (216, .invokevirtual 236, 3), (219, .ifCond .ne 5, 3), (222, .iconst 0, 1), (223, .ireturn, 1), (224, .iload 5, 2), (226, .bipush 6, 2), (228, .irem, 1), (229, .iconst 5, 1), (230, .if_icmp .ne 13, 3), (233, .aload_n 2, 1), (234, .aload_n 1, 1), (235, .invokevirtual 232, 3), (238, .ifCond .ne 5, 3), (241, .iconst 0, 1), (242, .ireturn, 1), (243, .iinc 5 1, 3), (246, .goto (-47), 3), (249, .iconst 1, 1), (250, .ireturn, 1)]
set_option maxRecDepth 20000 in
theorem d_W : ∀ q ∈ t_W, decode cL_law q.1 = .ok q.2 := by decide +kernel
def z_W (nm : String) : MZ := (⟨RL, nm, "([I)Z"⟩, cL_law, 6, (some .boolean), t_W, ftL)
theorem zo_W (nm : String) : ZOK (z_W nm) := ⟨d_W, ftL_ok⟩
set_option maxRecDepth 20000 in
theorem m_LW_198 : inALL (.methodLink RL 198 (zY z_X8_init)) = true := (inALL_at 60 (by decide +kernel) rfl)
set_option maxRecDepth 20000 in
theorem m_LW_199 : inALL (.methodLink RL 199 (zY z_L_init)) = true := (inALL_at 561 (by decide +kernel) rfl)
set_option maxRecDepth 20000 in
theorem m_LW_200 : inALL (.methodLink RL 200 (zY z_L_cell)) = true := (inALL_at 602 (by decide +kernel) rfl)
set_option maxRecDepth 20000 in
theorem m_LW_206 : inALL (.methodLink RL 206 (zY z_J4_init_da8c8)) = true := (inALL_at 1019 (by decide +kernel) rfl)
set_option maxRecDepth 20000 in
theorem m_LW_209 : inALL (.methodLink RL 209 (zY z_J4_append_15ec4)) = true := (inALL_at 1047 (by decide +kernel) rfl)
set_option maxRecDepth 20000 in
theorem m_LW_213 : inALL (.methodLink RL 213 (zY z_J4_append_cf468)) = true := (inALL_at 1144 (by decide +kernel) rfl)
set_option maxRecDepth 20000 in
theorem m_LW_216 : inALL (.methodLink RL 216 (zY z_J4_append_bf812)) = true := (inALL_at 1157 (by decide +kernel) rfl)
set_option maxRecDepth 20000 in
theorem m_LW_221 : inALL (.methodLink RL 221 (zY z_J4_toString_0e30d)) = true := (inALL_at 1182 (by decide +kernel) rfl)
set_option maxRecDepth 20000 in
theorem m_LW_225 : inALL (.methodLink RL 225 (zY z_L_told)) = true := (inALL_at 608 (by decide +kernel) rfl)
