/-! ===== 75b: tables of the JDK methods behind StringBuilder (gen75b.py) ===== -/
def ftJ5 : List (Nat × Nat × Nat) := [(15, 10, 0), (22, 10, 1), (79, 10, 3)]
theorem ftJ5_ok : ∀ q ∈ ftJ5, okF RJ5 q = true := by decide +kernel
def ftJ0 : List (Nat × Nat × Nat) := [(9, 11, 0), (15, 11, 1), (1048, 10, 2)]
theorem ftJ0_ok : ∀ q ∈ ftJ0, okF RJ0 q = true := by decide +kernel
def z_J4_init_da8c8 : MZ := (yJ4_init_da8c8, cJ4_init_da8c8, 1, none, [(0, .aload_n 0, 1), (1, .bipush 16, 2), (3, .invokespecial 1, 3), (6, .return_, 1)], [])
set_option maxRecDepth 20000 in
theorem zo_J4_init_da8c8 : ZOK z_J4_init_da8c8 := ⟨by decide +kernel, by intro q hq; cases hq⟩
set_option maxRecDepth 20000 in
theorem k_J4_init_da8c8 : LKI z_J4_init_da8c8 0 := ⟨⟨ALL_at 1021 (by decide +kernel) rfl, (inALL_at 47 (by decide +kernel) rfl), by decide +kernel⟩, rfl, rfl, (inALL_at 1020 (by decide +kernel) rfl)⟩
def z_J5_init_d00df : MZ := (yJ5_init_d00df, cJ5_init_d00df, 2, none, [(0, .aload_n 0, 1), (1, .invokespecial 3, 3), (4, .getstatic 18, 3), (7, .ifCond .eq 18, 3), (10, .aload_n 0, 1), (11, .iload_n 1, 1), (12, .newarray .byte, 2), (14, .putfield 15, 3), (17, .aload_n 0, 1), (18, .iconst 0, 1), (19, .putfield 22, 3), (22, .goto 16, 3), (25, .aload_n 0, 1), (26, .iload_n 1, 1), (27, .invokestatic 26, 3), (30, .putfield 15, 3), (33, .aload_n 0, 1), (34, .iconst 1, 1), (35, .putfield 22, 3), (38, .return_, 1)], ftJ5)
set_option maxRecDepth 20000 in
theorem zo_J5_init_d00df : ZOK z_J5_init_d00df := ⟨by decide +kernel, ftJ5_ok⟩
set_option maxRecDepth 20000 in
theorem k_J5_init_d00df : LKI z_J5_init_d00df 1 := ⟨⟨ALL_at 1024 (by decide +kernel) rfl, (inALL_at 46 (by decide +kernel) rfl), by decide +kernel⟩, rfl, rfl, (inALL_at 1023 (by decide +kernel) rfl)⟩
def z_J4_append_15ec4 : MZ := (yJ4_append_15ec4, cJ4_append_15ec4, 2, (some (FieldType.object "java/lang/StringBuilder")), [(0, .aload_n 0, 1), (1, .aload_n 1, 1), (2, .invokespecial 29, 3), (5, .pop, 1), (6, .aload_n 0, 1), (7, .areturn, 1)], [])
set_option maxRecDepth 20000 in
theorem zo_J4_append_15ec4 : ZOK z_J4_append_15ec4 := ⟨by decide +kernel, by intro q hq; cases hq⟩
set_option maxRecDepth 20000 in
theorem k_J4_append_15ec4 : LKV z_J4_append_15ec4 1 := ⟨⟨ALL_at 1050 (by decide +kernel) rfl, (inALL_at 47 (by decide +kernel) rfl), by decide +kernel⟩, (inALL_at 1048 (by decide +kernel) rfl), (inALL_at 1049 (by decide +kernel) rfl)⟩
def z_J5_append_cf1ce : MZ := (yJ5_append_cf1ce, cJ5_append_cf1ce, 3, (some (FieldType.object "java/lang/AbstractStringBuilder")), [(0, .aload_n 1, 1), (1, .ifnonnull 8, 3), (4, .aload_n 0, 1), (5, .invokevirtual 204, 3), (8, .areturn, 1), (9, .aload_n 1, 1), (10, .invokevirtual 32, 3), (13, .istore_n 2, 1), (14, .aload_n 0, 1), (15, .aload_n 0, 1), (16, .getfield 79, 3), (19, .iload_n 2, 1), (20, .iadd, 1), (21, .invokevirtual 100, 3), (24, .aload_n 0, 1), (25, .aload_n 0, 1), (26, .getfield 79, 3), (29, .aload_n 1, 1), (30, .invokevirtual 208, 3), (33, .aload_n 0, 1), (34, .dup, 1), (35, .getfield 79, 3), (38, .iload_n 2, 1), (39, .iadd, 1), (40, .putfield 79, 3), (43, .aload_n 0, 1), (44, .areturn, 1)], ftJ5)
set_option maxRecDepth 20000 in
theorem zo_J5_append_cf1ce : ZOK z_J5_append_cf1ce := ⟨by decide +kernel, ftJ5_ok⟩
set_option maxRecDepth 20000 in
def z_J5_ensureCapacityInternal_d00df : MZ := (yJ5_ensureCapacityInternal_d00df, cJ5_ensureCapacityInternal_d00df, 3, none, [(0, .aload_n 0, 1), (1, .getfield 15, 3), (4, .arraylength, 1), (5, .aload_n 0, 1), (6, .getfield 22, 3), (9, .ishr, 1), (10, .istore_n 2, 1), (11, .iload_n 1, 1), (12, .iload_n 2, 1), (13, .isub, 1), (14, .ifCond .le 24, 3), (17, .aload_n 0, 1), (18, .aload_n 0, 1), (19, .getfield 15, 3), (22, .aload_n 0, 1), (23, .iload_n 1, 1), (24, .invokevirtual 104, 3), (27, .aload_n 0, 1), (28, .getfield 22, 3), (31, .ishl, 1), (32, .invokestatic 108, 3), (35, .putfield 15, 3), (38, .return_, 1)], ftJ5)
set_option maxRecDepth 20000 in
theorem zo_J5_ensureCapacityInternal_d00df : ZOK z_J5_ensureCapacityInternal_d00df := ⟨by decide +kernel, ftJ5_ok⟩
set_option maxRecDepth 20000 in
def z_J5_newCapacity_0f7a4 : MZ := (yJ5_newCapacity_0f7a4, cJ5_newCapacity_0f7a4, 6, (some .int), [(0, .aload_n 0, 1), (1, .getfield 15, 3), (4, .arraylength, 1), (5, .istore_n 2, 1), (6, .iload_n 1, 1), (7, .aload_n 0, 1), (8, .getfield 22, 3), (11, .ishl, 1), (12, .istore_n 3, 1), (13, .iload_n 3, 1), (14, .iload_n 2, 1), (15, .isub, 1), (16, .istore 4, 2), (18, .iload_n 2, 1), (19, .iload 4, 2), (21, .iload_n 2, 1), (22, .iconst 2, 1), (23, .aload_n 0, 1), (24, .getfield 22, 3), (27, .ishl, 1), (28, .iadd, 1), (29, .invokestatic 114, 3), (32, .istore 5, 2), (34, .iload 5, 2), (36, .ldc 39, 2), (38, .if_icmp .ne 13, 3), (41, .new 120, 3), (44, .dup, 1), (45, .ldc 122, 2), (47, .invokespecial 124, 3), (50, .athrow, 1), (51, .iload 5, 2), (53, .aload_n 0, 1), (54, .getfield 22, 3), (57, .ishr, 1), (58, .ireturn, 1)], ftJ5)
set_option maxRecDepth 20000 in
theorem zo_J5_newCapacity_0f7a4 : ZOK z_J5_newCapacity_0f7a4 := ⟨by decide +kernel, ftJ5_ok⟩
set_option maxRecDepth 20000 in
def z_J8_newLength_cabcc : MZ := (yJ8_newLength_cabcc, cJ8_newLength_cabcc, 4, (some .int), [(0, .iload_n 0, 1), (1, .iload_n 1, 1), (2, .iload_n 2, 1), (3, .invokestatic 194, 3), (6, .iadd, 1), (7, .istore_n 3, 1), (8, .iconst 0, 1), (9, .iload_n 3, 1), (10, .if_icmp .ge 11, 3), (13, .iload_n 3, 1), (14, .ldc 200, 2), (16, .if_icmp .gt 5, 3), (19, .iload_n 3, 1), (20, .ireturn, 1), (21, .iload_n 0, 1), (22, .iload_n 1, 1), (23, .invokestatic 201, 3), (26, .ireturn, 1)], [])
set_option maxRecDepth 20000 in
theorem zo_J8_newLength_cabcc : ZOK z_J8_newLength_cabcc := ⟨by decide +kernel, by intro q hq; cases hq⟩
set_option maxRecDepth 20000 in
theorem k_J8_newLength_cabcc : LKS z_J8_newLength_cabcc 3 := ⟨⟨ALL_at 1068 (by decide +kernel) rfl, (inALL_at 48 (by decide +kernel) rfl), by decide +kernel⟩, (inALL_at 1067 (by decide +kernel) rfl)⟩
def z_J7_copyOf_9075b : MZ := (yJ7_copyOf_9075b, cJ7_copyOf_9075b, 3, (some (FieldType.array FieldType.byte)), [(0, .iload_n 1, 1), (1, .aload_n 0, 1), (2, .arraylength, 1), (3, .if_icmp .ne 11, 3), (6, .aload_n 0, 1), (7, .invokevirtual 310, 3), (10, .checkcast 311, 3), (13, .areturn, 1), (14, .iload_n 1, 1), (15, .newarray .byte, 2), (17, .astore_n 2, 1), (18, .aload_n 0, 1), (19, .iconst 0, 1), (20, .aload_n 2, 1), (21, .iconst 0, 1), (22, .aload_n 0, 1), (23, .arraylength, 1), (24, .iload_n 1, 1), (25, .invokestatic 304, 3), (28, .invokestatic 150, 3), (31, .aload_n 2, 1), (32, .areturn, 1)], [])
set_option maxRecDepth 20000 in
theorem zo_J7_copyOf_9075b : ZOK z_J7_copyOf_9075b := ⟨by decide +kernel, by intro q hq; cases hq⟩
set_option maxRecDepth 20000 in
theorem k_J7_copyOf_9075b : LKS z_J7_copyOf_9075b 2 := ⟨⟨ALL_at 1079 (by decide +kernel) rfl, (inALL_at 49 (by decide +kernel) rfl), by decide +kernel⟩, (inALL_at 1078 (by decide +kernel) rfl)⟩
def z_J5_putStringAt_47b60 : MZ := (yJ5_putStringAt_47b60, cJ5_putStringAt_47b60, 3, none, [(0, .aload_n 0, 1), (1, .aload_n 2, 1), (2, .invokevirtual 397, 3), (5, .aload_n 2, 1), (6, .aload_n 0, 1), (7, .getfield 15, 3), (10, .iload_n 1, 1), (11, .aload_n 0, 1), (12, .getfield 22, 3), (15, .invokevirtual 399, 3), (18, .return_, 1)], ftJ5)
set_option maxRecDepth 20000 in
theorem zo_J5_putStringAt_47b60 : ZOK z_J5_putStringAt_47b60 := ⟨by decide +kernel, ftJ5_ok⟩
set_option maxRecDepth 20000 in
def z_J5_inflateIfNeededFor_a7421 : MZ := (yJ5_inflateIfNeededFor_a7421, cJ5_inflateIfNeededFor_a7421, 2, none, [(0, .getstatic 18, 3), (3, .ifCond .eq 18, 3), (6, .aload_n 0, 1), (7, .getfield 22, 3), (10, .aload_n 1, 1), (11, .invokevirtual 40, 3), (14, .if_icmp .eq 7, 3), (17, .aload_n 0, 1), (18, .invokevirtual 195, 3), (21, .return_, 1)], ftJ5)
set_option maxRecDepth 20000 in
theorem zo_J5_inflateIfNeededFor_a7421 : ZOK z_J5_inflateIfNeededFor_a7421 := ⟨by decide +kernel, ftJ5_ok⟩
set_option maxRecDepth 20000 in
def z_J0_getBytes_840e7 : MZ := (yJ0_getBytes_840e7, cJ0_getBytes_840e7, 4, none, [(0, .aload_n 0, 1), (1, .invokevirtual 335, 3), (4, .iload_n 3, 1), (5, .if_icmp .ne 23, 3), (8, .aload_n 0, 1), (9, .getfield 9, 3), (12, .iconst 0, 1), (13, .aload_n 1, 1), (14, .iload_n 2, 1), (15, .iload_n 3, 1), (16, .ishl, 1), (17, .aload_n 0, 1), (18, .getfield 9, 3), (21, .arraylength, 1), (22, .invokestatic 212, 3), (25, .goto 18, 3), (28, .aload_n 0, 1), (29, .getfield 9, 3), (32, .iconst 0, 1), (33, .aload_n 1, 1), (34, .iload_n 2, 1), (35, .aload_n 0, 1), (36, .getfield 9, 3), (39, .arraylength, 1), (40, .invokestatic 106, 3), (43, .return_, 1)], ftJ0)
set_option maxRecDepth 20000 in
theorem zo_J0_getBytes_840e7 : ZOK z_J0_getBytes_840e7 := ⟨by decide +kernel, ftJ0_ok⟩
set_option maxRecDepth 20000 in
theorem k_J0_getBytes_840e7 : LKV z_J0_getBytes_840e7 3 := ⟨⟨ALL_at 1141 (by decide +kernel) rfl, (inALL_at 40 (by decide +kernel) rfl), by decide +kernel⟩, (inALL_at 1139 (by decide +kernel) rfl), (inALL_at 1140 (by decide +kernel) rfl)⟩
def z_J4_append_cf468 : MZ := (yJ4_append_cf468, cJ4_append_cf468, 2, (some (FieldType.object "java/lang/StringBuilder")), [(0, .aload_n 0, 1), (1, .iload_n 1, 1), (2, .invokespecial 50, 3), (5, .pop, 1), (6, .aload_n 0, 1), (7, .areturn, 1)], [])
set_option maxRecDepth 20000 in
theorem zo_J4_append_cf468 : ZOK z_J4_append_cf468 := ⟨by decide +kernel, by intro q hq; cases hq⟩
set_option maxRecDepth 20000 in
theorem k_J4_append_cf468 : LKV z_J4_append_cf468 1 := ⟨⟨ALL_at 1147 (by decide +kernel) rfl, (inALL_at 47 (by decide +kernel) rfl), by decide +kernel⟩, (inALL_at 1145 (by decide +kernel) rfl), (inALL_at 1146 (by decide +kernel) rfl)⟩
def z_J5_append_3fe6f : MZ := (yJ5_append_3fe6f, cJ5_append_3fe6f, 2, (some (FieldType.object "java/lang/AbstractStringBuilder")), [(0, .aload_n 0, 1), (1, .aload_n 0, 1), (2, .getfield 79, 3), (5, .iconst 1, 1), (6, .iadd, 1), (7, .invokevirtual 100, 3), (10, .aload_n 0, 1), (11, .invokevirtual 83, 3), (14, .ifCond .eq 31, 3), (17, .iload_n 1, 1), (18, .invokestatic 191, 3), (21, .ifCond .eq 24, 3), (24, .aload_n 0, 1), (25, .getfield 15, 3), (28, .aload_n 0, 1), (29, .dup, 1), (30, .getfield 79, 3), (33, .dup_x1, 1), (34, .iconst 1, 1), (35, .iadd, 1), (36, .putfield 79, 3), (39, .iload_n 1, 1), (40, .i2b, 1), (41, .bastore, 1), (42, .goto 33, 3), (45, .aload_n 0, 1), (46, .invokevirtual 83, 3), (49, .ifCond .eq 7, 3), (52, .aload_n 0, 1), (53, .invokevirtual 195, 3), (56, .aload_n 0, 1), (57, .getfield 15, 3), (60, .aload_n 0, 1), (61, .dup, 1), (62, .getfield 79, 3), (65, .dup_x1, 1), (66, .iconst 1, 1), (67, .iadd, 1), (68, .putfield 79, 3), (71, .iload_n 1, 1), (72, .invokestatic 197, 3), (75, .aload_n 0, 1), (76, .areturn, 1)], ftJ5)
set_option maxRecDepth 20000 in
theorem zo_J5_append_3fe6f : ZOK z_J5_append_3fe6f := ⟨by decide +kernel, ftJ5_ok⟩
set_option maxRecDepth 20000 in
def z_J5_isLatin1_aae02 : MZ := (yJ5_isLatin1_aae02, cJ5_isLatin1_aae02, 1, (some .boolean), [(0, .getstatic 18, 3), (3, .ifCond .eq 14, 3), (6, .aload_n 0, 1), (7, .getfield 22, 3), (10, .ifCond .ne 7, 3), (13, .iconst 1, 1), (14, .goto 4, 3), (17, .iconst 0, 1), (18, .ireturn, 1)], ftJ5)
set_option maxRecDepth 20000 in
theorem zo_J5_isLatin1_aae02 : ZOK z_J5_isLatin1_aae02 := ⟨by decide +kernel, ftJ5_ok⟩
set_option maxRecDepth 20000 in
def z_J1_canEncode_fc78d : MZ := (yJ1_canEncode_fc78d, cJ1_canEncode_fc78d, 1, (some .boolean), [(0, .iload_n 0, 1), (1, .sipush 255, 3), (4, .if_icmp .gt 7, 3), (7, .iconst 1, 1), (8, .goto 4, 3), (11, .iconst 0, 1), (12, .ireturn, 1)], [])
set_option maxRecDepth 20000 in
theorem zo_J1_canEncode_fc78d : ZOK z_J1_canEncode_fc78d := ⟨by decide +kernel, by intro q hq; cases hq⟩
set_option maxRecDepth 20000 in
theorem k_J1_canEncode_fc78d : LKS z_J1_canEncode_fc78d 1 := ⟨⟨ALL_at 1153 (by decide +kernel) rfl, (inALL_at 41 (by decide +kernel) rfl), by decide +kernel⟩, (inALL_at 1152 (by decide +kernel) rfl)⟩
def z_J4_append_bf812 : MZ := (yJ4_append_bf812, cJ4_append_bf812, 2, (some (FieldType.object "java/lang/StringBuilder")), [(0, .aload_n 0, 1), (1, .iload_n 1, 1), (2, .invokespecial 53, 3), (5, .pop, 1), (6, .aload_n 0, 1), (7, .areturn, 1)], [])
set_option maxRecDepth 20000 in
theorem zo_J4_append_bf812 : ZOK z_J4_append_bf812 := ⟨by decide +kernel, by intro q hq; cases hq⟩
set_option maxRecDepth 20000 in
theorem k_J4_append_bf812 : LKV z_J4_append_bf812 1 := ⟨⟨ALL_at 1160 (by decide +kernel) rfl, (inALL_at 47 (by decide +kernel) rfl), by decide +kernel⟩, (inALL_at 1158 (by decide +kernel) rfl), (inALL_at 1159 (by decide +kernel) rfl)⟩
def z_J5_append_c97b9 : MZ := (yJ5_append_c97b9, cJ5_append_c97b9, 4, (some (FieldType.object "java/lang/AbstractStringBuilder")), [(0, .aload_n 0, 1), (1, .getfield 79, 3), (4, .istore_n 2, 1), (5, .iload_n 2, 1), (6, .iload_n 1, 1), (7, .invokestatic 245, 3), (10, .iadd, 1), (11, .istore_n 3, 1), (12, .aload_n 0, 1), (13, .iload_n 3, 1), (14, .invokevirtual 100, 3), (17, .aload_n 0, 1), (18, .invokevirtual 83, 3), (21, .ifCond .eq 16, 3), (24, .iload_n 1, 1), (25, .iload_n 3, 1), (26, .aload_n 0, 1), (27, .getfield 15, 3), (30, .invokestatic 248, 3), (33, .pop, 1), (34, .goto 14, 3), (37, .iload_n 1, 1), (38, .iload_n 2, 1), (39, .iload_n 3, 1), (40, .aload_n 0, 1), (41, .getfield 15, 3), (44, .invokestatic 251, 3), (47, .pop, 1), (48, .aload_n 0, 1), (49, .iload_n 3, 1), (50, .putfield 79, 3), (53, .aload_n 0, 1), (54, .areturn, 1)], ftJ5)
set_option maxRecDepth 20000 in
theorem zo_J5_append_c97b9 : ZOK z_J5_append_c97b9 := ⟨by decide +kernel, ftJ5_ok⟩
set_option maxRecDepth 20000 in
def z_J6_stringSize_0f7a4 : MZ := (yJ6_stringSize_0f7a4, cJ6_stringSize_0f7a4, 4, (some .int), [(0, .iconst 1, 1), (1, .istore_n 1, 1), (2, .iload_n 0, 1), (3, .ifCond .lt 8, 3), (6, .iconst 0, 1), (7, .istore_n 1, 1), (8, .iload_n 0, 1), (9, .ineg, 1), (10, .istore_n 0, 1), (11, .bipush (-10), 2), (13, .istore_n 2, 1), (14, .iconst 1, 1), (15, .istore_n 3, 1), (16, .iload_n 3, 1), (17, .bipush 10, 2), (19, .if_icmp .ge 23, 3), (22, .iload_n 0, 1), (23, .iload_n 2, 1), (24, .if_icmp .le 7, 3), (27, .iload_n 3, 1), (28, .iload_n 1, 1), (29, .iadd, 1), (30, .ireturn, 1), (31, .bipush 10, 2), (33, .iload_n 2, 1), (34, .imul, 1), (35, .istore_n 2, 1), (36, .iinc 3 1, 3), (39, .goto (-23), 3), (42, .bipush 10, 2), (44, .iload_n 1, 1), (45, .iadd, 1), (46, .ireturn, 1)], [])
set_option maxRecDepth 20000 in
theorem zo_J6_stringSize_0f7a4 : ZOK z_J6_stringSize_0f7a4 := ⟨by decide +kernel, by intro q hq; cases hq⟩
set_option maxRecDepth 20000 in
theorem k_J6_stringSize_0f7a4 : LKS z_J6_stringSize_0f7a4 1 := ⟨⟨ALL_at 1166 (by decide +kernel) rfl, (inALL_at 51 (by decide +kernel) rfl), by decide +kernel⟩, (inALL_at 1165 (by decide +kernel) rfl)⟩
def z_J6_getChars_ba4f3 : MZ := (yJ6_getChars_ba4f3, cJ6_getChars_ba4f3, 7, (some .int), [(0, .iload_n 1, 1), (1, .istore 5, 2), (3, .iload_n 0, 1), (4, .ifCond .ge 7, 3), (7, .iconst 1, 1), (8, .goto 4, 3), (11, .iconst 0, 1), (12, .istore 6, 2), (14, .iload 6, 2), (16, .ifCond .ne 6, 3), (19, .iload_n 0, 1), (20, .ineg, 1), (21, .istore_n 0, 1), (22, .iload_n 0, 1), (23, .bipush (-100), 2), (25, .if_icmp .gt 47, 3), (28, .iload_n 0, 1), (29, .bipush 100, 2), (31, .idiv, 1), (32, .istore_n 3, 1), (33, .iload_n 3, 1), (34, .bipush 100, 2), (36, .imul, 1), (37, .iload_n 0, 1), (38, .isub, 1), (39, .istore 4, 2), (41, .iload_n 3, 1), (42, .istore_n 0, 1), (43, .aload_n 2, 1), (44, .iinc 5 (-1), 3), (47, .iload 5, 2), (49, .getstatic 83, 3), (52, .iload 4, 2), (54, .baload, 1), (55, .bastore, 1), (56, .aload_n 2, 1), (57, .iinc 5 (-1), 3), (60, .iload 5, 2), (62, .getstatic 87, 3), (65, .iload 4, 2), (67, .baload, 1), (68, .bastore, 1), (69, .goto (-47), 3), (72, .aload_n 2, 1), (73, .iinc 5 (-1), 3), (76, .iload 5, 2), (78, .getstatic 83, 3), (81, .iload_n 0, 1), (82, .ineg, 1), (83, .baload, 1), (84, .bastore, 1), (85, .iload_n 0, 1), (86, .bipush (-9), 2), (88, .if_icmp .ge 16, 3), (91, .aload_n 2, 1), (92, .iinc 5 (-1), 3), (95, .iload 5, 2), (97, .getstatic 87, 3), (100, .iload_n 0, 1), (101, .ineg, 1), (102, .baload, 1), (103, .bastore, 1), (104, .iload 6, 2), (106, .ifCond .eq 12, 3), (109, .aload_n 2, 1), (110, .iinc 5 (-1), 3), (113, .iload 5, 2), (115, .bipush 45, 2), (117, .bastore, 1), (118, .iload 5, 2), (120, .ireturn, 1)], [])
set_option maxRecDepth 20000 in
theorem zo_J6_getChars_ba4f3 : ZOK z_J6_getChars_ba4f3 := ⟨by decide +kernel, by intro q hq; cases hq⟩
set_option maxRecDepth 20000 in
theorem k_J6_getChars_ba4f3 : LKS z_J6_getChars_ba4f3 3 := ⟨⟨ALL_at 1169 (by decide +kernel) rfl, (inALL_at 51 (by decide +kernel) rfl), by decide +kernel⟩, (inALL_at 1168 (by decide +kernel) rfl)⟩
def z_J4_toString_0e30d : MZ := (yJ4_toString_0e30d, cJ4_toString_0e30d, 1, (some (FieldType.object "java/lang/String")), [(0, .new 18, 3), (3, .dup, 1), (4, .aload_n 0, 1), (5, .invokespecial 137, 3), (8, .areturn, 1)], [])
set_option maxRecDepth 20000 in
theorem zo_J4_toString_0e30d : ZOK z_J4_toString_0e30d := ⟨by decide +kernel, by intro q hq; cases hq⟩
set_option maxRecDepth 20000 in
theorem k_J4_toString_0e30d : LKV z_J4_toString_0e30d 0 := ⟨⟨ALL_at 1185 (by decide +kernel) rfl, (inALL_at 47 (by decide +kernel) rfl), by decide +kernel⟩, (inALL_at 1183 (by decide +kernel) rfl), (inALL_at 1184 (by decide +kernel) rfl)⟩
def z_J0_init_81219 : MZ := (yJ0_init_81219, cJ0_init_81219, 2, none, [(0, .aload_n 0, 1), (1, .aload_n 1, 1), (2, .aconst_null, 1), (3, .invokespecial 489, 3), (6, .return_, 1)], ftJ0)
set_option maxRecDepth 20000 in
theorem zo_J0_init_81219 : ZOK z_J0_init_81219 := ⟨by decide +kernel, ftJ0_ok⟩
set_option maxRecDepth 20000 in
theorem k_J0_init_81219 : LKI z_J0_init_81219 1 := ⟨⟨ALL_at 1190 (by decide +kernel) rfl, (inALL_at 40 (by decide +kernel) rfl), by decide +kernel⟩, rfl, rfl, (inALL_at 1189 (by decide +kernel) rfl)⟩
def z_J0_init_db425 : MZ := (yJ0_init_db425, cJ0_init_db425, 5, none, [(0, .aload_n 0, 1), (1, .invokespecial 1, 3), (4, .aload_n 1, 1), (5, .invokevirtual 552, 3), (8, .astore_n 3, 1), (9, .aload_n 1, 1), (10, .invokevirtual 549, 3), (13, .istore 4, 2), (15, .aload_n 1, 1), (16, .invokevirtual 1047, 3), (19, .ifCond .eq 22, 3), (22, .aload_n 0, 1), (23, .iconst 0, 1), (24, .putfield 15, 3), (27, .aload_n 0, 1), (28, .aload_n 3, 1), (29, .iconst 0, 1), (30, .iload 4, 2), (32, .invokestatic 54, 3), (35, .putfield 9, 3), (38, .goto 59, 3), (41, .getstatic 38, 3), (44, .ifCond .eq 35, 3), (47, .aload_n 1, 1), (48, .getfield 1048, 3), (51, .ifCond .eq 28, 3), (54, .aload_n 0, 1), (55, .aload_n 3, 1), (56, .iconst 0, 1), (57, .iload 4, 2), (59, .invokestatic 1051, 3), (62, .putfield 9, 3), (65, .aload_n 0, 1), (66, .aload_n 0, 1), (67, .getfield 9, 3), (70, .iload 4, 2), (72, .invokestatic 47, 3), (75, .putfield 15, 3), (78, .return_, 1), (79, .aload_n 0, 1), (80, .iconst 1, 1), (81, .putfield 15, 3), (84, .aload_n 0, 1), (85, .aload_n 3, 1), (86, .iconst 0, 1), (87, .iload 4, 2), (89, .iconst 1, 1), (90, .ishl, 1), (91, .invokestatic 54, 3), (94, .putfield 9, 3), (97, .return_, 1)], ftJ0)
set_option maxRecDepth 20000 in
theorem zo_J0_init_db425 : ZOK z_J0_init_db425 := ⟨by decide +kernel, ftJ0_ok⟩
set_option maxRecDepth 20000 in
theorem k_J0_init_db425 : LKI z_J0_init_db425 2 := ⟨⟨ALL_at 1193 (by decide +kernel) rfl, (inALL_at 40 (by decide +kernel) rfl), by decide +kernel⟩, rfl, rfl, (inALL_at 1192 (by decide +kernel) rfl)⟩
def z_J5_getValue_6d5f1 : MZ := (yJ5_getValue_6d5f1, cJ5_getValue_6d5f1, 1, (some (FieldType.array FieldType.byte)), [(0, .aload_n 0, 1), (1, .getfield 15, 3), (4, .areturn, 1)], ftJ5)
set_option maxRecDepth 20000 in
theorem zo_J5_getValue_6d5f1 : ZOK z_J5_getValue_6d5f1 := ⟨by decide +kernel, ftJ5_ok⟩
set_option maxRecDepth 20000 in
def z_J5_length_8abf5 : MZ := (yJ5_length_8abf5, cJ5_length_8abf5, 1, (some .int), [(0, .aload_n 0, 1), (1, .getfield 79, 3), (4, .ireturn, 1)], ftJ5)
set_option maxRecDepth 20000 in
theorem zo_J5_length_8abf5 : ZOK z_J5_length_8abf5 := ⟨by decide +kernel, ftJ5_ok⟩
set_option maxRecDepth 20000 in
def z_J7_copyOfRange_39247 : MZ := (yJ7_copyOfRange_39247, cJ7_copyOfRange_39247, 3, (some (FieldType.array FieldType.byte)), [(0, .iload_n 1, 1), (1, .ifCond .ne 9, 3), (4, .iload_n 2, 1), (5, .aload_n 0, 1), (6, .arraylength, 1), (7, .if_icmp .eq 10, 3), (10, .aload_n 0, 1), (11, .iload_n 1, 1), (12, .iload_n 2, 1), (13, .invokestatic 339, 3), (16, .areturn, 1), (17, .aload_n 0, 1), (18, .invokevirtual 310, 3), (21, .checkcast 311, 3), (24, .areturn, 1)], [])
set_option maxRecDepth 20000 in
theorem zo_J7_copyOfRange_39247 : ZOK z_J7_copyOfRange_39247 := ⟨by decide +kernel, by intro q hq; cases hq⟩
set_option maxRecDepth 20000 in
theorem k_J7_copyOfRange_39247 : LKS z_J7_copyOfRange_39247 3 := ⟨⟨ALL_at 1211 (by decide +kernel) rfl, (inALL_at 49 (by decide +kernel) rfl), by decide +kernel⟩, (inALL_at 1210 (by decide +kernel) rfl)⟩
def z_J7_copyOfRangeByte_39247 : MZ := (yJ7_copyOfRangeByte_39247, cJ7_copyOfRangeByte_39247, 5, (some (FieldType.array FieldType.byte)), [(0, .iload_n 1, 1), (1, .iload_n 2, 1), (2, .invokestatic 343, 3), (5, .iload_n 2, 1), (6, .iload_n 1, 1), (7, .isub, 1), (8, .istore_n 3, 1), (9, .iload_n 3, 1), (10, .newarray .byte, 2), (12, .astore 4, 2), (14, .aload_n 0, 1), (15, .iload_n 1, 1), (16, .aload 4, 2), (18, .iconst 0, 1), (19, .aload_n 0, 1), (20, .arraylength, 1), (21, .iload_n 1, 1), (22, .isub, 1), (23, .iload_n 3, 1), (24, .invokestatic 304, 3), (27, .invokestatic 150, 3), (30, .aload 4, 2), (32, .areturn, 1)], [])
set_option maxRecDepth 20000 in
theorem zo_J7_copyOfRangeByte_39247 : ZOK z_J7_copyOfRangeByte_39247 := ⟨by decide +kernel, by intro q hq; cases hq⟩
set_option maxRecDepth 20000 in
theorem k_J7_copyOfRangeByte_39247 : LKS z_J7_copyOfRangeByte_39247 3 := ⟨⟨ALL_at 1214 (by decide +kernel) rfl, (inALL_at 49 (by decide +kernel) rfl), by decide +kernel⟩, (inALL_at 1213 (by decide +kernel) rfl)⟩
def z_J7_checkLength_df160 : MZ := (yJ7_checkLength_df160, cJ7_checkLength_df160, 2, none, [(0, .iload_n 1, 1), (1, .iload_n 0, 1), (2, .if_icmp .ge 35, 3), (5, .new 43, 3), (8, .dup, 1), (9, .new 45, 3), (12, .dup, 1), (13, .invokespecial 47, 3), (16, .iload_n 0, 1), (17, .invokevirtual 54, 3), (20, .ldc_w 337, 3), (23, .invokevirtual 50, 3), (26, .iload_n 1, 1), (27, .invokevirtual 54, 3), (30, .invokevirtual 61, 3), (33, .invokespecial 65, 3), (36, .athrow, 1), (37, .return_, 1)], [])
set_option maxRecDepth 20000 in
theorem zo_J7_checkLength_df160 : ZOK z_J7_checkLength_df160 := ⟨by decide +kernel, by intro q hq; cases hq⟩
set_option maxRecDepth 20000 in
theorem k_J7_checkLength_df160 : LKS z_J7_checkLength_df160 2 := ⟨⟨ALL_at 1217 (by decide +kernel) rfl, (inALL_at 49 (by decide +kernel) rfl), by decide +kernel⟩, (inALL_at 1216 (by decide +kernel) rfl)⟩
def z_J4_length_8abf5 : MZ := (yJ4_length_8abf5, cJ4_length_8abf5, 1, (some .int), [(0, .aload_n 0, 1), (1, .invokespecial 343, 3), (4, .ireturn, 1)], [])
set_option maxRecDepth 20000 in
theorem zo_J4_length_8abf5 : ZOK z_J4_length_8abf5 := ⟨by decide +kernel, by intro q hq; cases hq⟩
set_option maxRecDepth 20000 in
def v_J0_length_8abf5 : MZ := (yJ0_length_8abf5, cJ0_length_8abf5, 1, (some .int), [(0, .aload_n 0, 1), (1, .getfield 9, 3), (4, .arraylength, 1), (5, .aload_n 0, 1), (6, .invokevirtual 335, 3), (9, .ishr, 1), (10, .ireturn, 1)], ftJ0)
set_option maxRecDepth 20000 in
theorem zov_J0_length_8abf5 : ZOK v_J0_length_8abf5 := ⟨by decide +kernel, ftJ0_ok⟩
set_option maxRecDepth 20000 in
theorem kv_J0_length_8abf5 : LKV v_J0_length_8abf5 0 := ⟨⟨ALL_at 284 (by decide +kernel) rfl, (inALL_at 40 (by decide +kernel) rfl), by decide +kernel⟩, (inALL_at 282 (by decide +kernel) rfl), (inALL_at 283 (by decide +kernel) rfl)⟩
def v_J0_charAt_5068e : MZ := (yJ0_charAt_5068e, cJ0_charAt_5068e, 2, (some .char), [(0, .aload_n 0, 1), (1, .invokevirtual 492, 3), (4, .ifCond .eq 12, 3), (7, .aload_n 0, 1), (8, .getfield 9, 3), (11, .iload_n 1, 1), (12, .invokestatic 495, 3), (15, .ireturn, 1), (16, .aload_n 0, 1), (17, .getfield 9, 3), (20, .iload_n 1, 1), (21, .invokestatic 498, 3), (24, .ireturn, 1)], ftJ0)
set_option maxRecDepth 20000 in
theorem zov_J0_charAt_5068e : ZOK v_J0_charAt_5068e := ⟨by decide +kernel, ftJ0_ok⟩
set_option maxRecDepth 20000 in
theorem kv_J0_charAt_5068e : LKV v_J0_charAt_5068e 1 := ⟨⟨ALL_at 294 (by decide +kernel) rfl, (inALL_at 40 (by decide +kernel) rfl), by decide +kernel⟩, (inALL_at 292 (by decide +kernel) rfl), (inALL_at 293 (by decide +kernel) rfl)⟩
def v_J0_coder_7d493 : MZ := (yJ0_coder_7d493, cJ0_coder_7d493, 1, (some .byte), [(0, .getstatic 38, 3), (3, .ifCond .eq 10, 3), (6, .aload_n 0, 1), (7, .getfield 15, 3), (10, .goto 4, 3), (13, .iconst 1, 1), (14, .ireturn, 1)], ftJ0)
set_option maxRecDepth 20000 in
theorem zov_J0_coder_7d493 : ZOK v_J0_coder_7d493 := ⟨by decide +kernel, ftJ0_ok⟩
set_option maxRecDepth 20000 in
theorem kv_J0_coder_7d493 : LKV v_J0_coder_7d493 0 := ⟨⟨ALL_at 288 (by decide +kernel) rfl, (inALL_at 40 (by decide +kernel) rfl), by decide +kernel⟩, (inALL_at 286 (by decide +kernel) rfl), (inALL_at 287 (by decide +kernel) rfl)⟩
def v_J0_isLatin1_aae02 : MZ := (yJ0_isLatin1_aae02, cJ0_isLatin1_aae02, 1, (some .boolean), [(0, .getstatic 38, 3), (3, .ifCond .eq 14, 3), (6, .aload_n 0, 1), (7, .getfield 15, 3), (10, .ifCond .ne 7, 3), (13, .iconst 1, 1), (14, .goto 4, 3), (17, .iconst 0, 1), (18, .ireturn, 1)], ftJ0)
set_option maxRecDepth 20000 in
theorem zov_J0_isLatin1_aae02 : ZOK v_J0_isLatin1_aae02 := ⟨by decide +kernel, ftJ0_ok⟩
set_option maxRecDepth 20000 in
theorem kv_J0_isLatin1_aae02 : LKV v_J0_isLatin1_aae02 0 := ⟨⟨ALL_at 298 (by decide +kernel) rfl, (inALL_at 40 (by decide +kernel) rfl), by decide +kernel⟩, (inALL_at 296 (by decide +kernel) rfl), (inALL_at 297 (by decide +kernel) rfl)⟩
set_option maxRecDepth 20000 in
theorem u_AB_100 : LKU "java/lang/AbstractStringBuilder" 100 yJ5_ensureCapacityInternal_d00df z_J5_ensureCapacityInternal_d00df 1 := ⟨⟨ALL_at 1061 (by decide +kernel) rfl, (inALL_at 46 (by decide +kernel) rfl)⟩, ⟨⟨by decide +kernel, by decide +kernel⟩, by decide +kernel⟩, ⟨(inALL_at 1058 (by decide +kernel) rfl), (inALL_at 1244 (by decide +kernel) rfl)⟩, ⟨(inALL_at 1060 (by decide +kernel) rfl), zB z_J5_ensureCapacityInternal_d00df, zN z_J5_ensureCapacityInternal_d00df, zR z_J5_ensureCapacityInternal_d00df, ALL_at 1061 (by decide +kernel) rfl⟩, (inALL_at 1060 (by decide +kernel) rfl), Or.inr ⟨rfl, by simp [privB, z_J5_ensureCapacityInternal_d00df, zY]⟩⟩
set_option maxRecDepth 20000 in
theorem u_AB_104 : LKU "java/lang/AbstractStringBuilder" 104 yJ5_newCapacity_0f7a4 z_J5_newCapacity_0f7a4 1 := ⟨⟨ALL_at 1065 (by decide +kernel) rfl, (inALL_at 46 (by decide +kernel) rfl)⟩, ⟨⟨by decide +kernel, by decide +kernel⟩, by decide +kernel⟩, ⟨(inALL_at 1062 (by decide +kernel) rfl), (inALL_at 1245 (by decide +kernel) rfl)⟩, ⟨(inALL_at 1064 (by decide +kernel) rfl), zB z_J5_newCapacity_0f7a4, zN z_J5_newCapacity_0f7a4, zR z_J5_newCapacity_0f7a4, ALL_at 1065 (by decide +kernel) rfl⟩, (inALL_at 1064 (by decide +kernel) rfl), Or.inr ⟨rfl, by simp [privB, z_J5_newCapacity_0f7a4, zY]⟩⟩
set_option maxRecDepth 20000 in
theorem u_AB_208 : LKU "java/lang/AbstractStringBuilder" 208 yJ5_putStringAt_47b60 z_J5_putStringAt_47b60 2 := ⟨⟨ALL_at 1113 (by decide +kernel) rfl, (inALL_at 46 (by decide +kernel) rfl)⟩, ⟨⟨by decide +kernel, by decide +kernel⟩, by decide +kernel⟩, ⟨(inALL_at 1110 (by decide +kernel) rfl), (inALL_at 1246 (by decide +kernel) rfl)⟩, ⟨(inALL_at 1112 (by decide +kernel) rfl), zB z_J5_putStringAt_47b60, zN z_J5_putStringAt_47b60, zR z_J5_putStringAt_47b60, ALL_at 1113 (by decide +kernel) rfl⟩, (inALL_at 1112 (by decide +kernel) rfl), Or.inr ⟨rfl, by simp [privB, z_J5_putStringAt_47b60, zY]⟩⟩
set_option maxRecDepth 20000 in
theorem u_AB_397 : LKU "java/lang/AbstractStringBuilder" 397 yJ5_inflateIfNeededFor_a7421 z_J5_inflateIfNeededFor_a7421 1 := ⟨⟨ALL_at 1117 (by decide +kernel) rfl, (inALL_at 46 (by decide +kernel) rfl)⟩, ⟨⟨by decide +kernel, by decide +kernel⟩, by decide +kernel⟩, ⟨(inALL_at 1114 (by decide +kernel) rfl), (inALL_at 1247 (by decide +kernel) rfl)⟩, ⟨(inALL_at 1116 (by decide +kernel) rfl), zB z_J5_inflateIfNeededFor_a7421, zN z_J5_inflateIfNeededFor_a7421, zR z_J5_inflateIfNeededFor_a7421, ALL_at 1117 (by decide +kernel) rfl⟩, (inALL_at 1116 (by decide +kernel) rfl), Or.inr ⟨rfl, by simp [privB, z_J5_inflateIfNeededFor_a7421, zY]⟩⟩
set_option maxRecDepth 20000 in
theorem u_AB_83 : LKU "java/lang/AbstractStringBuilder" 83 yJ5_isLatin1_aae02 z_J5_isLatin1_aae02 0 := ⟨⟨ALL_at 1093 (by decide +kernel) rfl, (inALL_at 46 (by decide +kernel) rfl)⟩, ⟨⟨by decide +kernel, by decide +kernel⟩, by decide +kernel⟩, ⟨(inALL_at 1089 (by decide +kernel) rfl), (inALL_at 1091 (by decide +kernel) rfl)⟩, ⟨(inALL_at 1090 (by decide +kernel) rfl), zB z_J5_isLatin1_aae02, zN z_J5_isLatin1_aae02, zR z_J5_isLatin1_aae02, ALL_at 1093 (by decide +kernel) rfl⟩, (inALL_at 1090 (by decide +kernel) rfl), Or.inl (inALL_at 1092 (by decide +kernel) rfl)⟩
set_option maxRecDepth 20000 in
theorem u_ST_552 : LKU "java/lang/String" 552 yJ5_getValue_6d5f1 z_J5_getValue_6d5f1 0 := ⟨⟨ALL_at 1199 (by decide +kernel) rfl, (inALL_at 46 (by decide +kernel) rfl)⟩, ⟨⟨by decide +kernel, by decide +kernel⟩, by decide +kernel⟩, ⟨(inALL_at 1195 (by decide +kernel) rfl), (inALL_at 1197 (by decide +kernel) rfl)⟩, ⟨(inALL_at 1196 (by decide +kernel) rfl), zB z_J5_getValue_6d5f1, zN z_J5_getValue_6d5f1, zR z_J5_getValue_6d5f1, ALL_at 1199 (by decide +kernel) rfl⟩, (inALL_at 1196 (by decide +kernel) rfl), Or.inl (inALL_at 1198 (by decide +kernel) rfl)⟩
set_option maxRecDepth 20000 in
theorem u_ST_549 : LKU "java/lang/String" 549 yJ5_length_8abf5 z_J4_length_8abf5 0 := ⟨⟨ALL_at 1205 (by decide +kernel) rfl, (inALL_at 47 (by decide +kernel) rfl)⟩, ⟨⟨by decide +kernel, by decide +kernel⟩, by decide +kernel⟩, ⟨(inALL_at 1200 (by decide +kernel) rfl), (inALL_at 1202 (by decide +kernel) rfl)⟩, ⟨(inALL_at 1201 (by decide +kernel) rfl), zB z_J5_length_8abf5, zN z_J5_length_8abf5, zR z_J5_length_8abf5, ALL_at 1207 (by decide +kernel) rfl⟩, (inALL_at 1204 (by decide +kernel) rfl), Or.inl (inALL_at 1203 (by decide +kernel) rfl)⟩
set_option maxRecDepth 20000 in
theorem u_ST_1047 : LKU "java/lang/String" 1047 yJ5_isLatin1_aae02 z_J5_isLatin1_aae02 0 := ⟨⟨ALL_at 1093 (by decide +kernel) rfl, (inALL_at 46 (by decide +kernel) rfl)⟩, ⟨⟨by decide +kernel, by decide +kernel⟩, by decide +kernel⟩, ⟨(inALL_at 1208 (by decide +kernel) rfl), (inALL_at 1091 (by decide +kernel) rfl)⟩, ⟨(inALL_at 1090 (by decide +kernel) rfl), zB z_J5_isLatin1_aae02, zN z_J5_isLatin1_aae02, zR z_J5_isLatin1_aae02, ALL_at 1093 (by decide +kernel) rfl⟩, (inALL_at 1090 (by decide +kernel) rfl), Or.inl (inALL_at 1092 (by decide +kernel) rfl)⟩
set_option maxRecDepth 20000 in
theorem w_SB_29 : LKW "java/lang/StringBuilder" 29 z_J5_append_cf1ce 1 := ⟨⟨ALL_at 1053 (by decide +kernel) rfl, (inALL_at 46 (by decide +kernel) rfl)⟩, ⟨by decide +kernel, by decide +kernel⟩, ⟨(inALL_at 1051 (by decide +kernel) rfl), (inALL_at 1242 (by decide +kernel) rfl)⟩, (inALL_at 1046 (by decide +kernel) rfl), (inALL_at 1052 (by decide +kernel) rfl)⟩
set_option maxRecDepth 20000 in
theorem w_SB_50 : LKW "java/lang/StringBuilder" 50 z_J5_append_3fe6f 1 := ⟨⟨ALL_at 1150 (by decide +kernel) rfl, (inALL_at 46 (by decide +kernel) rfl)⟩, ⟨by decide +kernel, by decide +kernel⟩, ⟨(inALL_at 1148 (by decide +kernel) rfl), (inALL_at 1249 (by decide +kernel) rfl)⟩, (inALL_at 1046 (by decide +kernel) rfl), (inALL_at 1149 (by decide +kernel) rfl)⟩
set_option maxRecDepth 20000 in
theorem w_SB_53 : LKW "java/lang/StringBuilder" 53 z_J5_append_c97b9 1 := ⟨⟨ALL_at 1163 (by decide +kernel) rfl, (inALL_at 46 (by decide +kernel) rfl)⟩, ⟨by decide +kernel, by decide +kernel⟩, ⟨(inALL_at 1161 (by decide +kernel) rfl), (inALL_at 1250 (by decide +kernel) rfl)⟩, (inALL_at 1046 (by decide +kernel) rfl), (inALL_at 1162 (by decide +kernel) rfl)⟩
set_option maxRecDepth 20000 in
theorem w_SB_343 : LKW "java/lang/StringBuilder" 343 z_J5_length_8abf5 0 := ⟨⟨ALL_at 1207 (by decide +kernel) rfl, (inALL_at 46 (by decide +kernel) rfl)⟩, ⟨by decide +kernel, by decide +kernel⟩, ⟨(inALL_at 1206 (by decide +kernel) rfl), (inALL_at 1202 (by decide +kernel) rfl)⟩, (inALL_at 1046 (by decide +kernel) rfl), (inALL_at 1201 (by decide +kernel) rfl)⟩
set_option maxRecDepth 20000 in
theorem m_SB_1 : inALL (.methodLink "java/lang/StringBuilder" 1 yJ5_init_d00df) = true := (inALL_at 1022 (by decide +kernel) rfl)
set_option maxRecDepth 20000 in
theorem m_AB_114 : inALL (.methodLink "java/lang/AbstractStringBuilder" 114 yJ8_newLength_cabcc) = true := (inALL_at 1066 (by decide +kernel) rfl)
set_option maxRecDepth 20000 in
theorem m_AB_108 : inALL (.methodLink "java/lang/AbstractStringBuilder" 108 yJ7_copyOf_9075b) = true := (inALL_at 1077 (by decide +kernel) rfl)
set_option maxRecDepth 20000 in
theorem m_AB_40 : inALL (.methodLink "java/lang/AbstractStringBuilder" 40 yJ0_coder_7d493) = true := (inALL_at 1118 (by decide +kernel) rfl)
set_option maxRecDepth 20000 in
theorem m_AB_399 : inALL (.methodLink "java/lang/AbstractStringBuilder" 399 yJ0_getBytes_840e7) = true := (inALL_at 1138 (by decide +kernel) rfl)
set_option maxRecDepth 20000 in
theorem m_ST_335 : inALL (.methodLink "java/lang/String" 335 yJ0_coder_7d493) = true := (inALL_at 285 (by decide +kernel) rfl)
set_option maxRecDepth 20000 in
theorem m_ST_492 : inALL (.methodLink "java/lang/String" 492 yJ0_isLatin1_aae02) = true := (inALL_at 295 (by decide +kernel) rfl)
set_option maxRecDepth 20000 in
theorem m_ST_495 : inALL (.methodLink "java/lang/String" 495 yJ1_charAt_3b067) = true := (inALL_at 299 (by decide +kernel) rfl)
set_option maxRecDepth 20000 in
theorem m_AB_191 : inALL (.methodLink "java/lang/AbstractStringBuilder" 191 yJ1_canEncode_fc78d) = true := (inALL_at 1151 (by decide +kernel) rfl)
set_option maxRecDepth 20000 in
theorem m_AB_245 : inALL (.methodLink "java/lang/AbstractStringBuilder" 245 yJ6_stringSize_0f7a4) = true := (inALL_at 1164 (by decide +kernel) rfl)
set_option maxRecDepth 20000 in
theorem m_AB_248 : inALL (.methodLink "java/lang/AbstractStringBuilder" 248 yJ6_getChars_ba4f3) = true := (inALL_at 1167 (by decide +kernel) rfl)
set_option maxRecDepth 20000 in
theorem m_SB_137 : inALL (.methodLink "java/lang/StringBuilder" 137 yJ0_init_81219) = true := (inALL_at 1188 (by decide +kernel) rfl)
set_option maxRecDepth 20000 in
theorem m_ST_489 : inALL (.methodLink "java/lang/String" 489 yJ0_init_db425) = true := (inALL_at 1191 (by decide +kernel) rfl)
set_option maxRecDepth 20000 in
theorem m_ST_54 : inALL (.methodLink "java/lang/String" 54 yJ7_copyOfRange_39247) = true := (inALL_at 1209 (by decide +kernel) rfl)
set_option maxRecDepth 20000 in
theorem m_AR_339 : inALL (.methodLink "java/util/Arrays" 339 yJ7_copyOfRangeByte_39247) = true := (inALL_at 1212 (by decide +kernel) rfl)
set_option maxRecDepth 20000 in
theorem m_AR_343 : inALL (.methodLink "java/util/Arrays" 343 yJ7_checkLength_df160) = true := (inALL_at 1215 (by decide +kernel) rfl)
set_option maxRecDepth 20000 in
theorem m_AB_32 : inALL (.methodLink "java/lang/AbstractStringBuilder" 32 yJ0_length_8abf5) = true := (inALL_at 1109 (by decide +kernel) rfl)
