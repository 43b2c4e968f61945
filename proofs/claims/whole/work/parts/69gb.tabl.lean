/-! ===== 09c.tabl: methods by program: code, fields, links ===== -/
def z_L_queueNameByte : MZ := (yL_queueNameByte, cL_queueNameByte, 5, (some .int), [(0, .aload_n 3, 1), (1, .iconst 0, 1), (2, .aload_n 0, 1), (3, .iload_n 1, 1), (4, .iload_n 2, 1), (5, .invokevirtual 7, 3), (8, .i2l, 1), (9, .lastore, 1), (10, .goto 7, 3), (13, .astore 4, 2), (15, .iconst 1, 1), (16, .ireturn, 1), (17, .iconst 0, 1), (18, .ireturn, 1)], [])
set_option maxRecDepth 20000 in
theorem zo_L_queueNameByte : ZOK z_L_queueNameByte := ⟨by decide +kernel, by intro q hq; cases hq⟩
set_option maxRecDepth 20000 in
theorem k_L_queueNameByte : Cond.codeWith (zY z_L_queueNameByte) (zB z_L_queueNameByte) (zN z_L_queueNameByte) (zR z_L_queueNameByte) [((0 : Nat), (10 : Nat), (13 : Nat), (13 : Nat))] ∈ ALL ∧ inALL (.initialized (zY z_L_queueNameByte).cls) = true ∧ ((zY z_L_queueNameByte).cls ≠ "java/lang/invoke/MethodHandle" ∧ (zY z_L_queueNameByte).cls ≠ "java/lang/invoke/VarHandle" ∧ (parseMethodDescriptor (zY z_L_queueNameByte).desc).map (fun d => d.parameters.length) = some 4) ∧ inALL (.static (zY z_L_queueNameByte)) = true := ⟨ALL_at 842 (by decide +kernel) rfl, (inALL_at 109 (by decide +kernel) rfl), by decide +kernel, (inALL_at 841 (by decide +kernel) rfl)⟩
def z_L_ownerNameByte : MZ := (yL_ownerNameByte, cL_ownerNameByte, 5, (some .int), [(0, .aload_n 3, 1), (1, .iconst 0, 1), (2, .aload_n 0, 1), (3, .iload_n 1, 1), (4, .iload_n 2, 1), (5, .invokevirtual 15, 3), (8, .i2l, 1), (9, .lastore, 1), (10, .goto 7, 3), (13, .astore 4, 2), (15, .iconst 1, 1), (16, .ireturn, 1), (17, .iconst 0, 1), (18, .ireturn, 1)], [])
set_option maxRecDepth 20000 in
theorem zo_L_ownerNameByte : ZOK z_L_ownerNameByte := ⟨by decide +kernel, by intro q hq; cases hq⟩
set_option maxRecDepth 20000 in
theorem k_L_ownerNameByte : Cond.codeWith (zY z_L_ownerNameByte) (zB z_L_ownerNameByte) (zN z_L_ownerNameByte) (zR z_L_ownerNameByte) [((0 : Nat), (10 : Nat), (13 : Nat), (13 : Nat))] ∈ ALL ∧ inALL (.initialized (zY z_L_ownerNameByte).cls) = true ∧ ((zY z_L_ownerNameByte).cls ≠ "java/lang/invoke/MethodHandle" ∧ (zY z_L_ownerNameByte).cls ≠ "java/lang/invoke/VarHandle" ∧ (parseMethodDescriptor (zY z_L_ownerNameByte).desc).map (fun d => d.parameters.length) = some 4) ∧ inALL (.static (zY z_L_ownerNameByte)) = true := ⟨ALL_at 926 (by decide +kernel) rfl, (inALL_at 109 (by decide +kernel) rfl), by decide +kernel, (inALL_at 925 (by decide +kernel) rfl)⟩
def z_L_queueOf : MZ := (yL_queueOf, cL_queueOf, 4, (some .int), [(0, .aload_n 2, 1), (1, .iconst 0, 1), (2, .aload_n 0, 1), (3, .iload_n 1, 1), (4, .invokevirtual 18, 3), (7, .i2l, 1), (8, .lastore, 1), (9, .goto 6, 3), (12, .astore_n 3, 1), (13, .iconst 1, 1), (14, .ireturn, 1), (15, .iconst 0, 1), (16, .ireturn, 1)], [])
set_option maxRecDepth 20000 in
theorem zo_L_queueOf : ZOK z_L_queueOf := ⟨by decide +kernel, by intro q hq; cases hq⟩
set_option maxRecDepth 20000 in
theorem k_L_queueOf : Cond.codeWith (zY z_L_queueOf) (zB z_L_queueOf) (zN z_L_queueOf) (zR z_L_queueOf) [((0 : Nat), (9 : Nat), (12 : Nat), (13 : Nat))] ∈ ALL ∧ inALL (.initialized (zY z_L_queueOf).cls) = true ∧ ((zY z_L_queueOf).cls ≠ "java/lang/invoke/MethodHandle" ∧ (zY z_L_queueOf).cls ≠ "java/lang/invoke/VarHandle" ∧ (parseMethodDescriptor (zY z_L_queueOf).desc).map (fun d => d.parameters.length) = some 3) ∧ inALL (.static (zY z_L_queueOf)) = true := ⟨ALL_at 938 (by decide +kernel) rfl, (inALL_at 109 (by decide +kernel) rfl), by decide +kernel, (inALL_at 937 (by decide +kernel) rfl)⟩
def z_L_ownerOf : MZ := (yL_ownerOf, cL_ownerOf, 4, (some .int), [(0, .aload_n 2, 1), (1, .iconst 0, 1), (2, .aload_n 0, 1), (3, .iload_n 1, 1), (4, .invokevirtual 22, 3), (7, .i2l, 1), (8, .lastore, 1), (9, .goto 6, 3), (12, .astore_n 3, 1), (13, .iconst 1, 1), (14, .ireturn, 1), (15, .iconst 0, 1), (16, .ireturn, 1)], [])
set_option maxRecDepth 20000 in
theorem zo_L_ownerOf : ZOK z_L_ownerOf := ⟨by decide +kernel, by intro q hq; cases hq⟩
set_option maxRecDepth 20000 in
theorem k_L_ownerOf : Cond.codeWith (zY z_L_ownerOf) (zB z_L_ownerOf) (zN z_L_ownerOf) (zR z_L_ownerOf) [((0 : Nat), (9 : Nat), (12 : Nat), (13 : Nat))] ∈ ALL ∧ inALL (.initialized (zY z_L_ownerOf).cls) = true ∧ ((zY z_L_ownerOf).cls ≠ "java/lang/invoke/MethodHandle" ∧ (zY z_L_ownerOf).cls ≠ "java/lang/invoke/VarHandle" ∧ (parseMethodDescriptor (zY z_L_ownerOf).desc).map (fun d => d.parameters.length) = some 3) ∧ inALL (.static (zY z_L_ownerOf)) = true := ⟨ALL_at 950 (by decide +kernel) rfl, (inALL_at 109 (by decide +kernel) rfl), by decide +kernel, (inALL_at 949 (by decide +kernel) rfl)⟩
def z_L_priority : MZ := (yL_priority, cL_priority, 4, (some .int), [(0, .aload_n 2, 1), (1, .iconst 0, 1), (2, .aload_n 0, 1), (3, .iload_n 1, 1), (4, .invokevirtual 25, 3), (7, .i2l, 1), (8, .lastore, 1), (9, .goto 6, 3), (12, .astore_n 3, 1), (13, .iconst 1, 1), (14, .ireturn, 1), (15, .iconst 0, 1), (16, .ireturn, 1)], [])
set_option maxRecDepth 20000 in
theorem zo_L_priority : ZOK z_L_priority := ⟨by decide +kernel, by intro q hq; cases hq⟩
set_option maxRecDepth 20000 in
theorem k_L_priority : Cond.codeWith (zY z_L_priority) (zB z_L_priority) (zN z_L_priority) (zR z_L_priority) [((0 : Nat), (9 : Nat), (12 : Nat), (13 : Nat))] ∈ ALL ∧ inALL (.initialized (zY z_L_priority).cls) = true ∧ ((zY z_L_priority).cls ≠ "java/lang/invoke/MethodHandle" ∧ (zY z_L_priority).cls ≠ "java/lang/invoke/VarHandle" ∧ (parseMethodDescriptor (zY z_L_priority).desc).map (fun d => d.parameters.length) = some 3) ∧ inALL (.static (zY z_L_priority)) = true := ⟨ALL_at 957 (by decide +kernel) rfl, (inALL_at 109 (by decide +kernel) rfl), by decide +kernel, (inALL_at 956 (by decide +kernel) rfl)⟩
def z_L_pages : MZ := (yL_pages, cL_pages, 4, (some .int), [(0, .aload_n 2, 1), (1, .iconst 0, 1), (2, .aload_n 0, 1), (3, .iload_n 1, 1), (4, .invokevirtual 28, 3), (7, .i2l, 1), (8, .lastore, 1), (9, .goto 6, 3), (12, .astore_n 3, 1), (13, .iconst 1, 1), (14, .ireturn, 1), (15, .iconst 0, 1), (16, .ireturn, 1)], [])
set_option maxRecDepth 20000 in
theorem zo_L_pages : ZOK z_L_pages := ⟨by decide +kernel, by intro q hq; cases hq⟩
set_option maxRecDepth 20000 in
theorem k_L_pages : Cond.codeWith (zY z_L_pages) (zB z_L_pages) (zN z_L_pages) (zR z_L_pages) [((0 : Nat), (9 : Nat), (12 : Nat), (13 : Nat))] ∈ ALL ∧ inALL (.initialized (zY z_L_pages).cls) = true ∧ ((zY z_L_pages).cls ≠ "java/lang/invoke/MethodHandle" ∧ (zY z_L_pages).cls ≠ "java/lang/invoke/VarHandle" ∧ (parseMethodDescriptor (zY z_L_pages).desc).map (fun d => d.parameters.length) = some 3) ∧ inALL (.static (zY z_L_pages)) = true := ⟨ALL_at 964 (by decide +kernel) rfl, (inALL_at 109 (by decide +kernel) rfl), by decide +kernel, (inALL_at 963 (by decide +kernel) rfl)⟩
def z_L_isWaiting : MZ := (yL_isWaiting, cL_isWaiting, 4, (some .int), [(0, .aload_n 2, 1), (1, .iconst 0, 1), (2, .aload_n 0, 1), (3, .iload_n 1, 1), (4, .invokevirtual 31, 3), (7, .ifCond .eq 7, 3), (10, .lconst 1, 1), (11, .goto 4, 3), (14, .lconst 0, 1), (15, .lastore, 1), (16, .goto 6, 3), (19, .astore_n 3, 1), (20, .iconst 1, 1), (21, .ireturn, 1), (22, .iconst 0, 1), (23, .ireturn, 1)], [])
set_option maxRecDepth 20000 in
theorem zo_L_isWaiting : ZOK z_L_isWaiting := ⟨by decide +kernel, by intro q hq; cases hq⟩
set_option maxRecDepth 20000 in
theorem k_L_isWaiting : Cond.codeWith (zY z_L_isWaiting) (zB z_L_isWaiting) (zN z_L_isWaiting) (zR z_L_isWaiting) [((0 : Nat), (16 : Nat), (19 : Nat), (13 : Nat))] ∈ ALL ∧ inALL (.initialized (zY z_L_isWaiting).cls) = true ∧ ((zY z_L_isWaiting).cls ≠ "java/lang/invoke/MethodHandle" ∧ (zY z_L_isWaiting).cls ≠ "java/lang/invoke/VarHandle" ∧ (parseMethodDescriptor (zY z_L_isWaiting).desc).map (fun d => d.parameters.length) = some 3) ∧ inALL (.static (zY z_L_isWaiting)) = true := ⟨ALL_at 971 (by decide +kernel) rfl, (inALL_at 109 (by decide +kernel) rfl), by decide +kernel, (inALL_at 970 (by decide +kernel) rfl)⟩
def z_L_isPrinted : MZ := (yL_isPrinted, cL_isPrinted, 4, (some .int), [(0, .aload_n 2, 1), (1, .iconst 0, 1), (2, .aload_n 0, 1), (3, .iload_n 1, 1), (4, .invokevirtual 35, 3), (7, .ifCond .eq 7, 3), (10, .lconst 1, 1), (11, .goto 4, 3), (14, .lconst 0, 1), (15, .lastore, 1), (16, .goto 6, 3), (19, .astore_n 3, 1), (20, .iconst 1, 1), (21, .ireturn, 1), (22, .iconst 0, 1), (23, .ireturn, 1)], [])
set_option maxRecDepth 20000 in
theorem zo_L_isPrinted : ZOK z_L_isPrinted := ⟨by decide +kernel, by intro q hq; cases hq⟩
set_option maxRecDepth 20000 in
theorem k_L_isPrinted : Cond.codeWith (zY z_L_isPrinted) (zB z_L_isPrinted) (zN z_L_isPrinted) (zR z_L_isPrinted) [((0 : Nat), (16 : Nat), (19 : Nat), (13 : Nat))] ∈ ALL ∧ inALL (.initialized (zY z_L_isPrinted).cls) = true ∧ ((zY z_L_isPrinted).cls ≠ "java/lang/invoke/MethodHandle" ∧ (zY z_L_isPrinted).cls ≠ "java/lang/invoke/VarHandle" ∧ (parseMethodDescriptor (zY z_L_isPrinted).desc).map (fun d => d.parameters.length) = some 3) ∧ inALL (.static (zY z_L_isPrinted)) = true := ⟨ALL_at 978 (by decide +kernel) rfl, (inALL_at 109 (by decide +kernel) rfl), by decide +kernel, (inALL_at 977 (by decide +kernel) rfl)⟩
def z_L_isCancelled : MZ := (yL_isCancelled, cL_isCancelled, 4, (some .int), [(0, .aload_n 2, 1), (1, .iconst 0, 1), (2, .aload_n 0, 1), (3, .iload_n 1, 1), (4, .invokevirtual 38, 3), (7, .ifCond .eq 7, 3), (10, .lconst 1, 1), (11, .goto 4, 3), (14, .lconst 0, 1), (15, .lastore, 1), (16, .goto 6, 3), (19, .astore_n 3, 1), (20, .iconst 1, 1), (21, .ireturn, 1), (22, .iconst 0, 1), (23, .ireturn, 1)], [])
set_option maxRecDepth 20000 in
theorem zo_L_isCancelled : ZOK z_L_isCancelled := ⟨by decide +kernel, by intro q hq; cases hq⟩
set_option maxRecDepth 20000 in
theorem k_L_isCancelled : Cond.codeWith (zY z_L_isCancelled) (zB z_L_isCancelled) (zN z_L_isCancelled) (zR z_L_isCancelled) [((0 : Nat), (16 : Nat), (19 : Nat), (13 : Nat))] ∈ ALL ∧ inALL (.initialized (zY z_L_isCancelled).cls) = true ∧ ((zY z_L_isCancelled).cls ≠ "java/lang/invoke/MethodHandle" ∧ (zY z_L_isCancelled).cls ≠ "java/lang/invoke/VarHandle" ∧ (parseMethodDescriptor (zY z_L_isCancelled).desc).map (fun d => d.parameters.length) = some 3) ∧ inALL (.static (zY z_L_isCancelled)) = true := ⟨ALL_at 985 (by decide +kernel) rfl, (inALL_at 109 (by decide +kernel) rfl), by decide +kernel, (inALL_at 984 (by decide +kernel) rfl)⟩
def z_L_root : MZ := (yL_root, cL_root, 4, (some .int), [(0, .aload_n 2, 1), (1, .iconst 0, 1), (2, .aload_n 0, 1), (3, .iload_n 1, 1), (4, .invokevirtual 41, 3), (7, .i2l, 1), (8, .lastore, 1), (9, .goto 6, 3), (12, .astore_n 3, 1), (13, .iconst 1, 1), (14, .ireturn, 1), (15, .iconst 0, 1), (16, .ireturn, 1)], [])
set_option maxRecDepth 20000 in
theorem zo_L_root : ZOK z_L_root := ⟨by decide +kernel, by intro q hq; cases hq⟩
set_option maxRecDepth 20000 in
theorem k_L_root : Cond.codeWith (zY z_L_root) (zB z_L_root) (zN z_L_root) (zR z_L_root) [((0 : Nat), (9 : Nat), (12 : Nat), (13 : Nat))] ∈ ALL ∧ inALL (.initialized (zY z_L_root).cls) = true ∧ ((zY z_L_root).cls ≠ "java/lang/invoke/MethodHandle" ∧ (zY z_L_root).cls ≠ "java/lang/invoke/VarHandle" ∧ (parseMethodDescriptor (zY z_L_root).desc).map (fun d => d.parameters.length) = some 3) ∧ inALL (.static (zY z_L_root)) = true := ⟨ALL_at 992 (by decide +kernel) rfl, (inALL_at 109 (by decide +kernel) rfl), by decide +kernel, (inALL_at 991 (by decide +kernel) rfl)⟩
def z_L_leftChild : MZ := (yL_leftChild, cL_leftChild, 4, (some .int), [(0, .aload_n 2, 1), (1, .iconst 0, 1), (2, .aload_n 0, 1), (3, .iload_n 1, 1), (4, .invokevirtual 44, 3), (7, .i2l, 1), (8, .lastore, 1), (9, .goto 6, 3), (12, .astore_n 3, 1), (13, .iconst 1, 1), (14, .ireturn, 1), (15, .iconst 0, 1), (16, .ireturn, 1)], [])
set_option maxRecDepth 20000 in
theorem zo_L_leftChild : ZOK z_L_leftChild := ⟨by decide +kernel, by intro q hq; cases hq⟩
set_option maxRecDepth 20000 in
theorem k_L_leftChild : Cond.codeWith (zY z_L_leftChild) (zB z_L_leftChild) (zN z_L_leftChild) (zR z_L_leftChild) [((0 : Nat), (9 : Nat), (12 : Nat), (13 : Nat))] ∈ ALL ∧ inALL (.initialized (zY z_L_leftChild).cls) = true ∧ ((zY z_L_leftChild).cls ≠ "java/lang/invoke/MethodHandle" ∧ (zY z_L_leftChild).cls ≠ "java/lang/invoke/VarHandle" ∧ (parseMethodDescriptor (zY z_L_leftChild).desc).map (fun d => d.parameters.length) = some 3) ∧ inALL (.static (zY z_L_leftChild)) = true := ⟨ALL_at 999 (by decide +kernel) rfl, (inALL_at 109 (by decide +kernel) rfl), by decide +kernel, (inALL_at 998 (by decide +kernel) rfl)⟩
def z_L_rightChild : MZ := (yL_rightChild, cL_rightChild, 4, (some .int), [(0, .aload_n 2, 1), (1, .iconst 0, 1), (2, .aload_n 0, 1), (3, .iload_n 1, 1), (4, .invokevirtual 47, 3), (7, .i2l, 1), (8, .lastore, 1), (9, .goto 6, 3), (12, .astore_n 3, 1), (13, .iconst 1, 1), (14, .ireturn, 1), (15, .iconst 0, 1), (16, .ireturn, 1)], [])
set_option maxRecDepth 20000 in
theorem zo_L_rightChild : ZOK z_L_rightChild := ⟨by decide +kernel, by intro q hq; cases hq⟩
set_option maxRecDepth 20000 in
theorem k_L_rightChild : Cond.codeWith (zY z_L_rightChild) (zB z_L_rightChild) (zN z_L_rightChild) (zR z_L_rightChild) [((0 : Nat), (9 : Nat), (12 : Nat), (13 : Nat))] ∈ ALL ∧ inALL (.initialized (zY z_L_rightChild).cls) = true ∧ ((zY z_L_rightChild).cls ≠ "java/lang/invoke/MethodHandle" ∧ (zY z_L_rightChild).cls ≠ "java/lang/invoke/VarHandle" ∧ (parseMethodDescriptor (zY z_L_rightChild).desc).map (fun d => d.parameters.length) = some 3) ∧ inALL (.static (zY z_L_rightChild)) = true := ⟨ALL_at 1006 (by decide +kernel) rfl, (inALL_at 109 (by decide +kernel) rfl), by decide +kernel, (inALL_at 1005 (by decide +kernel) rfl)⟩
def z_L_parent : MZ := (yL_parent, cL_parent, 4, (some .int), [(0, .aload_n 2, 1), (1, .iconst 0, 1), (2, .aload_n 0, 1), (3, .iload_n 1, 1), (4, .invokevirtual 50, 3), (7, .i2l, 1), (8, .lastore, 1), (9, .goto 6, 3), (12, .astore_n 3, 1), (13, .iconst 1, 1), (14, .ireturn, 1), (15, .iconst 0, 1), (16, .ireturn, 1)], [])
set_option maxRecDepth 20000 in
theorem zo_L_parent : ZOK z_L_parent := ⟨by decide +kernel, by intro q hq; cases hq⟩
set_option maxRecDepth 20000 in
theorem k_L_parent : Cond.codeWith (zY z_L_parent) (zB z_L_parent) (zN z_L_parent) (zR z_L_parent) [((0 : Nat), (9 : Nat), (12 : Nat), (13 : Nat))] ∈ ALL ∧ inALL (.initialized (zY z_L_parent).cls) = true ∧ ((zY z_L_parent).cls ≠ "java/lang/invoke/MethodHandle" ∧ (zY z_L_parent).cls ≠ "java/lang/invoke/VarHandle" ∧ (parseMethodDescriptor (zY z_L_parent).desc).map (fun d => d.parameters.length) = some 3) ∧ inALL (.static (zY z_L_parent)) = true := ⟨ALL_at 1013 (by decide +kernel) rfl, (inALL_at 109 (by decide +kernel) rfl), by decide +kernel, (inALL_at 1012 (by decide +kernel) rfl)⟩
def z_L_rank : MZ := (yL_rank, cL_rank, 4, (some .int), [(0, .aload_n 2, 1), (1, .iconst 0, 1), (2, .aload_n 0, 1), (3, .iload_n 1, 1), (4, .invokevirtual 53, 3), (7, .i2l, 1), (8, .lastore, 1), (9, .goto 6, 3), (12, .astore_n 3, 1), (13, .iconst 1, 1), (14, .ireturn, 1), (15, .iconst 0, 1), (16, .ireturn, 1)], [])
set_option maxRecDepth 20000 in
theorem zo_L_rank : ZOK z_L_rank := ⟨by decide +kernel, by intro q hq; cases hq⟩
set_option maxRecDepth 20000 in
theorem k_L_rank : Cond.codeWith (zY z_L_rank) (zB z_L_rank) (zN z_L_rank) (zR z_L_rank) [((0 : Nat), (9 : Nat), (12 : Nat), (13 : Nat))] ∈ ALL ∧ inALL (.initialized (zY z_L_rank).cls) = true ∧ ((zY z_L_rank).cls ≠ "java/lang/invoke/MethodHandle" ∧ (zY z_L_rank).cls ≠ "java/lang/invoke/VarHandle" ∧ (parseMethodDescriptor (zY z_L_rank).desc).map (fun d => d.parameters.length) = some 3) ∧ inALL (.static (zY z_L_rank)) = true := ⟨ALL_at 1020 (by decide +kernel) rfl, (inALL_at 109 (by decide +kernel) rfl), by decide +kernel, (inALL_at 1019 (by decide +kernel) rfl)⟩
def z_L_depth : MZ := (yL_depth, cL_depth, 4, (some .int), [(0, .aload_n 2, 1), (1, .iconst 0, 1), (2, .aload_n 0, 1), (3, .iload_n 1, 1), (4, .invokevirtual 56, 3), (7, .i2l, 1), (8, .lastore, 1), (9, .goto 9, 3), (12, .astore_n 3, 1), (13, .iconst 1, 1), (14, .ireturn, 1), (15, .astore_n 3, 1), (16, .iconst 2, 1), (17, .ireturn, 1), (18, .iconst 0, 1), (19, .ireturn, 1)], [])
set_option maxRecDepth 20000 in
theorem zo_L_depth : ZOK z_L_depth := ⟨by decide +kernel, by intro q hq; cases hq⟩
set_option maxRecDepth 20000 in
theorem k_L_depth : Cond.codeWith (zY z_L_depth) (zB z_L_depth) (zN z_L_depth) (zR z_L_depth) [((0 : Nat), (9 : Nat), (12 : Nat), (13 : Nat)), ((0 : Nat), (9 : Nat), (15 : Nat), (59 : Nat))] ∈ ALL ∧ inALL (.initialized (zY z_L_depth).cls) = true ∧ ((zY z_L_depth).cls ≠ "java/lang/invoke/MethodHandle" ∧ (zY z_L_depth).cls ≠ "java/lang/invoke/VarHandle" ∧ (parseMethodDescriptor (zY z_L_depth).desc).map (fun d => d.parameters.length) = some 3) ∧ inALL (.static (zY z_L_depth)) = true := ⟨ALL_at 1028 (by decide +kernel) rfl, (inALL_at 109 (by decide +kernel) rfl), by decide +kernel, (inALL_at 1027 (by decide +kernel) rfl)⟩
def z_L_height : MZ := (yL_height, cL_height, 4, (some .int), [(0, .aload_n 2, 1), (1, .iconst 0, 1), (2, .aload_n 0, 1), (3, .iload_n 1, 1), (4, .invokevirtual 61, 3), (7, .i2l, 1), (8, .lastore, 1), (9, .goto 6, 3), (12, .astore_n 3, 1), (13, .iconst 1, 1), (14, .ireturn, 1), (15, .iconst 0, 1), (16, .ireturn, 1)], [])
set_option maxRecDepth 20000 in
theorem zo_L_height : ZOK z_L_height := ⟨by decide +kernel, by intro q hq; cases hq⟩
set_option maxRecDepth 20000 in
theorem k_L_height : Cond.codeWith (zY z_L_height) (zB z_L_height) (zN z_L_height) (zR z_L_height) [((0 : Nat), (9 : Nat), (12 : Nat), (13 : Nat))] ∈ ALL ∧ inALL (.initialized (zY z_L_height).cls) = true ∧ ((zY z_L_height).cls ≠ "java/lang/invoke/MethodHandle" ∧ (zY z_L_height).cls ≠ "java/lang/invoke/VarHandle" ∧ (parseMethodDescriptor (zY z_L_height).desc).map (fun d => d.parameters.length) = some 3) ∧ inALL (.static (zY z_L_height)) = true := ⟨ALL_at 1060 (by decide +kernel) rfl, (inALL_at 109 (by decide +kernel) rfl), by decide +kernel, (inALL_at 1059 (by decide +kernel) rfl)⟩
def z_L_size : MZ := (yL_size, cL_size, 4, (some .int), [(0, .aload_n 2, 1), (1, .iconst 0, 1), (2, .aload_n 0, 1), (3, .iload_n 1, 1), (4, .invokevirtual 64, 3), (7, .i2l, 1), (8, .lastore, 1), (9, .goto 6, 3), (12, .astore_n 3, 1), (13, .iconst 1, 1), (14, .ireturn, 1), (15, .iconst 0, 1), (16, .ireturn, 1)], [])
set_option maxRecDepth 20000 in
theorem zo_L_size : ZOK z_L_size := ⟨by decide +kernel, by intro q hq; cases hq⟩
set_option maxRecDepth 20000 in
theorem k_L_size : Cond.codeWith (zY z_L_size) (zB z_L_size) (zN z_L_size) (zR z_L_size) [((0 : Nat), (9 : Nat), (12 : Nat), (13 : Nat))] ∈ ALL ∧ inALL (.initialized (zY z_L_size).cls) = true ∧ ((zY z_L_size).cls ≠ "java/lang/invoke/MethodHandle" ∧ (zY z_L_size).cls ≠ "java/lang/invoke/VarHandle" ∧ (parseMethodDescriptor (zY z_L_size).desc).map (fun d => d.parameters.length) = some 3) ∧ inALL (.static (zY z_L_size)) = true := ⟨ALL_at 1075 (by decide +kernel) rfl, (inALL_at 109 (by decide +kernel) rfl), by decide +kernel, (inALL_at 1074 (by decide +kernel) rfl)⟩
def z_L_jobAt : MZ := (yL_jobAt, cL_jobAt, 5, (some .int), [(0, .aload_n 3, 1), (1, .iconst 0, 1), (2, .aload_n 0, 1), (3, .iload_n 1, 1), (4, .iload_n 2, 1), (5, .invokevirtual 67, 3), (8, .i2l, 1), (9, .lastore, 1), (10, .goto 7, 3), (13, .astore 4, 2), (15, .iconst 1, 1), (16, .ireturn, 1), (17, .iconst 0, 1), (18, .ireturn, 1)], [])
set_option maxRecDepth 20000 in
theorem zo_L_jobAt : ZOK z_L_jobAt := ⟨by decide +kernel, by intro q hq; cases hq⟩
set_option maxRecDepth 20000 in
theorem k_L_jobAt : Cond.codeWith (zY z_L_jobAt) (zB z_L_jobAt) (zN z_L_jobAt) (zR z_L_jobAt) [((0 : Nat), (10 : Nat), (13 : Nat), (13 : Nat))] ∈ ALL ∧ inALL (.initialized (zY z_L_jobAt).cls) = true ∧ ((zY z_L_jobAt).cls ≠ "java/lang/invoke/MethodHandle" ∧ (zY z_L_jobAt).cls ≠ "java/lang/invoke/VarHandle" ∧ (parseMethodDescriptor (zY z_L_jobAt).desc).map (fun d => d.parameters.length) = some 4) ∧ inALL (.static (zY z_L_jobAt)) = true := ⟨ALL_at 1086 (by decide +kernel) rfl, (inALL_at 109 (by decide +kernel) rfl), by decide +kernel, (inALL_at 1085 (by decide +kernel) rfl)⟩
def z_L_positionOf : MZ := (yL_positionOf, cL_positionOf, 4, (some .int), [(0, .aload_n 2, 1), (1, .iconst 0, 1), (2, .aload_n 0, 1), (3, .iload_n 1, 1), (4, .invokevirtual 70, 3), (7, .i2l, 1), (8, .lastore, 1), (9, .goto 9, 3), (12, .astore_n 3, 1), (13, .iconst 1, 1), (14, .ireturn, 1), (15, .astore_n 3, 1), (16, .iconst 2, 1), (17, .ireturn, 1), (18, .iconst 0, 1), (19, .ireturn, 1)], [])
set_option maxRecDepth 20000 in
theorem zo_L_positionOf : ZOK z_L_positionOf := ⟨by decide +kernel, by intro q hq; cases hq⟩
set_option maxRecDepth 20000 in
theorem k_L_positionOf : Cond.codeWith (zY z_L_positionOf) (zB z_L_positionOf) (zN z_L_positionOf) (zR z_L_positionOf) [((0 : Nat), (9 : Nat), (12 : Nat), (13 : Nat)), ((0 : Nat), (9 : Nat), (15 : Nat), (59 : Nat))] ∈ ALL ∧ inALL (.initialized (zY z_L_positionOf).cls) = true ∧ ((zY z_L_positionOf).cls ≠ "java/lang/invoke/MethodHandle" ∧ (zY z_L_positionOf).cls ≠ "java/lang/invoke/VarHandle" ∧ (parseMethodDescriptor (zY z_L_positionOf).desc).map (fun d => d.parameters.length) = some 3) ∧ inALL (.static (zY z_L_positionOf)) = true := ⟨ALL_at 1094 (by decide +kernel) rfl, (inALL_at 109 (by decide +kernel) rfl), by decide +kernel, (inALL_at 1093 (by decide +kernel) rfl)⟩
def z_L_pagesBefore : MZ := (yL_pagesBefore, cL_pagesBefore, 4, (some .int), [(0, .aload_n 2, 1), (1, .iconst 0, 1), (2, .aload_n 0, 1), (3, .iload_n 1, 1), (4, .invokevirtual 73, 3), (7, .i2l, 1), (8, .lastore, 1), (9, .goto 9, 3), (12, .astore_n 3, 1), (13, .iconst 1, 1), (14, .ireturn, 1), (15, .astore_n 3, 1), (16, .iconst 2, 1), (17, .ireturn, 1), (18, .iconst 0, 1), (19, .ireturn, 1)], [])
set_option maxRecDepth 20000 in
theorem zo_L_pagesBefore : ZOK z_L_pagesBefore := ⟨by decide +kernel, by intro q hq; cases hq⟩
set_option maxRecDepth 20000 in
theorem k_L_pagesBefore : Cond.codeWith (zY z_L_pagesBefore) (zB z_L_pagesBefore) (zN z_L_pagesBefore) (zR z_L_pagesBefore) [((0 : Nat), (9 : Nat), (12 : Nat), (13 : Nat)), ((0 : Nat), (9 : Nat), (15 : Nat), (59 : Nat))] ∈ ALL ∧ inALL (.initialized (zY z_L_pagesBefore).cls) = true ∧ ((zY z_L_pagesBefore).cls ≠ "java/lang/invoke/MethodHandle" ∧ (zY z_L_pagesBefore).cls ≠ "java/lang/invoke/VarHandle" ∧ (parseMethodDescriptor (zY z_L_pagesBefore).desc).map (fun d => d.parameters.length) = some 3) ∧ inALL (.static (zY z_L_pagesBefore)) = true := ⟨ALL_at 1106 (by decide +kernel) rfl, (inALL_at 109 (by decide +kernel) rfl), by decide +kernel, (inALL_at 1105 (by decide +kernel) rfl)⟩
def z_L_minutesUntilPrinted : MZ := (yL_minutesUntilPrinted, cL_minutesUntilPrinted, 4, (some .int), [(0, .aload_n 2, 1), (1, .iconst 0, 1), (2, .aload_n 0, 1), (3, .iload_n 1, 1), (4, .invokevirtual 76, 3), (7, .i2l, 1), (8, .lastore, 1), (9, .goto 9, 3), (12, .astore_n 3, 1), (13, .iconst 1, 1), (14, .ireturn, 1), (15, .astore_n 3, 1), (16, .iconst 2, 1), (17, .ireturn, 1), (18, .iconst 0, 1), (19, .ireturn, 1)], [])
set_option maxRecDepth 20000 in
theorem zo_L_minutesUntilPrinted : ZOK z_L_minutesUntilPrinted := ⟨by decide +kernel, by intro q hq; cases hq⟩
set_option maxRecDepth 20000 in
theorem k_L_minutesUntilPrinted : Cond.codeWith (zY z_L_minutesUntilPrinted) (zB z_L_minutesUntilPrinted) (zN z_L_minutesUntilPrinted) (zR z_L_minutesUntilPrinted) [((0 : Nat), (9 : Nat), (12 : Nat), (13 : Nat)), ((0 : Nat), (9 : Nat), (15 : Nat), (59 : Nat))] ∈ ALL ∧ inALL (.initialized (zY z_L_minutesUntilPrinted).cls) = true ∧ ((zY z_L_minutesUntilPrinted).cls ≠ "java/lang/invoke/MethodHandle" ∧ (zY z_L_minutesUntilPrinted).cls ≠ "java/lang/invoke/VarHandle" ∧ (parseMethodDescriptor (zY z_L_minutesUntilPrinted).desc).map (fun d => d.parameters.length) = some 3) ∧ inALL (.static (zY z_L_minutesUntilPrinted)) = true := ⟨ALL_at 1117 (by decide +kernel) rfl, (inALL_at 109 (by decide +kernel) rfl), by decide +kernel, (inALL_at 1116 (by decide +kernel) rfl)⟩
def z_L_waitingPages : MZ := (yL_waitingPages, cL_waitingPages, 4, (some .int), [(0, .aload_n 2, 1), (1, .iconst 0, 1), (2, .aload_n 0, 1), (3, .iload_n 1, 1), (4, .invokevirtual 79, 3), (7, .i2l, 1), (8, .lastore, 1), (9, .goto 6, 3), (12, .astore_n 3, 1), (13, .iconst 1, 1), (14, .ireturn, 1), (15, .iconst 0, 1), (16, .ireturn, 1)], [])
set_option maxRecDepth 20000 in
theorem zo_L_waitingPages : ZOK z_L_waitingPages := ⟨by decide +kernel, by intro q hq; cases hq⟩
set_option maxRecDepth 20000 in
theorem k_L_waitingPages : Cond.codeWith (zY z_L_waitingPages) (zB z_L_waitingPages) (zN z_L_waitingPages) (zR z_L_waitingPages) [((0 : Nat), (9 : Nat), (12 : Nat), (13 : Nat))] ∈ ALL ∧ inALL (.initialized (zY z_L_waitingPages).cls) = true ∧ ((zY z_L_waitingPages).cls ≠ "java/lang/invoke/MethodHandle" ∧ (zY z_L_waitingPages).cls ≠ "java/lang/invoke/VarHandle" ∧ (parseMethodDescriptor (zY z_L_waitingPages).desc).map (fun d => d.parameters.length) = some 3) ∧ inALL (.static (zY z_L_waitingPages)) = true := ⟨ALL_at 1124 (by decide +kernel) rfl, (inALL_at 109 (by decide +kernel) rfl), by decide +kernel, (inALL_at 1123 (by decide +kernel) rfl)⟩
def z_L_printedPages : MZ := (yL_printedPages, cL_printedPages, 4, (some .int), [(0, .aload_n 2, 1), (1, .iconst 0, 1), (2, .aload_n 0, 1), (3, .iload_n 1, 1), (4, .invokevirtual 82, 3), (7, .i2l, 1), (8, .lastore, 1), (9, .goto 6, 3), (12, .astore_n 3, 1), (13, .iconst 1, 1), (14, .ireturn, 1), (15, .iconst 0, 1), (16, .ireturn, 1)], [])
set_option maxRecDepth 20000 in
theorem zo_L_printedPages : ZOK z_L_printedPages := ⟨by decide +kernel, by intro q hq; cases hq⟩
set_option maxRecDepth 20000 in
theorem k_L_printedPages : Cond.codeWith (zY z_L_printedPages) (zB z_L_printedPages) (zN z_L_printedPages) (zR z_L_printedPages) [((0 : Nat), (9 : Nat), (12 : Nat), (13 : Nat))] ∈ ALL ∧ inALL (.initialized (zY z_L_printedPages).cls) = true ∧ ((zY z_L_printedPages).cls ≠ "java/lang/invoke/MethodHandle" ∧ (zY z_L_printedPages).cls ≠ "java/lang/invoke/VarHandle" ∧ (parseMethodDescriptor (zY z_L_printedPages).desc).map (fun d => d.parameters.length) = some 3) ∧ inALL (.static (zY z_L_printedPages)) = true := ⟨ALL_at 1131 (by decide +kernel) rfl, (inALL_at 109 (by decide +kernel) rfl), by decide +kernel, (inALL_at 1130 (by decide +kernel) rfl)⟩
def z_L_speed : MZ := (yL_speed, cL_speed, 4, (some .int), [(0, .aload_n 2, 1), (1, .iconst 0, 1), (2, .aload_n 0, 1), (3, .iload_n 1, 1), (4, .invokevirtual 85, 3), (7, .i2l, 1), (8, .lastore, 1), (9, .goto 6, 3), (12, .astore_n 3, 1), (13, .iconst 1, 1), (14, .ireturn, 1), (15, .iconst 0, 1), (16, .ireturn, 1)], [])
set_option maxRecDepth 20000 in
theorem zo_L_speed : ZOK z_L_speed := ⟨by decide +kernel, by intro q hq; cases hq⟩
set_option maxRecDepth 20000 in
theorem k_L_speed : Cond.codeWith (zY z_L_speed) (zB z_L_speed) (zN z_L_speed) (zR z_L_speed) [((0 : Nat), (9 : Nat), (12 : Nat), (13 : Nat))] ∈ ALL ∧ inALL (.initialized (zY z_L_speed).cls) = true ∧ ((zY z_L_speed).cls ≠ "java/lang/invoke/MethodHandle" ∧ (zY z_L_speed).cls ≠ "java/lang/invoke/VarHandle" ∧ (parseMethodDescriptor (zY z_L_speed).desc).map (fun d => d.parameters.length) = some 3) ∧ inALL (.static (zY z_L_speed)) = true := ⟨ALL_at 1138 (by decide +kernel) rfl, (inALL_at 109 (by decide +kernel) rfl), by decide +kernel, (inALL_at 1137 (by decide +kernel) rfl)⟩
def z_L_isPaused : MZ := (yL_isPaused, cL_isPaused, 4, (some .int), [(0, .aload_n 2, 1), (1, .iconst 0, 1), (2, .aload_n 0, 1), (3, .iload_n 1, 1), (4, .invokevirtual 88, 3), (7, .ifCond .eq 7, 3), (10, .lconst 1, 1), (11, .goto 4, 3), (14, .lconst 0, 1), (15, .lastore, 1), (16, .goto 6, 3), (19, .astore_n 3, 1), (20, .iconst 1, 1), (21, .ireturn, 1), (22, .iconst 0, 1), (23, .ireturn, 1)], [])
set_option maxRecDepth 20000 in
theorem zo_L_isPaused : ZOK z_L_isPaused := ⟨by decide +kernel, by intro q hq; cases hq⟩
set_option maxRecDepth 20000 in
theorem k_L_isPaused : Cond.codeWith (zY z_L_isPaused) (zB z_L_isPaused) (zN z_L_isPaused) (zR z_L_isPaused) [((0 : Nat), (16 : Nat), (19 : Nat), (13 : Nat))] ∈ ALL ∧ inALL (.initialized (zY z_L_isPaused).cls) = true ∧ ((zY z_L_isPaused).cls ≠ "java/lang/invoke/MethodHandle" ∧ (zY z_L_isPaused).cls ≠ "java/lang/invoke/VarHandle" ∧ (parseMethodDescriptor (zY z_L_isPaused).desc).map (fun d => d.parameters.length) = some 3) ∧ inALL (.static (zY z_L_isPaused)) = true := ⟨ALL_at 1145 (by decide +kernel) rfl, (inALL_at 109 (by decide +kernel) rfl), by decide +kernel, (inALL_at 1144 (by decide +kernel) rfl)⟩
def z_L_waitingPagesOfOwner : MZ := (yL_waitingPagesOfOwner, cL_waitingPagesOfOwner, 4, (some .int), [(0, .aload_n 2, 1), (1, .iconst 0, 1), (2, .aload_n 0, 1), (3, .iload_n 1, 1), (4, .invokevirtual 91, 3), (7, .i2l, 1), (8, .lastore, 1), (9, .goto 6, 3), (12, .astore_n 3, 1), (13, .iconst 1, 1), (14, .ireturn, 1), (15, .iconst 0, 1), (16, .ireturn, 1)], [])
set_option maxRecDepth 20000 in
theorem zo_L_waitingPagesOfOwner : ZOK z_L_waitingPagesOfOwner := ⟨by decide +kernel, by intro q hq; cases hq⟩
set_option maxRecDepth 20000 in
theorem k_L_waitingPagesOfOwner : Cond.codeWith (zY z_L_waitingPagesOfOwner) (zB z_L_waitingPagesOfOwner) (zN z_L_waitingPagesOfOwner) (zR z_L_waitingPagesOfOwner) [((0 : Nat), (9 : Nat), (12 : Nat), (13 : Nat))] ∈ ALL ∧ inALL (.initialized (zY z_L_waitingPagesOfOwner).cls) = true ∧ ((zY z_L_waitingPagesOfOwner).cls ≠ "java/lang/invoke/MethodHandle" ∧ (zY z_L_waitingPagesOfOwner).cls ≠ "java/lang/invoke/VarHandle" ∧ (parseMethodDescriptor (zY z_L_waitingPagesOfOwner).desc).map (fun d => d.parameters.length) = some 3) ∧ inALL (.static (zY z_L_waitingPagesOfOwner)) = true := ⟨ALL_at 1152 (by decide +kernel) rfl, (inALL_at 109 (by decide +kernel) rfl), by decide +kernel, (inALL_at 1151 (by decide +kernel) rfl)⟩
def z_L_printedPagesOfOwner : MZ := (yL_printedPagesOfOwner, cL_printedPagesOfOwner, 4, (some .int), [(0, .aload_n 2, 1), (1, .iconst 0, 1), (2, .aload_n 0, 1), (3, .iload_n 1, 1), (4, .invokevirtual 94, 3), (7, .i2l, 1), (8, .lastore, 1), (9, .goto 6, 3), (12, .astore_n 3, 1), (13, .iconst 1, 1), (14, .ireturn, 1), (15, .iconst 0, 1), (16, .ireturn, 1)], [])
set_option maxRecDepth 20000 in
theorem zo_L_printedPagesOfOwner : ZOK z_L_printedPagesOfOwner := ⟨by decide +kernel, by intro q hq; cases hq⟩
set_option maxRecDepth 20000 in
theorem k_L_printedPagesOfOwner : Cond.codeWith (zY z_L_printedPagesOfOwner) (zB z_L_printedPagesOfOwner) (zN z_L_printedPagesOfOwner) (zR z_L_printedPagesOfOwner) [((0 : Nat), (9 : Nat), (12 : Nat), (13 : Nat))] ∈ ALL ∧ inALL (.initialized (zY z_L_printedPagesOfOwner).cls) = true ∧ ((zY z_L_printedPagesOfOwner).cls ≠ "java/lang/invoke/MethodHandle" ∧ (zY z_L_printedPagesOfOwner).cls ≠ "java/lang/invoke/VarHandle" ∧ (parseMethodDescriptor (zY z_L_printedPagesOfOwner).desc).map (fun d => d.parameters.length) = some 3) ∧ inALL (.static (zY z_L_printedPagesOfOwner)) = true := ⟨ALL_at 1163 (by decide +kernel) rfl, (inALL_at 109 (by decide +kernel) rfl), by decide +kernel, (inALL_at 1162 (by decide +kernel) rfl)⟩
def z_L_printingObstacle : MZ := (yL_printingObstacle, cL_printingObstacle, 4, (some .int), [(0, .aload_n 2, 1), (1, .iconst 0, 1), (2, .aload_n 0, 1), (3, .iload_n 1, 1), (4, .invokevirtual 97, 3), (7, .i2l, 1), (8, .lastore, 1), (9, .goto 6, 3), (12, .astore_n 3, 1), (13, .iconst 1, 1), (14, .ireturn, 1), (15, .iconst 0, 1), (16, .ireturn, 1)], [])
set_option maxRecDepth 20000 in
theorem zo_L_printingObstacle : ZOK z_L_printingObstacle := ⟨by decide +kernel, by intro q hq; cases hq⟩
set_option maxRecDepth 20000 in
theorem k_L_printingObstacle : Cond.codeWith (zY z_L_printingObstacle) (zB z_L_printingObstacle) (zN z_L_printingObstacle) (zR z_L_printingObstacle) [((0 : Nat), (9 : Nat), (12 : Nat), (13 : Nat))] ∈ ALL ∧ inALL (.initialized (zY z_L_printingObstacle).cls) = true ∧ ((zY z_L_printingObstacle).cls ≠ "java/lang/invoke/MethodHandle" ∧ (zY z_L_printingObstacle).cls ≠ "java/lang/invoke/VarHandle" ∧ (parseMethodDescriptor (zY z_L_printingObstacle).desc).map (fun d => d.parameters.length) = some 3) ∧ inALL (.static (zY z_L_printingObstacle)) = true := ⟨ALL_at 1170 (by decide +kernel) rfl, (inALL_at 109 (by decide +kernel) rfl), by decide +kernel, (inALL_at 1169 (by decide +kernel) rfl)⟩
def z_L_mergeCost : MZ := (yL_mergeCost, cL_mergeCost, 5, (some .int), [(0, .aload_n 3, 1), (1, .iconst 0, 1), (2, .aload_n 0, 1), (3, .iload_n 1, 1), (4, .iload_n 2, 1), (5, .invokevirtual 100, 3), (8, .i2l, 1), (9, .lastore, 1), (10, .goto 11, 3), (13, .astore 4, 2), (15, .iconst 1, 1), (16, .ireturn, 1), (17, .astore 4, 2), (19, .iconst 2, 1), (20, .ireturn, 1), (21, .iconst 0, 1), (22, .ireturn, 1)], [])
set_option maxRecDepth 20000 in
theorem zo_L_mergeCost : ZOK z_L_mergeCost := ⟨by decide +kernel, by intro q hq; cases hq⟩
set_option maxRecDepth 20000 in
theorem k_L_mergeCost : Cond.codeWith (zY z_L_mergeCost) (zB z_L_mergeCost) (zN z_L_mergeCost) (zR z_L_mergeCost) [((0 : Nat), (10 : Nat), (13 : Nat), (13 : Nat)), ((0 : Nat), (10 : Nat), (17 : Nat), (103 : Nat))] ∈ ALL ∧ inALL (.initialized (zY z_L_mergeCost).cls) = true ∧ ((zY z_L_mergeCost).cls ≠ "java/lang/invoke/MethodHandle" ∧ (zY z_L_mergeCost).cls ≠ "java/lang/invoke/VarHandle" ∧ (parseMethodDescriptor (zY z_L_mergeCost).desc).map (fun d => d.parameters.length) = some 4) ∧ inALL (.static (zY z_L_mergeCost)) = true := ⟨ALL_at 1177 (by decide +kernel) rfl, (inALL_at 109 (by decide +kernel) rfl), by decide +kernel, (inALL_at 1176 (by decide +kernel) rfl)⟩
def z_L_rankAfterMerge : MZ := (yL_rankAfterMerge, cL_rankAfterMerge, 5, (some .int), [(0, .aload_n 3, 1), (1, .iconst 0, 1), (2, .aload_n 0, 1), (3, .iload_n 1, 1), (4, .iload_n 2, 1), (5, .invokevirtual 105, 3), (8, .i2l, 1), (9, .lastore, 1), (10, .goto 11, 3), (13, .astore 4, 2), (15, .iconst 1, 1), (16, .ireturn, 1), (17, .astore 4, 2), (19, .iconst 2, 1), (20, .ireturn, 1), (21, .iconst 0, 1), (22, .ireturn, 1)], [])
set_option maxRecDepth 20000 in
theorem zo_L_rankAfterMerge : ZOK z_L_rankAfterMerge := ⟨by decide +kernel, by intro q hq; cases hq⟩
set_option maxRecDepth 20000 in
theorem k_L_rankAfterMerge : Cond.codeWith (zY z_L_rankAfterMerge) (zB z_L_rankAfterMerge) (zN z_L_rankAfterMerge) (zR z_L_rankAfterMerge) [((0 : Nat), (10 : Nat), (13 : Nat), (13 : Nat)), ((0 : Nat), (10 : Nat), (17 : Nat), (103 : Nat))] ∈ ALL ∧ inALL (.initialized (zY z_L_rankAfterMerge).cls) = true ∧ ((zY z_L_rankAfterMerge).cls ≠ "java/lang/invoke/MethodHandle" ∧ (zY z_L_rankAfterMerge).cls ≠ "java/lang/invoke/VarHandle" ∧ (parseMethodDescriptor (zY z_L_rankAfterMerge).desc).map (fun d => d.parameters.length) = some 4) ∧ inALL (.static (zY z_L_rankAfterMerge)) = true := ⟨ALL_at 1209 (by decide +kernel) rfl, (inALL_at 109 (by decide +kernel) rfl), by decide +kernel, (inALL_at 1208 (by decide +kernel) rfl)⟩
def z_L_positionWith : MZ := (yL_positionWith, cL_positionWith, 5, (some .int), [(0, .aload_n 3, 1), (1, .iconst 0, 1), (2, .aload_n 0, 1), (3, .iload_n 1, 1), (4, .iload_n 2, 1), (5, .invokevirtual 108, 3), (8, .i2l, 1), (9, .lastore, 1), (10, .goto 15, 3), (13, .astore 4, 2), (15, .iconst 1, 1), (16, .ireturn, 1), (17, .astore 4, 2), (19, .iconst 2, 1), (20, .ireturn, 1), (21, .astore 4, 2), (23, .iconst 3, 1), (24, .ireturn, 1), (25, .iconst 0, 1), (26, .ireturn, 1)], [])
set_option maxRecDepth 20000 in
theorem zo_L_positionWith : ZOK z_L_positionWith := ⟨by decide +kernel, by intro q hq; cases hq⟩
set_option maxRecDepth 20000 in
theorem k_L_positionWith : Cond.codeWith (zY z_L_positionWith) (zB z_L_positionWith) (zN z_L_positionWith) (zR z_L_positionWith) [((0 : Nat), (10 : Nat), (13 : Nat), (13 : Nat)), ((0 : Nat), (10 : Nat), (17 : Nat), (103 : Nat)), ((0 : Nat), (10 : Nat), (21 : Nat), (59 : Nat))] ∈ ALL ∧ inALL (.initialized (zY z_L_positionWith).cls) = true ∧ ((zY z_L_positionWith).cls ≠ "java/lang/invoke/MethodHandle" ∧ (zY z_L_positionWith).cls ≠ "java/lang/invoke/VarHandle" ∧ (parseMethodDescriptor (zY z_L_positionWith).desc).map (fun d => d.parameters.length) = some 4) ∧ inALL (.static (zY z_L_positionWith)) = true := ⟨ALL_at 1221 (by decide +kernel) rfl, (inALL_at 109 (by decide +kernel) rfl), by decide +kernel, (inALL_at 1220 (by decide +kernel) rfl)⟩
def z_L_submit : MZ := (yL_submit, cL_submit, 7, (some .int), [(0, .aload 5, 2), (2, .iconst 0, 1), (3, .aload_n 0, 1), (4, .iload_n 1, 1), (5, .iload_n 2, 1), (6, .iload_n 3, 1), (7, .iload 4, 2), (9, .invokevirtual 111, 3), (12, .i2l, 1), (13, .lastore, 1), (14, .goto 15, 3), (17, .astore 6, 2), (19, .iconst 1, 1), (20, .ireturn, 1), (21, .astore 6, 2), (23, .iconst 2, 1), (24, .ireturn, 1), (25, .astore 6, 2), (27, .iconst 3, 1), (28, .ireturn, 1), (29, .iconst 0, 1), (30, .ireturn, 1)], [])
set_option maxRecDepth 20000 in
theorem zo_L_submit : ZOK z_L_submit := ⟨by decide +kernel, by intro q hq; cases hq⟩
set_option maxRecDepth 20000 in
theorem k_L_submit : Cond.codeWith (zY z_L_submit) (zB z_L_submit) (zN z_L_submit) (zR z_L_submit) [((0 : Nat), (14 : Nat), (17 : Nat), (13 : Nat)), ((0 : Nat), (14 : Nat), (21 : Nat), (103 : Nat)), ((0 : Nat), (14 : Nat), (25 : Nat), (59 : Nat))] ∈ ALL ∧ inALL (.initialized (zY z_L_submit).cls) = true ∧ ((zY z_L_submit).cls ≠ "java/lang/invoke/MethodHandle" ∧ (zY z_L_submit).cls ≠ "java/lang/invoke/VarHandle" ∧ (parseMethodDescriptor (zY z_L_submit).desc).map (fun d => d.parameters.length) = some 6) ∧ inALL (.static (zY z_L_submit)) = true := ⟨ALL_at 1232 (by decide +kernel) rfl, (inALL_at 109 (by decide +kernel) rfl), by decide +kernel, (inALL_at 1231 (by decide +kernel) rfl)⟩
def z_L_printNext : MZ := (yL_printNext, cL_printNext, 4, (some .int), [(0, .aload_n 2, 1), (1, .iconst 0, 1), (2, .aload_n 0, 1), (3, .iload_n 1, 1), (4, .invokevirtual 115, 3), (7, .i2l, 1), (8, .lastore, 1), (9, .goto 9, 3), (12, .astore_n 3, 1), (13, .iconst 1, 1), (14, .ireturn, 1), (15, .astore_n 3, 1), (16, .iconst 2, 1), (17, .ireturn, 1), (18, .iconst 0, 1), (19, .ireturn, 1)], [])
set_option maxRecDepth 20000 in
theorem zo_L_printNext : ZOK z_L_printNext := ⟨by decide +kernel, by intro q hq; cases hq⟩
set_option maxRecDepth 20000 in
theorem k_L_printNext : Cond.codeWith (zY z_L_printNext) (zB z_L_printNext) (zN z_L_printNext) (zR z_L_printNext) [((0 : Nat), (9 : Nat), (12 : Nat), (13 : Nat)), ((0 : Nat), (9 : Nat), (15 : Nat), (59 : Nat))] ∈ ALL ∧ inALL (.initialized (zY z_L_printNext).cls) = true ∧ ((zY z_L_printNext).cls ≠ "java/lang/invoke/MethodHandle" ∧ (zY z_L_printNext).cls ≠ "java/lang/invoke/VarHandle" ∧ (parseMethodDescriptor (zY z_L_printNext).desc).map (fun d => d.parameters.length) = some 3) ∧ inALL (.static (zY z_L_printNext)) = true := ⟨ALL_at 1241 (by decide +kernel) rfl, (inALL_at 109 (by decide +kernel) rfl), by decide +kernel, (inALL_at 1240 (by decide +kernel) rfl)⟩
def z_L_cancel : MZ := (yL_cancel, cL_cancel, 4, (some .int), [(0, .aload_n 2, 1), (1, .iconst 0, 1), (2, .aload_n 0, 1), (3, .iload_n 1, 1), (4, .invokevirtual 118, 3), (7, .i2l, 1), (8, .lastore, 1), (9, .goto 9, 3), (12, .astore_n 3, 1), (13, .iconst 1, 1), (14, .ireturn, 1), (15, .astore_n 3, 1), (16, .iconst 2, 1), (17, .ireturn, 1), (18, .iconst 0, 1), (19, .ireturn, 1)], [])
set_option maxRecDepth 20000 in
theorem zo_L_cancel : ZOK z_L_cancel := ⟨by decide +kernel, by intro q hq; cases hq⟩
set_option maxRecDepth 20000 in
theorem k_L_cancel : Cond.codeWith (zY z_L_cancel) (zB z_L_cancel) (zN z_L_cancel) (zR z_L_cancel) [((0 : Nat), (9 : Nat), (12 : Nat), (13 : Nat)), ((0 : Nat), (9 : Nat), (15 : Nat), (59 : Nat))] ∈ ALL ∧ inALL (.initialized (zY z_L_cancel).cls) = true ∧ ((zY z_L_cancel).cls ≠ "java/lang/invoke/MethodHandle" ∧ (zY z_L_cancel).cls ≠ "java/lang/invoke/VarHandle" ∧ (parseMethodDescriptor (zY z_L_cancel).desc).map (fun d => d.parameters.length) = some 3) ∧ inALL (.static (zY z_L_cancel)) = true := ⟨ALL_at 1249 (by decide +kernel) rfl, (inALL_at 109 (by decide +kernel) rfl), by decide +kernel, (inALL_at 1248 (by decide +kernel) rfl)⟩
def z_L_changePriority : MZ := (yL_changePriority, cL_changePriority, 5, (some .int), [(0, .aload_n 3, 1), (1, .iconst 0, 1), (2, .aload_n 0, 1), (3, .iload_n 1, 1), (4, .iload_n 2, 1), (5, .invokevirtual 121, 3), (8, .i2l, 1), (9, .lastore, 1), (10, .goto 15, 3), (13, .astore 4, 2), (15, .iconst 1, 1), (16, .ireturn, 1), (17, .astore 4, 2), (19, .iconst 2, 1), (20, .ireturn, 1), (21, .astore 4, 2), (23, .iconst 3, 1), (24, .ireturn, 1), (25, .iconst 0, 1), (26, .ireturn, 1)], [])
set_option maxRecDepth 20000 in
theorem zo_L_changePriority : ZOK z_L_changePriority := ⟨by decide +kernel, by intro q hq; cases hq⟩
set_option maxRecDepth 20000 in
theorem k_L_changePriority : Cond.codeWith (zY z_L_changePriority) (zB z_L_changePriority) (zN z_L_changePriority) (zR z_L_changePriority) [((0 : Nat), (10 : Nat), (13 : Nat), (13 : Nat)), ((0 : Nat), (10 : Nat), (17 : Nat), (103 : Nat)), ((0 : Nat), (10 : Nat), (21 : Nat), (59 : Nat))] ∈ ALL ∧ inALL (.initialized (zY z_L_changePriority).cls) = true ∧ ((zY z_L_changePriority).cls ≠ "java/lang/invoke/MethodHandle" ∧ (zY z_L_changePriority).cls ≠ "java/lang/invoke/VarHandle" ∧ (parseMethodDescriptor (zY z_L_changePriority).desc).map (fun d => d.parameters.length) = some 4) ∧ inALL (.static (zY z_L_changePriority)) = true := ⟨ALL_at 1256 (by decide +kernel) rfl, (inALL_at 109 (by decide +kernel) rfl), by decide +kernel, (inALL_at 1255 (by decide +kernel) rfl)⟩
def z_L_moveJob : MZ := (yL_moveJob, cL_moveJob, 5, (some .int), [(0, .aload_n 3, 1), (1, .iconst 0, 1), (2, .aload_n 0, 1), (3, .iload_n 1, 1), (4, .iload_n 2, 1), (5, .invokevirtual 124, 3), (8, .i2l, 1), (9, .lastore, 1), (10, .goto 11, 3), (13, .astore 4, 2), (15, .iconst 1, 1), (16, .ireturn, 1), (17, .astore 4, 2), (19, .iconst 2, 1), (20, .ireturn, 1), (21, .iconst 0, 1), (22, .ireturn, 1)], [])
set_option maxRecDepth 20000 in
theorem zo_L_moveJob : ZOK z_L_moveJob := ⟨by decide +kernel, by intro q hq; cases hq⟩
set_option maxRecDepth 20000 in
theorem k_L_moveJob : Cond.codeWith (zY z_L_moveJob) (zB z_L_moveJob) (zN z_L_moveJob) (zR z_L_moveJob) [((0 : Nat), (10 : Nat), (13 : Nat), (13 : Nat)), ((0 : Nat), (10 : Nat), (17 : Nat), (59 : Nat))] ∈ ALL ∧ inALL (.initialized (zY z_L_moveJob).cls) = true ∧ ((zY z_L_moveJob).cls ≠ "java/lang/invoke/MethodHandle" ∧ (zY z_L_moveJob).cls ≠ "java/lang/invoke/VarHandle" ∧ (parseMethodDescriptor (zY z_L_moveJob).desc).map (fun d => d.parameters.length) = some 4) ∧ inALL (.static (zY z_L_moveJob)) = true := ⟨ALL_at 1263 (by decide +kernel) rfl, (inALL_at 109 (by decide +kernel) rfl), by decide +kernel, (inALL_at 1262 (by decide +kernel) rfl)⟩
def z_L_mergeQueues : MZ := (yL_mergeQueues, cL_mergeQueues, 5, (some .int), [(0, .aload_n 3, 1), (1, .iconst 0, 1), (2, .aload_n 0, 1), (3, .iload_n 1, 1), (4, .iload_n 2, 1), (5, .invokevirtual 127, 3), (8, .i2l, 1), (9, .lastore, 1), (10, .goto 11, 3), (13, .astore 4, 2), (15, .iconst 1, 1), (16, .ireturn, 1), (17, .astore 4, 2), (19, .iconst 2, 1), (20, .ireturn, 1), (21, .iconst 0, 1), (22, .ireturn, 1)], [])
set_option maxRecDepth 20000 in
theorem zo_L_mergeQueues : ZOK z_L_mergeQueues := ⟨by decide +kernel, by intro q hq; cases hq⟩
set_option maxRecDepth 20000 in
theorem k_L_mergeQueues : Cond.codeWith (zY z_L_mergeQueues) (zB z_L_mergeQueues) (zN z_L_mergeQueues) (zR z_L_mergeQueues) [((0 : Nat), (10 : Nat), (13 : Nat), (13 : Nat)), ((0 : Nat), (10 : Nat), (17 : Nat), (103 : Nat))] ∈ ALL ∧ inALL (.initialized (zY z_L_mergeQueues).cls) = true ∧ ((zY z_L_mergeQueues).cls ≠ "java/lang/invoke/MethodHandle" ∧ (zY z_L_mergeQueues).cls ≠ "java/lang/invoke/VarHandle" ∧ (parseMethodDescriptor (zY z_L_mergeQueues).desc).map (fun d => d.parameters.length) = some 4) ∧ inALL (.static (zY z_L_mergeQueues)) = true := ⟨ALL_at 1271 (by decide +kernel) rfl, (inALL_at 109 (by decide +kernel) rfl), by decide +kernel, (inALL_at 1270 (by decide +kernel) rfl)⟩
def z_L_setPaused : MZ := (yL_setPaused, cL_setPaused, 5, (some .int), [(0, .aload_n 3, 1), (1, .iconst 0, 1), (2, .aload_n 0, 1), (3, .iload_n 1, 1), (4, .iload_n 2, 1), (5, .invokevirtual 130, 3), (8, .ifCond .eq 7, 3), (11, .lconst 1, 1), (12, .goto 4, 3), (15, .lconst 0, 1), (16, .lastore, 1), (17, .goto 7, 3), (20, .astore 4, 2), (22, .iconst 1, 1), (23, .ireturn, 1), (24, .iconst 0, 1), (25, .ireturn, 1)], [])
set_option maxRecDepth 20000 in
theorem zo_L_setPaused : ZOK z_L_setPaused := ⟨by decide +kernel, by intro q hq; cases hq⟩
set_option maxRecDepth 20000 in
theorem k_L_setPaused : Cond.codeWith (zY z_L_setPaused) (zB z_L_setPaused) (zN z_L_setPaused) (zR z_L_setPaused) [((0 : Nat), (17 : Nat), (20 : Nat), (13 : Nat))] ∈ ALL ∧ inALL (.initialized (zY z_L_setPaused).cls) = true ∧ ((zY z_L_setPaused).cls ≠ "java/lang/invoke/MethodHandle" ∧ (zY z_L_setPaused).cls ≠ "java/lang/invoke/VarHandle" ∧ (parseMethodDescriptor (zY z_L_setPaused).desc).map (fun d => d.parameters.length) = some 4) ∧ inALL (.static (zY z_L_setPaused)) = true := ⟨ALL_at 1278 (by decide +kernel) rfl, (inALL_at 109 (by decide +kernel) rfl), by decide +kernel, (inALL_at 1277 (by decide +kernel) rfl)⟩
def z_L_undo : MZ := (yL_undo, cL_undo, 3, (some .int), [(0, .aload_n 1, 1), (1, .iconst 0, 1), (2, .aload_n 0, 1), (3, .invokevirtual 134, 3), (6, .i2l, 1), (7, .lastore, 1), (8, .goto 6, 3), (11, .astore_n 2, 1), (12, .iconst 1, 1), (13, .ireturn, 1), (14, .iconst 0, 1), (15, .ireturn, 1)], [])
set_option maxRecDepth 20000 in
theorem zo_L_undo : ZOK z_L_undo := ⟨by decide +kernel, by intro q hq; cases hq⟩
set_option maxRecDepth 20000 in
theorem k_L_undo : Cond.codeWith (zY z_L_undo) (zB z_L_undo) (zN z_L_undo) (zR z_L_undo) [((0 : Nat), (8 : Nat), (11 : Nat), (138 : Nat))] ∈ ALL ∧ inALL (.initialized (zY z_L_undo).cls) = true ∧ ((zY z_L_undo).cls ≠ "java/lang/invoke/MethodHandle" ∧ (zY z_L_undo).cls ≠ "java/lang/invoke/VarHandle" ∧ (parseMethodDescriptor (zY z_L_undo).desc).map (fun d => d.parameters.length) = some 2) ∧ inALL (.static (zY z_L_undo)) = true := ⟨ALL_at 1285 (by decide +kernel) rfl, (inALL_at 109 (by decide +kernel) rfl), by decide +kernel, (inALL_at 1284 (by decide +kernel) rfl)⟩
def z_L_writeHeap : MZ := (yL_writeHeap, cL_writeHeap, 4, (some .int), [(0, .aload_n 2, 1), (1, .iconst 0, 1), (2, .aload_n 0, 1), (3, .iload_n 1, 1), (4, .invokevirtual 140, 3), (7, .i2l, 1), (8, .lastore, 1), (9, .goto 6, 3), (12, .astore_n 3, 1), (13, .iconst 1, 1), (14, .ireturn, 1), (15, .iconst 0, 1), (16, .ireturn, 1)], [])
set_option maxRecDepth 20000 in
theorem zo_L_writeHeap : ZOK z_L_writeHeap := ⟨by decide +kernel, by intro q hq; cases hq⟩
set_option maxRecDepth 20000 in
theorem k_L_writeHeap : Cond.codeWith (zY z_L_writeHeap) (zB z_L_writeHeap) (zN z_L_writeHeap) (zR z_L_writeHeap) [((0 : Nat), (9 : Nat), (12 : Nat), (13 : Nat))] ∈ ALL ∧ inALL (.initialized (zY z_L_writeHeap).cls) = true ∧ ((zY z_L_writeHeap).cls ≠ "java/lang/invoke/MethodHandle" ∧ (zY z_L_writeHeap).cls ≠ "java/lang/invoke/VarHandle" ∧ (parseMethodDescriptor (zY z_L_writeHeap).desc).map (fun d => d.parameters.length) = some 3) ∧ inALL (.static (zY z_L_writeHeap)) = true := ⟨ALL_at 1313 (by decide +kernel) rfl, (inALL_at 109 (by decide +kernel) rfl), by decide +kernel, (inALL_at 1312 (by decide +kernel) rfl)⟩
def z_L_restoreState : MZ := (yL_restoreState, cL_restoreState, 3, (some .int), [(0, .aload_n 1, 1), (1, .iconst 0, 1), (2, .aload_n 0, 1), (3, .invokevirtual 143, 3), (6, .i2l, 1), (7, .lastore, 1), (8, .goto 6, 3), (11, .astore_n 2, 1), (12, .iconst 1, 1), (13, .ireturn, 1), (14, .iconst 0, 1), (15, .ireturn, 1)], [])
set_option maxRecDepth 20000 in
theorem zo_L_restoreState : ZOK z_L_restoreState := ⟨by decide +kernel, by intro q hq; cases hq⟩
set_option maxRecDepth 20000 in
theorem k_L_restoreState : Cond.codeWith (zY z_L_restoreState) (zB z_L_restoreState) (zN z_L_restoreState) (zR z_L_restoreState) [((0 : Nat), (8 : Nat), (11 : Nat), (138 : Nat))] ∈ ALL ∧ inALL (.initialized (zY z_L_restoreState).cls) = true ∧ ((zY z_L_restoreState).cls ≠ "java/lang/invoke/MethodHandle" ∧ (zY z_L_restoreState).cls ≠ "java/lang/invoke/VarHandle" ∧ (parseMethodDescriptor (zY z_L_restoreState).desc).map (fun d => d.parameters.length) = some 2) ∧ inALL (.static (zY z_L_restoreState)) = true := ⟨ALL_at 1333 (by decide +kernel) rfl, (inALL_at 109 (by decide +kernel) rfl), by decide +kernel, (inALL_at 1332 (by decide +kernel) rfl)⟩
set_option maxRecDepth 20000 in
theorem l_L_7 : LKA RL 7 z_X8_queueNameByte := Or.inl (inALL_at 844 (by decide +kernel) rfl)
set_option maxRecDepth 20000 in
theorem l_L_15 : LKA RL 15 z_X8_ownerNameByte := Or.inl (inALL_at 927 (by decide +kernel) rfl)
set_option maxRecDepth 20000 in
theorem l_L_18 : LKA RL 18 z_X8_queueOf := Or.inl (inALL_at 939 (by decide +kernel) rfl)
set_option maxRecDepth 20000 in
theorem l_L_22 : LKA RL 22 z_X8_ownerOf := Or.inl (inALL_at 951 (by decide +kernel) rfl)
set_option maxRecDepth 20000 in
theorem l_L_25 : LKA RL 25 z_X8_priority := Or.inl (inALL_at 958 (by decide +kernel) rfl)
set_option maxRecDepth 20000 in
theorem l_L_28 : LKA RL 28 z_X8_pages := Or.inl (inALL_at 965 (by decide +kernel) rfl)
set_option maxRecDepth 20000 in
theorem l_L_31 : LKA RL 31 z_X8_isWaiting := Or.inl (inALL_at 972 (by decide +kernel) rfl)
set_option maxRecDepth 20000 in
theorem l_L_35 : LKA RL 35 z_X8_isPrinted := Or.inl (inALL_at 979 (by decide +kernel) rfl)
set_option maxRecDepth 20000 in
theorem l_L_38 : LKA RL 38 z_X8_isCancelled := Or.inl (inALL_at 986 (by decide +kernel) rfl)
set_option maxRecDepth 20000 in
theorem l_L_41 : LKA RL 41 z_X8_root := Or.inl (inALL_at 993 (by decide +kernel) rfl)
set_option maxRecDepth 20000 in
theorem l_L_44 : LKA RL 44 z_X8_leftChild := Or.inl (inALL_at 1000 (by decide +kernel) rfl)
set_option maxRecDepth 20000 in
theorem l_L_47 : LKA RL 47 z_X8_rightChild := Or.inl (inALL_at 1007 (by decide +kernel) rfl)
set_option maxRecDepth 20000 in
theorem l_L_50 : LKA RL 50 z_X8_parent := Or.inl (inALL_at 1014 (by decide +kernel) rfl)
set_option maxRecDepth 20000 in
theorem l_L_53 : LKA RL 53 z_X8_rank := Or.inl (inALL_at 1021 (by decide +kernel) rfl)
set_option maxRecDepth 20000 in
theorem l_L_56 : LKA RL 56 z_X8_depth := Or.inl (inALL_at 1030 (by decide +kernel) rfl)
set_option maxRecDepth 20000 in
theorem l_L_61 : LKA RL 61 z_X8_height := Or.inl (inALL_at 1061 (by decide +kernel) rfl)
set_option maxRecDepth 20000 in
theorem l_L_64 : LKA RL 64 z_X8_size := Or.inl (inALL_at 1076 (by decide +kernel) rfl)
set_option maxRecDepth 20000 in
theorem l_L_67 : LKA RL 67 z_X8_jobAt := Or.inl (inALL_at 1087 (by decide +kernel) rfl)
set_option maxRecDepth 20000 in
theorem l_L_70 : LKA RL 70 z_X8_positionOf := Or.inl (inALL_at 1095 (by decide +kernel) rfl)
set_option maxRecDepth 20000 in
theorem l_L_73 : LKA RL 73 z_X8_pagesBefore := Or.inl (inALL_at 1107 (by decide +kernel) rfl)
set_option maxRecDepth 20000 in
theorem l_L_76 : LKA RL 76 z_X8_minutesUntilPrinted := Or.inl (inALL_at 1118 (by decide +kernel) rfl)
set_option maxRecDepth 20000 in
theorem l_L_79 : LKA RL 79 z_X8_waitingPages := Or.inl (inALL_at 1125 (by decide +kernel) rfl)
set_option maxRecDepth 20000 in
theorem l_L_82 : LKA RL 82 z_X8_printedPages := Or.inl (inALL_at 1132 (by decide +kernel) rfl)
set_option maxRecDepth 20000 in
theorem l_L_85 : LKA RL 85 z_X8_speed := Or.inl (inALL_at 1139 (by decide +kernel) rfl)
set_option maxRecDepth 20000 in
theorem l_L_88 : LKA RL 88 z_X8_isPaused := Or.inl (inALL_at 1146 (by decide +kernel) rfl)
set_option maxRecDepth 20000 in
theorem l_L_91 : LKA RL 91 z_X8_waitingPagesOfOwner := Or.inl (inALL_at 1153 (by decide +kernel) rfl)
set_option maxRecDepth 20000 in
theorem l_L_94 : LKA RL 94 z_X8_printedPagesOfOwner := Or.inl (inALL_at 1164 (by decide +kernel) rfl)
set_option maxRecDepth 20000 in
theorem l_L_97 : LKA RL 97 z_X8_printingObstacle := Or.inl (inALL_at 1171 (by decide +kernel) rfl)
set_option maxRecDepth 20000 in
theorem l_L_100 : LKA RL 100 z_X8_mergeCost := Or.inl (inALL_at 1179 (by decide +kernel) rfl)
set_option maxRecDepth 20000 in
theorem l_L_105 : LKA RL 105 z_X8_rankAfterMerge := Or.inl (inALL_at 1210 (by decide +kernel) rfl)
set_option maxRecDepth 20000 in
theorem l_L_108 : LKA RL 108 z_X8_positionWith := Or.inl (inALL_at 1222 (by decide +kernel) rfl)
set_option maxRecDepth 20000 in
theorem l_L_111 : LKA RL 111 z_X8_submit := Or.inl (inALL_at 1233 (by decide +kernel) rfl)
set_option maxRecDepth 20000 in
theorem l_L_115 : LKA RL 115 z_X8_printNext := Or.inl (inALL_at 1242 (by decide +kernel) rfl)
set_option maxRecDepth 20000 in
theorem l_L_118 : LKA RL 118 z_X8_cancel := Or.inl (inALL_at 1250 (by decide +kernel) rfl)
set_option maxRecDepth 20000 in
theorem l_L_121 : LKA RL 121 z_X8_changePriority := Or.inl (inALL_at 1257 (by decide +kernel) rfl)
set_option maxRecDepth 20000 in
theorem l_L_124 : LKA RL 124 z_X8_moveJob := Or.inl (inALL_at 1264 (by decide +kernel) rfl)
set_option maxRecDepth 20000 in
theorem l_L_127 : LKA RL 127 z_X8_mergeQueues := Or.inl (inALL_at 1272 (by decide +kernel) rfl)
set_option maxRecDepth 20000 in
theorem l_L_130 : LKA RL 130 z_X8_setPaused := Or.inl (inALL_at 1279 (by decide +kernel) rfl)
set_option maxRecDepth 20000 in
theorem l_L_134 : LKA RL 134 z_X8_undo := Or.inl (inALL_at 1287 (by decide +kernel) rfl)
set_option maxRecDepth 20000 in
theorem l_L_140 : LKA RL 140 z_X8_writeHeap := Or.inl (inALL_at 1314 (by decide +kernel) rfl)
set_option maxRecDepth 20000 in
theorem l_L_143 : LKA RL 143 z_X8_restoreState := Or.inl (inALL_at 1334 (by decide +kernel) rfl)
set_option maxRecDepth 20000 in
theorem l_L_146 : LKA RL 146 z_X8_init := Or.inl (inALL_at 135 (by decide +kernel) rfl)
set_option maxRecDepth 20000 in
theorem l_L_149 : LKA RL 149 z_X9_init := Or.inl (inALL_at 1341 (by decide +kernel) rfl)
set_option maxRecDepth 20000 in
theorem l_L_150 : LKA RL 150 z_X8_appendInput := Or.inl (inALL_at 643 (by decide +kernel) rfl)
set_option maxRecDepth 20000 in
theorem l_L_154 : LKA RL 154 z_X9_appendInput := Or.inl (inALL_at 1497 (by decide +kernel) rfl)
set_option maxRecDepth 20000 in
theorem l_L_155 : LKA RL 155 z_X8_truncateInput := Or.inl (inALL_at 651 (by decide +kernel) rfl)
set_option maxRecDepth 20000 in
theorem l_L_158 : LKA RL 158 z_X9_truncateInput := Or.inl (inALL_at 1505 (by decide +kernel) rfl)
set_option maxRecDepth 20000 in
theorem l_L_159 : LKA RL 159 z_X8_loadSetup := Or.inl (inALL_at 655 (by decide +kernel) rfl)
set_option maxRecDepth 20000 in
theorem l_L_162 : LKA RL 162 z_X9_loadSetup := Or.inl (inALL_at 1520 (by decide +kernel) rfl)
set_option maxRecDepth 20000 in
theorem l_L_163 : LKA RL 163 z_X8_runScript := Or.inl (inALL_at 659 (by decide +kernel) rfl)
set_option maxRecDepth 20000 in
theorem l_L_166 : LKA RL 166 z_X9_runScript := Or.inl (inALL_at 1621 (by decide +kernel) rfl)
set_option maxRecDepth 20000 in
theorem l_L_167 : LKA RL 167 z_X8_errorCode := Or.inl (inALL_at 734 (by decide +kernel) rfl)
set_option maxRecDepth 20000 in
theorem l_L_170 : LKA RL 170 z_X9_errorCode := Or.inl (inALL_at 1512 (by decide +kernel) rfl)
set_option maxRecDepth 20000 in
theorem l_L_171 : LKA RL 171 z_X8_errorOffset := Or.inl (inALL_at 738 (by decide +kernel) rfl)
set_option maxRecDepth 20000 in
theorem l_L_174 : LKA RL 174 z_X9_errorOffset := Or.inl (inALL_at 1516 (by decide +kernel) rfl)
set_option maxRecDepth 20000 in
theorem l_L_175 : LKA RL 175 z_X8_queueCount := Or.inl (inALL_at 742 (by decide +kernel) rfl)
set_option maxRecDepth 20000 in
theorem l_L_178 : LKA RL 178 z_X9_queueCount := Or.inl (inALL_at 1716 (by decide +kernel) rfl)
set_option maxRecDepth 20000 in
theorem l_L_179 : LKA RL 179 z_X8_ownerCount := Or.inl (inALL_at 746 (by decide +kernel) rfl)
set_option maxRecDepth 20000 in
theorem l_L_182 : LKA RL 182 z_X9_ownerCount := Or.inl (inALL_at 1724 (by decide +kernel) rfl)
set_option maxRecDepth 20000 in
theorem l_L_183 : LKA RL 183 z_X8_jobCount := Or.inl (inALL_at 750 (by decide +kernel) rfl)
set_option maxRecDepth 20000 in
theorem l_L_186 : LKA RL 186 z_X9_jobCount := Or.inl (inALL_at 1728 (by decide +kernel) rfl)
set_option maxRecDepth 20000 in
theorem l_L_187 : LKA RL 187 z_L_queueNameByte := Or.inl (inALL_at 840 (by decide +kernel) rfl)
set_option maxRecDepth 20000 in
theorem l_L_192 : LKA RL 192 z_X9_queueNameByte := Or.inl (inALL_at 1732 (by decide +kernel) rfl)
set_option maxRecDepth 20000 in
theorem l_L_193 : LKA RL 193 z_X9_thrown := Or.inl (inALL_at 1493 (by decide +kernel) rfl)
set_option maxRecDepth 20000 in
theorem l_L_196 : LKA RL 196 z_L_ownerNameByte := Or.inl (inALL_at 924 (by decide +kernel) rfl)
set_option maxRecDepth 20000 in
theorem l_L_198 : LKA RL 198 z_X9_ownerNameByte := Or.inl (inALL_at 1752 (by decide +kernel) rfl)
set_option maxRecDepth 20000 in
theorem l_L_199 : LKA RL 199 z_L_queueOf := Or.inl (inALL_at 936 (by decide +kernel) rfl)
set_option maxRecDepth 20000 in
theorem l_L_202 : LKA RL 202 z_X9_queueOf := Or.inl (inALL_at 1760 (by decide +kernel) rfl)
set_option maxRecDepth 20000 in
theorem l_L_203 : LKA RL 203 z_L_ownerOf := Or.inl (inALL_at 948 (by decide +kernel) rfl)
set_option maxRecDepth 20000 in
theorem l_L_205 : LKA RL 205 z_X9_ownerOf := Or.inl (inALL_at 1768 (by decide +kernel) rfl)
set_option maxRecDepth 20000 in
theorem l_L_206 : LKA RL 206 z_L_priority := Or.inl (inALL_at 955 (by decide +kernel) rfl)
set_option maxRecDepth 20000 in
theorem l_L_208 : LKA RL 208 z_X9_priority := Or.inl (inALL_at 1772 (by decide +kernel) rfl)
set_option maxRecDepth 20000 in
theorem l_L_209 : LKA RL 209 z_L_pages := Or.inl (inALL_at 962 (by decide +kernel) rfl)
set_option maxRecDepth 20000 in
theorem l_L_211 : LKA RL 211 z_X9_pages := Or.inl (inALL_at 1776 (by decide +kernel) rfl)
set_option maxRecDepth 20000 in
theorem l_L_212 : LKA RL 212 z_L_isWaiting := Or.inl (inALL_at 969 (by decide +kernel) rfl)
set_option maxRecDepth 20000 in
theorem l_L_214 : LKA RL 214 z_X9_isWaiting := Or.inl (inALL_at 1780 (by decide +kernel) rfl)
set_option maxRecDepth 20000 in
theorem l_L_215 : LKA RL 215 z_L_isPrinted := Or.inl (inALL_at 976 (by decide +kernel) rfl)
set_option maxRecDepth 20000 in
theorem l_L_217 : LKA RL 217 z_X9_isPrinted := Or.inl (inALL_at 1784 (by decide +kernel) rfl)
set_option maxRecDepth 20000 in
theorem l_L_218 : LKA RL 218 z_L_isCancelled := Or.inl (inALL_at 983 (by decide +kernel) rfl)
set_option maxRecDepth 20000 in
theorem l_L_220 : LKA RL 220 z_X9_isCancelled := Or.inl (inALL_at 1788 (by decide +kernel) rfl)
set_option maxRecDepth 20000 in
theorem l_L_221 : LKA RL 221 z_L_root := Or.inl (inALL_at 990 (by decide +kernel) rfl)
set_option maxRecDepth 20000 in
theorem l_L_223 : LKA RL 223 z_X9_root := Or.inl (inALL_at 1792 (by decide +kernel) rfl)
set_option maxRecDepth 20000 in
theorem l_L_224 : LKA RL 224 z_L_leftChild := Or.inl (inALL_at 997 (by decide +kernel) rfl)
set_option maxRecDepth 20000 in
theorem l_L_226 : LKA RL 226 z_X9_leftChild := Or.inl (inALL_at 1796 (by decide +kernel) rfl)
set_option maxRecDepth 20000 in
theorem l_L_227 : LKA RL 227 z_L_rightChild := Or.inl (inALL_at 1004 (by decide +kernel) rfl)
set_option maxRecDepth 20000 in
theorem l_L_229 : LKA RL 229 z_X9_rightChild := Or.inl (inALL_at 1800 (by decide +kernel) rfl)
set_option maxRecDepth 20000 in
theorem l_L_230 : LKA RL 230 z_L_parent := Or.inl (inALL_at 1011 (by decide +kernel) rfl)
set_option maxRecDepth 20000 in
theorem l_L_232 : LKA RL 232 z_X9_parent := Or.inl (inALL_at 1804 (by decide +kernel) rfl)
set_option maxRecDepth 20000 in
theorem l_L_233 : LKA RL 233 z_L_rank := Or.inl (inALL_at 1018 (by decide +kernel) rfl)
set_option maxRecDepth 20000 in
theorem l_L_235 : LKA RL 235 z_X9_rank := Or.inl (inALL_at 1808 (by decide +kernel) rfl)
set_option maxRecDepth 20000 in
theorem l_L_236 : LKA RL 236 z_L_depth := Or.inl (inALL_at 1026 (by decide +kernel) rfl)
set_option maxRecDepth 20000 in
theorem l_L_238 : LKA RL 238 z_X9_depth := Or.inl (inALL_at 1812 (by decide +kernel) rfl)
set_option maxRecDepth 20000 in
theorem l_L_239 : LKA RL 239 z_L_height := Or.inl (inALL_at 1058 (by decide +kernel) rfl)
set_option maxRecDepth 20000 in
theorem l_L_241 : LKA RL 241 z_X9_height := Or.inl (inALL_at 1820 (by decide +kernel) rfl)
set_option maxRecDepth 20000 in
theorem l_L_242 : LKA RL 242 z_L_size := Or.inl (inALL_at 1073 (by decide +kernel) rfl)
set_option maxRecDepth 20000 in
theorem l_L_244 : LKA RL 244 z_X9_size := Or.inl (inALL_at 1828 (by decide +kernel) rfl)
set_option maxRecDepth 20000 in
theorem l_L_245 : LKA RL 245 z_L_jobAt := Or.inl (inALL_at 1084 (by decide +kernel) rfl)
set_option maxRecDepth 20000 in
theorem l_L_247 : LKA RL 247 z_X9_jobAt := Or.inl (inALL_at 1832 (by decide +kernel) rfl)
set_option maxRecDepth 20000 in
theorem l_L_248 : LKA RL 248 z_L_positionOf := Or.inl (inALL_at 1092 (by decide +kernel) rfl)
set_option maxRecDepth 20000 in
theorem l_L_250 : LKA RL 250 z_X9_positionOf := Or.inl (inALL_at 1844 (by decide +kernel) rfl)
set_option maxRecDepth 20000 in
theorem l_L_251 : LKA RL 251 z_L_pagesBefore := Or.inl (inALL_at 1104 (by decide +kernel) rfl)
set_option maxRecDepth 20000 in
theorem l_L_253 : LKA RL 253 z_X9_pagesBefore := Or.inl (inALL_at 1848 (by decide +kernel) rfl)
set_option maxRecDepth 20000 in
theorem l_L_254 : LKA RL 254 z_L_minutesUntilPrinted := Or.inl (inALL_at 1115 (by decide +kernel) rfl)
set_option maxRecDepth 20000 in
theorem l_L_256 : LKA RL 256 z_X9_minutesUntilPrinted := Or.inl (inALL_at 1856 (by decide +kernel) rfl)
set_option maxRecDepth 20000 in
theorem l_L_257 : LKA RL 257 z_L_waitingPages := Or.inl (inALL_at 1122 (by decide +kernel) rfl)
set_option maxRecDepth 20000 in
theorem l_L_259 : LKA RL 259 z_X9_waitingPages := Or.inl (inALL_at 1864 (by decide +kernel) rfl)
set_option maxRecDepth 20000 in
theorem l_L_260 : LKA RL 260 z_L_printedPages := Or.inl (inALL_at 1129 (by decide +kernel) rfl)
set_option maxRecDepth 20000 in
theorem l_L_262 : LKA RL 262 z_X9_printedPages := Or.inl (inALL_at 1872 (by decide +kernel) rfl)
set_option maxRecDepth 20000 in
theorem l_L_263 : LKA RL 263 z_L_speed := Or.inl (inALL_at 1136 (by decide +kernel) rfl)
set_option maxRecDepth 20000 in
theorem l_L_265 : LKA RL 265 z_X9_speed := Or.inl (inALL_at 1876 (by decide +kernel) rfl)
set_option maxRecDepth 20000 in
theorem l_L_266 : LKA RL 266 z_L_isPaused := Or.inl (inALL_at 1143 (by decide +kernel) rfl)
set_option maxRecDepth 20000 in
theorem l_L_268 : LKA RL 268 z_X9_isPaused := Or.inl (inALL_at 1880 (by decide +kernel) rfl)
set_option maxRecDepth 20000 in
theorem l_L_269 : LKA RL 269 z_X8_leastLoadedQueue := Or.inl (inALL_at 754 (by decide +kernel) rfl)
set_option maxRecDepth 20000 in
theorem l_L_272 : LKA RL 272 z_X9_leastLoadedQueue := Or.inl (inALL_at 1884 (by decide +kernel) rfl)
set_option maxRecDepth 20000 in
theorem l_L_273 : LKA RL 273 z_L_waitingPagesOfOwner := Or.inl (inALL_at 1150 (by decide +kernel) rfl)
set_option maxRecDepth 20000 in
theorem l_L_275 : LKA RL 275 z_X9_waitingPagesOfOwner := Or.inl (inALL_at 1888 (by decide +kernel) rfl)
set_option maxRecDepth 20000 in
theorem l_L_276 : LKA RL 276 z_L_printedPagesOfOwner := Or.inl (inALL_at 1161 (by decide +kernel) rfl)
set_option maxRecDepth 20000 in
theorem l_L_278 : LKA RL 278 z_X9_printedPagesOfOwner := Or.inl (inALL_at 1896 (by decide +kernel) rfl)
set_option maxRecDepth 20000 in
theorem l_L_279 : LKA RL 279 z_L_printingObstacle := Or.inl (inALL_at 1168 (by decide +kernel) rfl)
set_option maxRecDepth 20000 in
theorem l_L_281 : LKA RL 281 z_X9_printingObstacle := Or.inl (inALL_at 1900 (by decide +kernel) rfl)
set_option maxRecDepth 20000 in
theorem l_L_282 : LKA RL 282 z_X8_comparisons := Or.inl (inALL_at 766 (by decide +kernel) rfl)
set_option maxRecDepth 20000 in
theorem l_L_285 : LKA RL 285 z_X9_comparisons := Or.inl (inALL_at 1904 (by decide +kernel) rfl)
set_option maxRecDepth 20000 in
theorem l_L_286 : LKA RL 286 z_X8_swaps := Or.inl (inALL_at 770 (by decide +kernel) rfl)
set_option maxRecDepth 20000 in
theorem l_L_289 : LKA RL 289 z_X9_swaps := Or.inl (inALL_at 1908 (by decide +kernel) rfl)
set_option maxRecDepth 20000 in
theorem l_L_290 : LKA RL 290 z_L_mergeCost := Or.inl (inALL_at 1175 (by decide +kernel) rfl)
set_option maxRecDepth 20000 in
theorem l_L_292 : LKA RL 292 z_X9_mergeCost := Or.inl (inALL_at 1912 (by decide +kernel) rfl)
set_option maxRecDepth 20000 in
theorem l_L_293 : LKA RL 293 z_L_rankAfterMerge := Or.inl (inALL_at 1207 (by decide +kernel) rfl)
set_option maxRecDepth 20000 in
theorem l_L_295 : LKA RL 295 z_X9_rankAfterMerge := Or.inl (inALL_at 1920 (by decide +kernel) rfl)
set_option maxRecDepth 20000 in
theorem l_L_296 : LKA RL 296 z_L_positionWith := Or.inl (inALL_at 1219 (by decide +kernel) rfl)
set_option maxRecDepth 20000 in
theorem l_L_298 : LKA RL 298 z_X9_positionWith := Or.inl (inALL_at 1924 (by decide +kernel) rfl)
set_option maxRecDepth 20000 in
theorem l_L_299 : LKA RL 299 z_X8_meanRank := Or.inl (inALL_at 774 (by decide +kernel) rfl)
set_option maxRecDepth 20000 in
theorem l_L_303 : LKA RL 303 z_X9_meanRank := Or.inl (inALL_at 1929 (by decide +kernel) rfl)
set_option maxRecDepth 20000 in
theorem l_L_304 : LKA RL 304 z_X8_printedPart := Or.inl (inALL_at 787 (by decide +kernel) rfl)
set_option maxRecDepth 20000 in
theorem l_L_308 : LKA RL 308 z_X9_printedPart := Or.inl (inALL_at 1937 (by decide +kernel) rfl)
set_option maxRecDepth 20000 in
theorem l_L_309 : LKA RL 309 z_X8_isConsistent := Or.inl (inALL_at 799 (by decide +kernel) rfl)
set_option maxRecDepth 20000 in
theorem l_L_313 : LKA RL 313 z_X9_isConsistent := Or.inl (inALL_at 1941 (by decide +kernel) rfl)
set_option maxRecDepth 20000 in
theorem l_L_314 : LKA RL 314 z_L_submit := Or.inl (inALL_at 1230 (by decide +kernel) rfl)
set_option maxRecDepth 20000 in
theorem l_L_317 : LKA RL 317 z_X9_submit := Or.inl (inALL_at 1965 (by decide +kernel) rfl)
set_option maxRecDepth 20000 in
theorem l_L_318 : LKA RL 318 z_L_printNext := Or.inl (inALL_at 1239 (by decide +kernel) rfl)
set_option maxRecDepth 20000 in
theorem l_L_320 : LKA RL 320 z_X9_printNext := Or.inl (inALL_at 1969 (by decide +kernel) rfl)
set_option maxRecDepth 20000 in
theorem l_L_321 : LKA RL 321 z_L_cancel := Or.inl (inALL_at 1247 (by decide +kernel) rfl)
set_option maxRecDepth 20000 in
theorem l_L_323 : LKA RL 323 z_X9_cancel := Or.inl (inALL_at 1973 (by decide +kernel) rfl)
set_option maxRecDepth 20000 in
theorem l_L_324 : LKA RL 324 z_L_changePriority := Or.inl (inALL_at 1254 (by decide +kernel) rfl)
set_option maxRecDepth 20000 in
theorem l_L_326 : LKA RL 326 z_X9_changePriority := Or.inl (inALL_at 1977 (by decide +kernel) rfl)
set_option maxRecDepth 20000 in
theorem l_L_327 : LKA RL 327 z_L_moveJob := Or.inl (inALL_at 1261 (by decide +kernel) rfl)
set_option maxRecDepth 20000 in
theorem l_L_329 : LKA RL 329 z_X9_moveJob := Or.inl (inALL_at 1981 (by decide +kernel) rfl)
set_option maxRecDepth 20000 in
theorem l_L_330 : LKA RL 330 z_L_mergeQueues := Or.inl (inALL_at 1269 (by decide +kernel) rfl)
set_option maxRecDepth 20000 in
theorem l_L_332 : LKA RL 332 z_X9_mergeQueues := Or.inl (inALL_at 1985 (by decide +kernel) rfl)
set_option maxRecDepth 20000 in
theorem l_L_333 : LKA RL 333 z_L_setPaused := Or.inl (inALL_at 1276 (by decide +kernel) rfl)
set_option maxRecDepth 20000 in
theorem l_L_336 : LKA RL 336 z_X9_setPaused := Or.inl (inALL_at 1989 (by decide +kernel) rfl)
set_option maxRecDepth 20000 in
theorem l_L_337 : LKA RL 337 z_L_undo := Or.inl (inALL_at 1283 (by decide +kernel) rfl)
set_option maxRecDepth 20000 in
theorem l_L_340 : LKA RL 340 z_X9_undo := Or.inl (inALL_at 1993 (by decide +kernel) rfl)
set_option maxRecDepth 20000 in
theorem l_L_341 : LKA RL 341 z_L_writeHeap := Or.inl (inALL_at 1311 (by decide +kernel) rfl)
set_option maxRecDepth 20000 in
theorem l_L_343 : LKA RL 343 z_X9_writeHeap := Or.inl (inALL_at 1997 (by decide +kernel) rfl)
set_option maxRecDepth 20000 in
theorem l_L_344 : LKA RL 344 z_X8_outputByte := Or.inl (inALL_at 828 (by decide +kernel) rfl)
set_option maxRecDepth 20000 in
theorem l_L_347 : LKA RL 347 z_X9_outputByte := Or.inl (inALL_at 2013 (by decide +kernel) rfl)
set_option maxRecDepth 20000 in
theorem l_L_348 : LKA RL 348 z_X8_saveState := Or.inl (inALL_at 836 (by decide +kernel) rfl)
set_option maxRecDepth 20000 in
theorem l_L_351 : LKA RL 351 z_X9_saveState := Or.inl (inALL_at 2017 (by decide +kernel) rfl)
set_option maxRecDepth 20000 in
theorem l_L_352 : LKA RL 352 z_L_restoreState := Or.inl (inALL_at 1331 (by decide +kernel) rfl)
set_option maxRecDepth 20000 in
theorem l_L_354 : LKA RL 354 z_X9_restoreState := Or.inl (inALL_at 2021 (by decide +kernel) rfl)
