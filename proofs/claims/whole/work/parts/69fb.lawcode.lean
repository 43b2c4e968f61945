/-! ===== 69f: the law's code, a table for each case (gen69f.py) ===== -/
def t_W_5 : MC := [(425, .aload_n 1, 1), (426, .invokevirtual 171, 3), (429, .aload_n 2, 1), (430, .invokevirtual 174, 3), (433, .if_icmp .eq 2697, 3)]
set_option maxRecDepth 20000 in
theorem d_W_5 : ∀ q ∈ t_W_5, decode cL_law q.1 = .ok q.2 := by decide +kernel
def z_W_5 (nm : String) : MZ := (⟨RL, nm, "([I)Z"⟩, cL_law, 9, (some .boolean), t_W_5, [])
theorem zo_W_5 (nm : String) : ZOK (z_W_5 nm) := ⟨d_W_5, by intro q hq; cases hq⟩
def t_W_6 : MC := [(438, .aload_n 1, 1), (439, .invokevirtual 175, 3), (442, .aload_n 2, 1), (443, .invokevirtual 178, 3), (446, .if_icmp .eq 2684, 3)]
set_option maxRecDepth 20000 in
theorem d_W_6 : ∀ q ∈ t_W_6, decode cL_law q.1 = .ok q.2 := by decide +kernel
def z_W_6 (nm : String) : MZ := (⟨RL, nm, "([I)Z"⟩, cL_law, 9, (some .boolean), t_W_6, [])
theorem zo_W_6 (nm : String) : ZOK (z_W_6 nm) := ⟨d_W_6, by intro q hq; cases hq⟩
def t_W_7 : MC := [(451, .aload_n 1, 1), (452, .invokevirtual 179, 3), (455, .aload_n 2, 1), (456, .invokevirtual 182, 3), (459, .if_icmp .eq 2671, 3)]
set_option maxRecDepth 20000 in
theorem d_W_7 : ∀ q ∈ t_W_7, decode cL_law q.1 = .ok q.2 := by decide +kernel
def z_W_7 (nm : String) : MZ := (⟨RL, nm, "([I)Z"⟩, cL_law, 9, (some .boolean), t_W_7, [])
theorem zo_W_7 (nm : String) : ZOK (z_W_7 nm) := ⟨d_W_7, by intro q hq; cases hq⟩
def t_W_8 : MC := [(464, .aload_n 1, 1), (465, .invokevirtual 183, 3), (468, .aload_n 2, 1), (469, .invokevirtual 186, 3), (472, .if_icmp .eq 2658, 3)]
set_option maxRecDepth 20000 in
theorem d_W_8 : ∀ q ∈ t_W_8, decode cL_law q.1 = .ok q.2 := by decide +kernel
def z_W_8 (nm : String) : MZ := (⟨RL, nm, "([I)Z"⟩, cL_law, 9, (some .boolean), t_W_8, [])
theorem zo_W_8 (nm : String) : ZOK (z_W_8 nm) := ⟨d_W_8, by intro q hq; cases hq⟩
def t_W_9 : MC := [(477, .aload_n 1, 1), (478, .aload_n 0, 1), (479, .iload 4, 2), (481, .iconst 1, 1), (482, .iadd, 1), (483, .iaload, 1), (484, .aload_n 0, 1), (485, .iload 4, 2), (487, .iconst 2, 1), (488, .iadd, 1), (489, .iaload, 1), (490, .aload_n 3, 1), (491, .invokestatic 187, 3), (494, .istore 5, 2), (496, .aload_n 2, 1), (497, .aload_n 0, 1), (498, .iload 4, 2), (500, .iconst 1, 1), (501, .iadd, 1), (502, .iaload, 1), (503, .aload_n 0, 1), (504, .iload 4, 2), (506, .iconst 2, 1), (507, .iadd, 1), (508, .iaload, 1), (509, .invokevirtual 192, 3), (512, .istore 6, 2), (514, .aload_n 2, 1), (515, .invokevirtual 193, 3), (518, .iload 5, 2), (520, .if_icmp .eq 5, 3), (525, .iload 5, 2), (527, .ifCond .ne 15, 3), (530, .aload_n 3, 1), (531, .iconst 0, 1), (532, .laload, 1), (533, .iload 6, 2), (535, .i2l, 1), (536, .lcmp, 1), (537, .ifCond .eq 5, 3), (542, .goto 2588, 3)]
set_option maxRecDepth 20000 in
theorem d_W_9 : ∀ q ∈ t_W_9, decode cL_law q.1 = .ok q.2 := by decide +kernel
def z_W_9 (nm : String) : MZ := (⟨RL, nm, "([I)Z"⟩, cL_law, 9, (some .boolean), t_W_9, [])
theorem zo_W_9 (nm : String) : ZOK (z_W_9 nm) := ⟨d_W_9, by intro q hq; cases hq⟩
def t_W_10 : MC := [(545, .aload_n 1, 1), (546, .aload_n 0, 1), (547, .iload 4, 2), (549, .iconst 1, 1), (550, .iadd, 1), (551, .iaload, 1), (552, .aload_n 0, 1), (553, .iload 4, 2), (555, .iconst 2, 1), (556, .iadd, 1), (557, .iaload, 1), (558, .aload_n 3, 1), (559, .invokestatic 196, 3), (562, .istore 5, 2), (564, .aload_n 2, 1), (565, .aload_n 0, 1), (566, .iload 4, 2), (568, .iconst 1, 1), (569, .iadd, 1), (570, .iaload, 1), (571, .aload_n 0, 1), (572, .iload 4, 2), (574, .iconst 2, 1), (575, .iadd, 1), (576, .iaload, 1), (577, .invokevirtual 198, 3), (580, .istore 6, 2), (582, .aload_n 2, 1), (583, .invokevirtual 193, 3), (586, .iload 5, 2), (588, .if_icmp .eq 5, 3), (593, .iload 5, 2), (595, .ifCond .ne 15, 3), (598, .aload_n 3, 1), (599, .iconst 0, 1), (600, .laload, 1), (601, .iload 6, 2), (603, .i2l, 1), (604, .lcmp, 1), (605, .ifCond .eq 5, 3), (610, .goto 2520, 3)]
set_option maxRecDepth 20000 in
theorem d_W_10 : ∀ q ∈ t_W_10, decode cL_law q.1 = .ok q.2 := by decide +kernel
def z_W_10 (nm : String) : MZ := (⟨RL, nm, "([I)Z"⟩, cL_law, 9, (some .boolean), t_W_10, [])
theorem zo_W_10 (nm : String) : ZOK (z_W_10 nm) := ⟨d_W_10, by intro q hq; cases hq⟩
def t_W_11 : MC := [(613, .aload_n 1, 1), (614, .aload_n 0, 1), (615, .iload 4, 2), (617, .iconst 1, 1), (618, .iadd, 1), (619, .iaload, 1), (620, .aload_n 3, 1), (621, .invokestatic 199, 3), (624, .istore 5, 2), (626, .aload_n 2, 1), (627, .aload_n 0, 1), (628, .iload 4, 2), (630, .iconst 1, 1), (631, .iadd, 1), (632, .iaload, 1), (633, .invokevirtual 202, 3), (636, .istore 6, 2), (638, .aload_n 2, 1), (639, .invokevirtual 193, 3), (642, .iload 5, 2), (644, .if_icmp .eq 5, 3), (649, .iload 5, 2), (651, .ifCond .ne 15, 3), (654, .aload_n 3, 1), (655, .iconst 0, 1), (656, .laload, 1), (657, .iload 6, 2), (659, .i2l, 1), (660, .lcmp, 1), (661, .ifCond .eq 5, 3), (666, .goto 2464, 3)]
set_option maxRecDepth 20000 in
theorem d_W_11 : ∀ q ∈ t_W_11, decode cL_law q.1 = .ok q.2 := by decide +kernel
def z_W_11 (nm : String) : MZ := (⟨RL, nm, "([I)Z"⟩, cL_law, 9, (some .boolean), t_W_11, [])
theorem zo_W_11 (nm : String) : ZOK (z_W_11 nm) := ⟨d_W_11, by intro q hq; cases hq⟩
def t_W_12 : MC := [(669, .aload_n 1, 1), (670, .aload_n 0, 1), (671, .iload 4, 2), (673, .iconst 1, 1), (674, .iadd, 1), (675, .iaload, 1), (676, .aload_n 3, 1), (677, .invokestatic 203, 3), (680, .istore 5, 2), (682, .aload_n 2, 1), (683, .aload_n 0, 1), (684, .iload 4, 2), (686, .iconst 1, 1), (687, .iadd, 1), (688, .iaload, 1), (689, .invokevirtual 205, 3), (692, .istore 6, 2), (694, .aload_n 2, 1), (695, .invokevirtual 193, 3), (698, .iload 5, 2), (700, .if_icmp .eq 5, 3), (705, .iload 5, 2), (707, .ifCond .ne 15, 3), (710, .aload_n 3, 1), (711, .iconst 0, 1), (712, .laload, 1), (713, .iload 6, 2), (715, .i2l, 1), (716, .lcmp, 1), (717, .ifCond .eq 5, 3), (722, .goto 2408, 3)]
set_option maxRecDepth 20000 in
theorem d_W_12 : ∀ q ∈ t_W_12, decode cL_law q.1 = .ok q.2 := by decide +kernel
def z_W_12 (nm : String) : MZ := (⟨RL, nm, "([I)Z"⟩, cL_law, 9, (some .boolean), t_W_12, [])
theorem zo_W_12 (nm : String) : ZOK (z_W_12 nm) := ⟨d_W_12, by intro q hq; cases hq⟩
def t_W_13 : MC := [(725, .aload_n 1, 1), (726, .aload_n 0, 1), (727, .iload 4, 2), (729, .iconst 1, 1), (730, .iadd, 1), (731, .iaload, 1), (732, .aload_n 3, 1), (733, .invokestatic 206, 3), (736, .istore 5, 2), (738, .aload_n 2, 1), (739, .aload_n 0, 1), (740, .iload 4, 2), (742, .iconst 1, 1), (743, .iadd, 1), (744, .iaload, 1), (745, .invokevirtual 208, 3), (748, .istore 6, 2), (750, .aload_n 2, 1), (751, .invokevirtual 193, 3), (754, .iload 5, 2), (756, .if_icmp .eq 5, 3), (761, .iload 5, 2), (763, .ifCond .ne 15, 3), (766, .aload_n 3, 1), (767, .iconst 0, 1), (768, .laload, 1), (769, .iload 6, 2), (771, .i2l, 1), (772, .lcmp, 1), (773, .ifCond .eq 5, 3), (778, .goto 2352, 3)]
set_option maxRecDepth 20000 in
theorem d_W_13 : ∀ q ∈ t_W_13, decode cL_law q.1 = .ok q.2 := by decide +kernel
def z_W_13 (nm : String) : MZ := (⟨RL, nm, "([I)Z"⟩, cL_law, 9, (some .boolean), t_W_13, [])
theorem zo_W_13 (nm : String) : ZOK (z_W_13 nm) := ⟨d_W_13, by intro q hq; cases hq⟩
