/-! ===== 69f: the law's code, a table for each case (gen69f.py) ===== -/
theorem CX.swap {κ : KX} {z z' : MZ} (X : CX κ z) (h1 : zY z' = zY z) (h2 : zB z' = zB z) (h3 : zN z' = zN z) (h4 : zR z' = zR z) (h5 : ZOK z') : CX κ z' := by
  obtain ⟨p, l, e, R, s, m, args, below, meth, c, D, cA, A, n0, ad0⟩ := κ
  obtain ⟨hx, hb, hml, hown, hts, hK, hG, hA, hlk, htr, hrt, hnm, hz⟩ := X
  exact ⟨hx, hb.trans h2.symm, hml.trans h3.symm, by rw [h1]; exact hown, hts, hK, hG, hA, hlk, htr, hrt.trans h4.symm, hnm.trans (congrArg MethodName.name h1.symm), h5⟩
def t_W_h : MC := [(0, .new 8, 3), (3, .dup, 1), (4, .invokespecial 146, 3), (7, .astore_n 1, 1), (8, .new 147, 3), (11, .dup, 1), (12, .invokespecial 149, 3), (15, .astore_n 2, 1), (16, .iconst 1, 1), (17, .newarray .long, 2), (19, .astore_n 3, 1), (20, .iconst 0, 1), (21, .istore 4, 2), (23, .iload 4, 2), (25, .aload_n 0, 1), (26, .arraylength, 1), (27, .bipush 6, 2), (29, .isub, 1), (30, .if_icmp .gt 3106, 3), (33, .aload_n 0, 1), (34, .iload 4, 2), (36, .iaload, 1), (37, .bipush 63, 2), (39, .iand, 1), (40, .tableswitch 3090 0 57 #[248, 321, 346, 359, 372, 385, 398, 411, 424, 437, 505, 573, 629, 685, 741, 797, 860, 923, 986, 1042, 1098, 1154, 1210, 1266, 1322, 1378, 1434, 1502, 1558, 1614, 1670, 1726, 1782, 1838, 1901, 1914, 1970, 2026, 2082, 2095, 2108, 2176, 2244, 2312, 2353, 2396, 2409, 2501, 2557, 2613, 2681, 2749, 2817, 2908, 2952, 3008, 3033, 3046], 248), (3130, .iinc 4 6, 3), (3133, .goto (-3110), 3), (3136, .iconst 1, 1), (3137, .ireturn, 1)]
set_option maxRecDepth 20000 in
theorem d_W_h : ∀ q ∈ t_W_h, decode cL_law q.1 = .ok q.2 := by decide +kernel
def z_W_h (nm : String) : MZ := (⟨RL, nm, "([I)Z"⟩, cL_law, 9, (some .boolean), t_W_h, [])
theorem zo_W_h (nm : String) : ZOK (z_W_h nm) := ⟨d_W_h, by intro q hq; cases hq⟩
def t_W_0 : MC := [(288, .aload_n 1, 1), (289, .aload_n 0, 1), (290, .iload 4, 2), (292, .iconst 1, 1), (293, .iadd, 1), (294, .iaload, 1), (295, .aload_n 0, 1), (296, .iload 4, 2), (298, .iconst 2, 1), (299, .iadd, 1), (300, .iaload, 1), (301, .aload_n 0, 1), (302, .iload 4, 2), (304, .iconst 3, 1), (305, .iadd, 1), (306, .iaload, 1), (307, .aload_n 0, 1), (308, .iload 4, 2), (310, .iconst 4, 1), (311, .iadd, 1), (312, .iaload, 1), (313, .aload_n 0, 1), (314, .iload 4, 2), (316, .iconst 5, 1), (317, .iadd, 1), (318, .iaload, 1), (319, .invokevirtual 150, 3), (322, .aload_n 2, 1), (323, .aload_n 0, 1), (324, .iload 4, 2), (326, .iconst 1, 1), (327, .iadd, 1), (328, .iaload, 1), (329, .aload_n 0, 1), (330, .iload 4, 2), (332, .iconst 2, 1), (333, .iadd, 1), (334, .iaload, 1), (335, .aload_n 0, 1), (336, .iload 4, 2), (338, .iconst 3, 1), (339, .iadd, 1), (340, .iaload, 1), (341, .aload_n 0, 1), (342, .iload 4, 2), (344, .iconst 4, 1), (345, .iadd, 1), (346, .iaload, 1), (347, .aload_n 0, 1), (348, .iload 4, 2), (350, .iconst 5, 1), (351, .iadd, 1), (352, .iaload, 1), (353, .invokevirtual 154, 3), (356, .if_icmp .eq 2774, 3)]
set_option maxRecDepth 20000 in
theorem d_W_0 : ∀ q ∈ t_W_0, decode cL_law q.1 = .ok q.2 := by decide +kernel
def z_W_0 (nm : String) : MZ := (⟨RL, nm, "([I)Z"⟩, cL_law, 9, (some .boolean), t_W_0, [])
theorem zo_W_0 (nm : String) : ZOK (z_W_0 nm) := ⟨d_W_0, by intro q hq; cases hq⟩
def t_W_1 : MC := [(361, .aload_n 1, 1), (362, .aload_n 0, 1), (363, .iload 4, 2), (365, .iconst 1, 1), (366, .iadd, 1), (367, .iaload, 1), (368, .invokevirtual 155, 3), (371, .aload_n 2, 1), (372, .aload_n 0, 1), (373, .iload 4, 2), (375, .iconst 1, 1), (376, .iadd, 1), (377, .iaload, 1), (378, .invokevirtual 158, 3), (381, .if_icmp .eq 2749, 3)]
set_option maxRecDepth 20000 in
theorem d_W_1 : ∀ q ∈ t_W_1, decode cL_law q.1 = .ok q.2 := by decide +kernel
def z_W_1 (nm : String) : MZ := (⟨RL, nm, "([I)Z"⟩, cL_law, 9, (some .boolean), t_W_1, [])
theorem zo_W_1 (nm : String) : ZOK (z_W_1 nm) := ⟨d_W_1, by intro q hq; cases hq⟩
def t_W_2 : MC := [(386, .aload_n 1, 1), (387, .invokevirtual 159, 3), (390, .aload_n 2, 1), (391, .invokevirtual 162, 3), (394, .if_icmp .eq 2736, 3)]
set_option maxRecDepth 20000 in
theorem d_W_2 : ∀ q ∈ t_W_2, decode cL_law q.1 = .ok q.2 := by decide +kernel
def z_W_2 (nm : String) : MZ := (⟨RL, nm, "([I)Z"⟩, cL_law, 9, (some .boolean), t_W_2, [])
theorem zo_W_2 (nm : String) : ZOK (z_W_2 nm) := ⟨d_W_2, by intro q hq; cases hq⟩
def t_W_3 : MC := [(399, .aload_n 1, 1), (400, .invokevirtual 163, 3), (403, .aload_n 2, 1), (404, .invokevirtual 166, 3), (407, .if_icmp .eq 2723, 3)]
set_option maxRecDepth 20000 in
theorem d_W_3 : ∀ q ∈ t_W_3, decode cL_law q.1 = .ok q.2 := by decide +kernel
def z_W_3 (nm : String) : MZ := (⟨RL, nm, "([I)Z"⟩, cL_law, 9, (some .boolean), t_W_3, [])
theorem zo_W_3 (nm : String) : ZOK (z_W_3 nm) := ⟨d_W_3, by intro q hq; cases hq⟩
def t_W_4 : MC := [(412, .aload_n 1, 1), (413, .invokevirtual 167, 3), (416, .aload_n 2, 1), (417, .invokevirtual 170, 3), (420, .if_icmp .eq 2710, 3)]
set_option maxRecDepth 20000 in
theorem d_W_4 : ∀ q ∈ t_W_4, decode cL_law q.1 = .ok q.2 := by decide +kernel
def z_W_4 (nm : String) : MZ := (⟨RL, nm, "([I)Z"⟩, cL_law, 9, (some .boolean), t_W_4, [])
theorem zo_W_4 (nm : String) : ZOK (z_W_4 nm) := ⟨d_W_4, by intro q hq; cases hq⟩
