/-! ===== 10c: methods of the JDK over abstract worlds; text constants; copyRow ===== -/
def z_J0_length_8abf5 : MZ := (yJ0_length_8abf5, cJ0_length_8abf5, 1, (some .int), [(0, .aload_n 0, 1), (1, .getfield 9, 3), (4, .arraylength, 1), (5, .aload_n 0, 1), (6, .invokevirtual 335, 3), (9, .ishr, 1), (10, .ireturn, 1)], [])
set_option maxRecDepth 20000 in
theorem zo_J0_length_8abf5 : ZOK z_J0_length_8abf5 := ⟨by decide +kernel, by intro q hq; cases hq⟩
set_option maxRecDepth 20000 in
theorem k_J0_length_8abf5 : LKV z_J0_length_8abf5 0 := ⟨⟨ALL_at 284 (by decide +kernel) rfl, (inALL_at 40 (by decide +kernel) rfl), by decide +kernel⟩, (inALL_at 282 (by decide +kernel) rfl), (inALL_at 283 (by decide +kernel) rfl)⟩
def z_J0_charAt_5068e : MZ := (yJ0_charAt_5068e, cJ0_charAt_5068e, 2, (some .char), [(0, .aload_n 0, 1), (1, .invokevirtual 492, 3), (4, .ifCond .eq 12, 3), (7, .aload_n 0, 1), (8, .getfield 9, 3), (11, .iload_n 1, 1), (12, .invokestatic 495, 3), (15, .ireturn, 1), (16, .aload_n 0, 1), (17, .getfield 9, 3), (20, .iload_n 1, 1), (21, .invokestatic 498, 3), (24, .ireturn, 1)], [])
set_option maxRecDepth 20000 in
theorem zo_J0_charAt_5068e : ZOK z_J0_charAt_5068e := ⟨by decide +kernel, by intro q hq; cases hq⟩
set_option maxRecDepth 20000 in
theorem k_J0_charAt_5068e : LKV z_J0_charAt_5068e 1 := ⟨⟨ALL_at 294 (by decide +kernel) rfl, (inALL_at 40 (by decide +kernel) rfl), by decide +kernel⟩, (inALL_at 292 (by decide +kernel) rfl), (inALL_at 293 (by decide +kernel) rfl)⟩
def z_J0_coder_7d493 : MZ := (yJ0_coder_7d493, cJ0_coder_7d493, 1, (some .byte), [(0, .getstatic 38, 3), (3, .ifCond .eq 10, 3), (6, .aload_n 0, 1), (7, .getfield 15, 3), (10, .goto 4, 3), (13, .iconst 1, 1), (14, .ireturn, 1)], [])
set_option maxRecDepth 20000 in
theorem zo_J0_coder_7d493 : ZOK z_J0_coder_7d493 := ⟨by decide +kernel, by intro q hq; cases hq⟩
set_option maxRecDepth 20000 in
theorem k_J0_coder_7d493 : LKV z_J0_coder_7d493 0 := ⟨⟨ALL_at 288 (by decide +kernel) rfl, (inALL_at 40 (by decide +kernel) rfl), by decide +kernel⟩, (inALL_at 286 (by decide +kernel) rfl), (inALL_at 287 (by decide +kernel) rfl)⟩
def z_J0_isLatin1_aae02 : MZ := (yJ0_isLatin1_aae02, cJ0_isLatin1_aae02, 1, (some .boolean), [(0, .getstatic 38, 3), (3, .ifCond .eq 14, 3), (6, .aload_n 0, 1), (7, .getfield 15, 3), (10, .ifCond .ne 7, 3), (13, .iconst 1, 1), (14, .goto 4, 3), (17, .iconst 0, 1), (18, .ireturn, 1)], [])
set_option maxRecDepth 20000 in
theorem zo_J0_isLatin1_aae02 : ZOK z_J0_isLatin1_aae02 := ⟨by decide +kernel, by intro q hq; cases hq⟩
set_option maxRecDepth 20000 in
theorem k_J0_isLatin1_aae02 : LKV z_J0_isLatin1_aae02 0 := ⟨⟨ALL_at 298 (by decide +kernel) rfl, (inALL_at 40 (by decide +kernel) rfl), by decide +kernel⟩, (inALL_at 296 (by decide +kernel) rfl), (inALL_at 297 (by decide +kernel) rfl)⟩
def z_J0_checkIndex_df160 : MZ := (yJ0_checkIndex_df160, cJ0_checkIndex_df160, 2, none, [(0, .iload_n 0, 1), (1, .iload_n 1, 1), (2, .getstatic 1053, 3), (5, .invokestatic 1059, 3), (8, .pop, 1), (9, .return_, 1)], [])
set_option maxRecDepth 20000 in
theorem zo_J0_checkIndex_df160 : ZOK z_J0_checkIndex_df160 := ⟨by decide +kernel, by intro q hq; cases hq⟩
set_option maxRecDepth 20000 in
theorem k_J0_checkIndex_df160 : LKS z_J0_checkIndex_df160 2 := ⟨⟨ALL_at 304 (by decide +kernel) rfl, (inALL_at 40 (by decide +kernel) rfl), by decide +kernel⟩, (inALL_at 303 (by decide +kernel) rfl)⟩
def z_J1_charAt_3b067 : MZ := (yJ1_charAt_3b067, cJ1_charAt_3b067, 2, (some .char), [(0, .iload_n 1, 1), (1, .aload_n 0, 1), (2, .arraylength, 1), (3, .invokestatic 9, 3), (6, .aload_n 0, 1), (7, .iload_n 1, 1), (8, .baload, 1), (9, .sipush 255, 3), (12, .iand, 1), (13, .i2c, 1), (14, .ireturn, 1)], [])
set_option maxRecDepth 20000 in
theorem zo_J1_charAt_3b067 : ZOK z_J1_charAt_3b067 := ⟨by decide +kernel, by intro q hq; cases hq⟩
set_option maxRecDepth 20000 in
theorem k_J1_charAt_3b067 : LKS z_J1_charAt_3b067 2 := ⟨⟨ALL_at 301 (by decide +kernel) rfl, (inALL_at 41 (by decide +kernel) rfl), by decide +kernel⟩, (inALL_at 300 (by decide +kernel) rfl)⟩
def z_J3_checkIndex_8e157 : MZ := (yJ3_checkIndex_8e157, cJ3_checkIndex_8e157, 3, (some .int), [(0, .iload_n 0, 1), (1, .ifCond .lt 8, 3), (4, .iload_n 0, 1), (5, .iload_n 1, 1), (6, .if_icmp .lt 10, 3), (9, .aload_n 2, 1), (10, .iload_n 0, 1), (11, .iload_n 1, 1), (12, .invokestatic 95, 3), (15, .athrow, 1), (16, .iload_n 0, 1), (17, .ireturn, 1)], [])
set_option maxRecDepth 20000 in
theorem zo_J3_checkIndex_8e157 : ZOK z_J3_checkIndex_8e157 := ⟨by decide +kernel, by intro q hq; cases hq⟩
set_option maxRecDepth 20000 in
theorem k_J3_checkIndex_8e157 : LKS z_J3_checkIndex_8e157 3 := ⟨⟨ALL_at 309 (by decide +kernel) rfl, (inALL_at 42 (by decide +kernel) rfl), by decide +kernel⟩, (inALL_at 308 (by decide +kernel) rfl)⟩
set_option maxRecDepth 20000 in
theorem l_J0_335 : LKA "java/lang/String" 335 z_J0_coder_7d493 := Or.inl (inALL_at 285 (by decide +kernel) rfl)
set_option maxRecDepth 20000 in
theorem l_J0_492 : LKA "java/lang/String" 492 z_J0_isLatin1_aae02 := Or.inl (inALL_at 295 (by decide +kernel) rfl)
set_option maxRecDepth 20000 in
theorem l_J0_495 : LKA "java/lang/String" 495 z_J1_charAt_3b067 := Or.inl (inALL_at 299 (by decide +kernel) rfl)
set_option maxRecDepth 20000 in
theorem l_J0_1059 : LKA "java/lang/String" 1059 z_J3_checkIndex_8e157 := Or.inl (inALL_at 307 (by decide +kernel) rfl)
set_option maxRecDepth 20000 in
theorem l_J1_9 : LKA "java/lang/StringLatin1" 9 z_J0_checkIndex_df160 := Or.inl (inALL_at 302 (by decide +kernel) rfl)
set_option maxRecDepth 20000 in
theorem mm_smin : inALL (Cond.static Lib.Math.min.name) = true := (inALL_at 512 (by decide +kernel) rfl)
set_option maxRecDepth 20000 in
theorem mm_cmin : Cond.code Lib.Math.min.name Lib.Math.min.code 2 (some .int) ∈ ALL := ALL_at 513 (by decide +kernel) rfl
set_option maxRecDepth 20000 in
theorem mm_smax : inALL (Cond.static Lib.Math.max.name) = true := (inALL_at 1070 (by decide +kernel) rfl)
set_option maxRecDepth 20000 in
theorem mm_cmax : Cond.code Lib.Math.max.name Lib.Math.max.code 2 (some .int) ∈ ALL := ALL_at 1071 (by decide +kernel) rfl
set_option maxRecDepth 20000 in
theorem mm_i : inALL (Cond.initialized "java/lang/Math") = true := (inALL_at 44 (by decide +kernel) rfl)
theorem sw_out3 {x : Int32} (h0 : ¬ x = 0) (h1 : ¬ x = 1) (h2 : ¬ x = 2) : x.toInt < 0 ∨ 2 < x.toInt := by
  refine Classical.byContradiction fun hn => ?_
  have hr : 0 ≤ x.toInt ∧ x.toInt ≤ 2 := by omega
  have e : x.toInt = 0 ∨ x.toInt = 1 ∨ x.toInt = 2 := by omega
  rcases e with e | e | e
  · exact h0 (Int32.toInt_inj.mp (e.trans rfl))
  · exact h1 (Int32.toInt_inj.mp (e.trans rfl))
  · exact h2 (Int32.toInt_inj.mp (e.trans rfl))
theorem sw_out4 {x : Int32} (h0 : ¬ x = 0) (h1 : ¬ x = 1) (h2 : ¬ x = 2) (h3 : ¬ x = 3) : x.toInt < 0 ∨ 3 < x.toInt := by
  refine Classical.byContradiction fun hn => ?_
  have hr : 0 ≤ x.toInt ∧ x.toInt ≤ 3 := by omega
  have e : x.toInt = 0 ∨ x.toInt = 1 ∨ x.toInt = 2 ∨ x.toInt = 3 := by omega
  rcases e with e | e | e | e
  · exact h0 (Int32.toInt_inj.mp (e.trans rfl))
  · exact h1 (Int32.toInt_inj.mp (e.trans rfl))
  · exact h2 (Int32.toInt_inj.mp (e.trans rfl))
  · exact h3 (Int32.toInt_inj.mp (e.trans rfl))
theorem sw_out5 {x : Int32} (h0 : ¬ x = 0) (h1 : ¬ x = 1) (h2 : ¬ x = 2) (h3 : ¬ x = 3) (h4 : ¬ x = 4) : x.toInt < 0 ∨ 4 < x.toInt := by
  refine Classical.byContradiction fun hn => ?_
  have hr : 0 ≤ x.toInt ∧ x.toInt ≤ 4 := by omega
  have e : x.toInt = 0 ∨ x.toInt = 1 ∨ x.toInt = 2 ∨ x.toInt = 3 ∨ x.toInt = 4 := by omega
  rcases e with e | e | e | e | e
  · exact h0 (Int32.toInt_inj.mp (e.trans rfl))
  · exact h1 (Int32.toInt_inj.mp (e.trans rfl))
  · exact h2 (Int32.toInt_inj.mp (e.trans rfl))
  · exact h3 (Int32.toInt_inj.mp (e.trans rfl))
  · exact h4 (Int32.toInt_inj.mp (e.trans rfl))
theorem sw_out6 {x : Int32} (h0 : ¬ x = 0) (h1 : ¬ x = 1) (h2 : ¬ x = 2) (h3 : ¬ x = 3) (h4 : ¬ x = 4) (h5 : ¬ x = 5) : x.toInt < 0 ∨ 5 < x.toInt := by
  refine Classical.byContradiction fun hn => ?_
  have hr : 0 ≤ x.toInt ∧ x.toInt ≤ 5 := by omega
  have e : x.toInt = 0 ∨ x.toInt = 1 ∨ x.toInt = 2 ∨ x.toInt = 3 ∨ x.toInt = 4 ∨ x.toInt = 5 := by omega
  rcases e with e | e | e | e | e | e
  · exact h0 (Int32.toInt_inj.mp (e.trans rfl))
  · exact h1 (Int32.toInt_inj.mp (e.trans rfl))
  · exact h2 (Int32.toInt_inj.mp (e.trans rfl))
  · exact h3 (Int32.toInt_inj.mp (e.trans rfl))
  · exact h4 (Int32.toInt_inj.mp (e.trans rfl))
  · exact h5 (Int32.toInt_inj.mp (e.trans rfl))
theorem sw_out7 {x : Int32} (h0 : ¬ x = 0) (h1 : ¬ x = 1) (h2 : ¬ x = 2) (h3 : ¬ x = 3) (h4 : ¬ x = 4) (h5 : ¬ x = 5) (h6 : ¬ x = 6) : x.toInt < 0 ∨ 6 < x.toInt := by
  refine Classical.byContradiction fun hn => ?_
  have hr : 0 ≤ x.toInt ∧ x.toInt ≤ 6 := by omega
  have e : x.toInt = 0 ∨ x.toInt = 1 ∨ x.toInt = 2 ∨ x.toInt = 3 ∨ x.toInt = 4 ∨ x.toInt = 5 ∨ x.toInt = 6 := by omega
  rcases e with e | e | e | e | e | e | e
  · exact h0 (Int32.toInt_inj.mp (e.trans rfl))
  · exact h1 (Int32.toInt_inj.mp (e.trans rfl))
  · exact h2 (Int32.toInt_inj.mp (e.trans rfl))
  · exact h3 (Int32.toInt_inj.mp (e.trans rfl))
  · exact h4 (Int32.toInt_inj.mp (e.trans rfl))
  · exact h5 (Int32.toInt_inj.mp (e.trans rfl))
  · exact h6 (Int32.toInt_inj.mp (e.trans rfl))
theorem sw_out8 {x : Int32} (h0 : ¬ x = 0) (h1 : ¬ x = 1) (h2 : ¬ x = 2) (h3 : ¬ x = 3) (h4 : ¬ x = 4) (h5 : ¬ x = 5) (h6 : ¬ x = 6) (h7 : ¬ x = 7) : x.toInt < 0 ∨ 7 < x.toInt := by
  refine Classical.byContradiction fun hn => ?_
  have hr : 0 ≤ x.toInt ∧ x.toInt ≤ 7 := by omega
  have e : x.toInt = 0 ∨ x.toInt = 1 ∨ x.toInt = 2 ∨ x.toInt = 3 ∨ x.toInt = 4 ∨ x.toInt = 5 ∨ x.toInt = 6 ∨ x.toInt = 7 := by omega
  rcases e with e | e | e | e | e | e | e | e
  · exact h0 (Int32.toInt_inj.mp (e.trans rfl))
  · exact h1 (Int32.toInt_inj.mp (e.trans rfl))
  · exact h2 (Int32.toInt_inj.mp (e.trans rfl))
  · exact h3 (Int32.toInt_inj.mp (e.trans rfl))
  · exact h4 (Int32.toInt_inj.mp (e.trans rfl))
  · exact h5 (Int32.toInt_inj.mp (e.trans rfl))
  · exact h6 (Int32.toInt_inj.mp (e.trans rfl))
  · exact h7 (Int32.toInt_inj.mp (e.trans rfl))
theorem sw_out9 {x : Int32} (h0 : ¬ x = 0) (h1 : ¬ x = 1) (h2 : ¬ x = 2) (h3 : ¬ x = 3) (h4 : ¬ x = 4) (h5 : ¬ x = 5) (h6 : ¬ x = 6) (h7 : ¬ x = 7) (h8 : ¬ x = 8) : x.toInt < 0 ∨ 8 < x.toInt := by
  refine Classical.byContradiction fun hn => ?_
  have hr : 0 ≤ x.toInt ∧ x.toInt ≤ 8 := by omega
  have e : x.toInt = 0 ∨ x.toInt = 1 ∨ x.toInt = 2 ∨ x.toInt = 3 ∨ x.toInt = 4 ∨ x.toInt = 5 ∨ x.toInt = 6 ∨ x.toInt = 7 ∨ x.toInt = 8 := by omega
  rcases e with e | e | e | e | e | e | e | e | e
  · exact h0 (Int32.toInt_inj.mp (e.trans rfl))
  · exact h1 (Int32.toInt_inj.mp (e.trans rfl))
  · exact h2 (Int32.toInt_inj.mp (e.trans rfl))
  · exact h3 (Int32.toInt_inj.mp (e.trans rfl))
  · exact h4 (Int32.toInt_inj.mp (e.trans rfl))
  · exact h5 (Int32.toInt_inj.mp (e.trans rfl))
  · exact h6 (Int32.toInt_inj.mp (e.trans rfl))
  · exact h7 (Int32.toInt_inj.mp (e.trans rfl))
  · exact h8 (Int32.toInt_inj.mp (e.trans rfl))
theorem putB_nil {AH cs : List AC} : putB AH [] cs = AH := by cases cs <;> rfl
section JROWS
variable {κ : KX} {z : MZ} {Q : State → Prop} {pc : Nat} {ls : List (Option Value)} {st r : List Value} {AH : List AC} {nc ns : Nat}
theorem r_ldcSW (X : CX κ z) {is : Nat} {tx : String} (i : Nat) (hd : fetch (zC z) pc = some (.ldc_w is, 3)) (hi : strTab[i]? = some ((zY z).cls, is, tx)) (k : AW κ Q (pc + 3) ls (.ref (SB + i) :: st) AH nc ns) : AW κ Q pc ls st AH nc ns := by
  have hd := cxdec X hd
  obtain ⟨p, l, e, R, s, m, args, below, meth, c, D, cA, A, n0, ad0⟩ := κ
  obtain ⟨hx, hb, hml, hown, hts, hK, hG, hA, hlk, htr, hrt, hnm, hz, hf⟩ := X
  intro ad H locs lsA h1 h2 h3 hP hD hS hL
  have hZ := hG.2.1 i _ hi
  have e9 : ad0 (SB + i) = ad (SB + i) := (h1 (SB + i) (Or.inr (Nat.le_add_right _ _))).symm
  intro T hT X9
  obtain ⟨t, a1, b1⟩ := k ad H locs lsA h1 h2 h3 hP hD hS hL T hT X9
  exact ⟨t, X9.ldcStringW hx hown (text := tx) (a := ad0 (SB + i)) hZ.1 hZ.2 (g := F0 m pc lsA (st.map (cvV ad))) rfl (by rw [hb]; exact hd) t (by rw [e9]; exact a1), b1⟩
theorem r_ldcS (X : CX κ z) {is : Nat} {tx : String} (i : Nat) (hd : fetch (zC z) pc = some (.ldc is, 2)) (hi : strTab[i]? = some ((zY z).cls, is, tx)) (k : AW κ Q (pc + 2) ls (.ref (SB + i) :: st) AH nc ns) : AW κ Q pc ls st AH nc ns := by
  have hd := cxdec X hd
  obtain ⟨p, l, e, R, s, m, args, below, meth, c, D, cA, A, n0, ad0⟩ := κ
  obtain ⟨hx, hb, hml, hown, hts, hK, hG, hA, hlk, htr, hrt, hnm, hz, hf⟩ := X
  intro ad H locs lsA h1 h2 h3 hP hD hS hL
  have hZ := hG.2.1 i _ hi
  have e9 : ad0 (SB + i) = ad (SB + i) := (h1 (SB + i) (Or.inr (Nat.le_add_right _ _))).symm
  refine va_ldcS hx hb hown hZ hd ?_
  rw [e9]
  exact k ad H locs lsA h1 h2 h3 hP hD hS hL
theorem r_strC (X : CX κ z) {i index : Nat} (hi : i < nStr) (hd : fetch (zC z) pc = some (.getfield index, 3)) (hl : inALL (Cond.fieldLink (zY z).cls index "java/lang/String" "coder" "B") = true) (k : AW κ Q (pc + 3) ls (.int 0 :: r) AH nc ns) : AW κ Q pc ls (.ref (SB + i) :: r) AH nc ns := by
  have hd := cxdec X hd
  obtain ⟨p, l, e, R, s, m, args, below, meth, c, D, cA, A, n0, ad0⟩ := κ
  obtain ⟨hx, hb, hml, hown, hts, hK, hG, hA, hlk, htr, hrt, hnm, hz, hf⟩ := X
  intro ad H locs lsA h1 h2 h3 hP hD hS hL
  have hE := (hG.1 i hi).2.1
  dsimp only at hE
  rw [← h1 (SB + i) (Or.inr (Nat.le_add_right _ _))] at hE
  exact vk_getf hx hb hE hS hown (hts _ (ALL_of hl)) (fun _ h => h) hd (k ad H locs lsA h1 h2 h3 hP hD hS hL)
theorem r_strV (X : CX κ z) {i index : Nat} (hi : i < nStr) (hd : fetch (zC z) pc = some (.getfield index, 3)) (hl : inALL (Cond.fieldLink (zY z).cls index "java/lang/String" "value" "[B") = true) (k : AW κ Q (pc + 3) ls (.ref (SB + 100 + i) :: r) AH nc ns) : AW κ Q pc ls (.ref (SB + i) :: r) AH nc ns := by
  have hd := cxdec X hd
  obtain ⟨p, l, e, R, s, m, args, below, meth, c, D, cA, A, n0, ad0⟩ := κ
  obtain ⟨hx, hb, hml, hown, hts, hK, hG, hA, hlk, htr, hrt, hnm, hz, hf⟩ := X
  intro ad H locs lsA h1 h2 h3 hP hD hS hL
  have hE := (hG.1 i hi).2.2.1
  dsimp only at hE
  rw [← h1 (SB + i) (Or.inr (Nat.le_add_right _ _)), ← h1 (SB + 100 + i) (Or.inr (by omega))] at hE
  exact vk_getf hx hb hE hS hown (hts _ (ALL_of hl)) (fun _ h => h) hd (k ad H locs lsA h1 h2 h3 hP hD hS hL)
theorem r_strL (X : CX κ z) {i : Nat} (hi : i < nStr) (hd : fetch (zC z) pc = some (.arraylength, 1)) (k : AW κ Q (pc + 1) ls (.int (nI (lenT.getD i 0)) :: r) AH nc ns) : AW κ Q pc ls (.ref (SB + 100 + i) :: r) AH nc ns := by
  have hd := cxdec X hd
  obtain ⟨p, l, e, R, s, m, args, below, meth, c, D, cA, A, n0, ad0⟩ := κ
  obtain ⟨hx, hb, hml, hown, hts, hK, hG, hA, hlk, htr, hrt, hnm, hz, hf⟩ := X
  intro ad H locs lsA h1 h2 h3 hP hD hS hL
  have hE := (hG.1 i hi).2.2.2
  dsimp only at hE
  rw [← h1 (SB + 100 + i) (Or.inr (by omega))] at hE
  exact va_tlen hx hb hE hS rfl hd (k ad H locs lsA h1 h2 h3 hP hD hS hL)
theorem r_strB (X : CX κ z) {i : Nat} {j : Int32} (hi : i < nStr) (hin : vp_in j (lenT.getD i 0)) (hd : fetch (zC z) pc = some (.baload, 1)) (k : AW κ Q (pc + 1) ls (.int ((bytT.getD i []).getD j.toNatClampNeg 0) :: r) AH nc ns) : AW κ Q pc ls (.int j :: .ref (SB + 100 + i) :: r) AH nc ns := by
  have hd := cxdec X hd
  obtain ⟨p, l, e, R, s, m, args, below, meth, c, D, cA, A, n0, ad0⟩ := κ
  obtain ⟨hx, hb, hml, hown, hts, hK, hG, hA, hlk, htr, hrt, hnm, hz, hf⟩ := X
  intro ad H locs lsA h1 h2 h3 hP hD hS hL
  have hE := (hG.1 i hi).2.2.2
  dsimp only at hE
  rw [← h1 (SB + 100 + i) (Or.inr (by omega))] at hE
  exact va_tb hx hb hE hS hin rfl hd (k ad H locs lsA h1 h2 h3 hP hD hS hL)
theorem r_strK (X : CX κ z) {index : Nat} (hd : fetch (zC z) pc = some (.getstatic index, 3)) (hl : inALL (Cond.fieldLink (zY z).cls index "java/lang/String" "COMPACT_STRINGS" "Z") = true) (k : AW κ Q (pc + 3) ls (.int 1 :: st) AH nc ns) : AW κ Q pc ls st AH nc ns := by
  have hd := cxdec X hd
  obtain ⟨p, l, e, R, s, m, args, below, meth, c, D, cA, A, n0, ad0⟩ := κ
  obtain ⟨hx, hb, hml, hown, hts, hK, hG, hA, hlk, htr, hrt, hnm, hz, hf⟩ := X
  intro ad H locs lsA h1 h2 h3 hP hD hS hL
  exact va_gets hx hb hG.2.2.2.2.1 hS hown (hts _ (ALL_of hl)) (fun _ h => h) hd (k ad H locs lsA h1 h2 h3 hP hD hS hL)
theorem r_strF (X : CX κ z) {index : Nat} (hd : fetch (zC z) pc = some (.getstatic index, 3)) (hl : inALL (Cond.fieldLink (zY z).cls index "jdk/internal/util/Preconditions" "SIOOBE_FORMATTER" "Ljava/util/function/BiFunction;") = true) (k : AW κ Q (pc + 3) ls (.null :: st) AH nc ns) (k2 : AW κ Q (pc + 3) ls (.ref (SB + 200) :: st) AH nc ns) : AW κ Q pc ls st AH nc ns := by
  have hd := cxdec X hd
  obtain ⟨p, l, e, R, s, m, args, below, meth, c, D, cA, A, n0, ad0⟩ := κ
  obtain ⟨hx, hb, hml, hown, hts, hK, hG, hA, hlk, htr, hrt, hnm, hz, hf⟩ := X
  intro ad H locs lsA h1 h2 h3 hP hD hS hL
  rcases hG.2.2.2.2.2.1.1 with h | h
  · exact va_gets hx hb h hS hown (hts _ (ALL_of hl)) (fun _ h => h) hd (k ad H locs lsA h1 h2 h3 hP hD hS hL)
  · rw [← h1 (SB + 200) (Or.inr (Nat.le_add_right _ _))] at h
    exact va_gets hx hb h hS hown (hts _ (ALL_of hl)) (fun _ h => h) hd (k2 ad H locs lsA h1 h2 h3 hP hD hS hL)
theorem r_i2c (X : CX κ z) {x v : Int32} (hd : fetch (zC z) pc = some (.i2c, 1)) (hv : (x.toUInt32 % 65536).toInt32 = v) (k : AW κ Q (pc + 1) ls (.int v :: r) AH nc ns) : AW κ Q pc ls (.int x :: r) AH nc ns := by
  have hd := cxdec X hd
  obtain ⟨p, l, e, R, s, m, args, below, meth, c, D, cA, A, n0, ad0⟩ := κ
  obtain ⟨hx, hb, hml, hown, hts, hK, hG, hA, hlk, htr, hrt, hnm, hz, hf⟩ := X
  intro ad H locs lsA h1 h2 h3 hP hD hS hL
  exact lv_i2c hx hb hd hv (k ad H locs lsA h1 h2 h3 hP hD hS hL)
theorem r_ixor (X : CX κ z) {x y : Int32} (hd : fetch (zC z) pc = some (.ixor, 1)) (k : AW κ Q (pc + 1) ls (.int (x ^^^ y) :: r) AH nc ns) : AW κ Q pc ls (.int y :: .int x :: r) AH nc ns := by
  have hd := cxdec X hd
  obtain ⟨p, l, e, R, s, m, args, below, meth, c, D, cA, A, n0, ad0⟩ := κ
  obtain ⟨hx, hb, hml, hown, hts, hK, hG, hA, hlk, htr, hrt, hnm, hz, hf⟩ := X
  intro ad H locs lsA h1 h2 h3 hP hD hS hL
  exact lv_ixor hx hb hd (k ad H locs lsA h1 h2 h3 hP hD hS hL)
theorem r_putZ (X : CX κ z) {index ci kk o : Nat} {fs : List Value} {x : Int32} {r9 : vw_C} {tf : Nat → FieldType} (hd : fetch (zC z) pc = some (.putfield index, 3)) (hF : fget (zF z) index = some (ci, kk)) (ha : AH[o]? = some (.inr (ci, fs))) (hr : vwCl[ci]? = some r9) (htf : vwTy[ci]? = some tf) (hfin : (r9.2.1 kk).2.2.2 = false) (hty : tf kk = .boolean) (h01 : x = 0 ∨ x = 1) (hl : kk < fs.length) (k : AW κ Q (pc + 3) ls r (AH.set o (.inr (ci, fs.set kk (.int x)))) nc ns) : AW κ Q pc ls (.int x :: .ref o :: r) AH nc ns :=
  s_put X (cxdec X hd) (fget_mem hF) ha hr htf hfin (fun ad => by rw [hty]; rcases h01 with rfl | rfl <;> exact ⟨rfl, rfl⟩) hl k
/-- a method of a text constant -/
theorem r_callO (X : CX κ z) {y : MZ} {d mc ms i index n : Nat} {As : List Value} {P : PO} (hi : i < nStr) (hM : Sem y d mc ms (.ref (SB + i) :: As) [] P) (hd : fetch (zC z) pc = some (.invokevirtual index, 3)) (hy : LKV y n) (hcls : (zY y).cls = "java/lang/String") (hl : inALL (.methodLink (zY z).cls index (zY y)) = true) (hn : As.length = n)
    (hst : st = (As.map (cvV (iof [] [] AH.length))).reverse ++ .ref (SB + i) :: r) (hfit : FitR (κR κ) y d mc ms nc ns) (hsum : csum r ≤ 8) (hlen : ∀ r AH2, P r AH2 → AH2.length = 0)
    (kk : ∀ v AHs2, P (.inl v) AHs2 → AW κ Q (pc + 3) ls ((v.map (cvV (iof [] [] AH.length))).toList ++ r) AH (nc + mc) (ns + ms))
    (kx : ∀ E AHs2, P (.inr E) AHs2 → AX κ Q E pc ls r AH (nc + mc) (ns + ms)) : AW κ Q pc ls st AH nc ns := by
  have hd := cxdec X hd
  subst hst
  obtain ⟨p, l, e, R, s, m, args, below, meth, c, D, cA, A, n0, ad0⟩ := κ
  obtain ⟨hx, hb, hml, hown, hts, hK, hG, hA, hlk, htr, hrt, hnm, hz, hf⟩ := X
  obtain ⟨⟨y1, y2, y3⟩, y4, y5⟩ := hy
  obtain ⟨hR, hC⟩ := hfit
  intro ad H locs lsA h1 h2 h3 hP hD hS hL
  have hk : PK [] [] AH [] := ⟨rfl, rfl⟩
  have eSB : iof [] [] AH.length (SB + i) = SB + i := iof_sb (Nat.le_add_right _ _) (by have : nStr = 18 := rfl; unfold SD; omega) (Nat.zero_le _)
  have hstk : (((As.map (cvV (iof [] [] AH.length))).reverse ++ .ref (SB + i) :: r).map (cvV ad)) = (As.map (cvV fun k => ad (iof [] [] AH.length k))).reverse ++ .ref (ad (iof [] [] AH.length (SB + i))) :: r.map (cvV ad) := by
    rw [eSB]
    simp only [List.map_append, List.map_reverse, List.map_map, List.map_cons]
    congr 1
    congr 1
    apply List.map_congr_left
    intro v _
    exact cvV_comp v
  rw [hstk]
  have hO := (hG.1 i hi).1
  dsimp only at hO
  rw [← h1 (SB + i) (Or.inr (Nat.le_add_right _ _))] at hO
  have hrecv : ∃ cell : Cell, H[ad (iof [] [] AH.length (SB + i))]? = some cell ∧ cell.vm.isStatics = false ∧ s.vm.findClass (zY y).cls = some cell.cls := by
    rw [hcls, eSB]
    exact va_Orecv hO hS
  have hpre : PreV s H (zY y).cls (ad (iof [] [] AH.length (SB + i))) (PCn D cA (fun k => ad (iof [] [] AH.length k)) (.ref (SB + i) :: As) [] H.size) (As.map (cvV fun k => ad (iof [] [] AH.length k))) :=
    ⟨PCn.blind, hrecv, fun U hU hW => pk_pre hk (Nat.zero_le _) h1 hP hD hS hA hK hG (.ref (SB + i) :: As) U hU hW⟩
  have hroom : 2 * (F0 m pc lsA ((As.map (cvV fun k => ad (iof [] [] AH.length k))).reverse ++ .ref (ad (iof [] [] AH.length (SB + i))) :: r.map (cvV ad))).monitorRoom + ((r.map (cvV ad)).map fun v => v.category).sum ≤ 8 := lv_room (by rw [csum_map]; exact hsum)
  refine after_call hA h1 h2 h3 hP hD hS hL hk hlen (a := (Value.ref (ad (iof [] [] AH.length (SB + i))) :: As.map (cvV fun k => ad (iof [] [] AH.length k))).toArray) ?_ (fun v A9 h => by rw [putB_nil]; exact kk v A9 h) (fun E A9 h => by rw [putB_nil]; exact kx E A9 h)
  exact vx_runV ⟨hx, hb, hml, hown, hts⟩ (hM l htr D cA (fun k => ad (iof [] [] AH.length k)) H.size) ⟨callB_of n hts (wsM_good y1) rfl rfl rfl (hts _ (ALL_of y2)) (hts _ (ALL_of hl)) y3 hR, hts _ (ALL_of y4), hts _ (ALL_of y5)⟩ hpre rfl (by rw [List.length_map]; exact hn) (hL.1.trans hml) rfl hroom hd hC
end JROWS
theorem lkA {own : String} {idx : Nat} {z : MZ} (h : LKA own idx z) (hn : ∀ q ∈ nestTab, ¬ q.2.2 = zY z) : inALL (.methodLink own idx (zY z)) = true := h.elim id (fun h => absurd rfl (hn _ h))
theorem c_coder (i : Nat) (hi : i < nStr) : Sem z_J0_coder_7d493 0 0 0 [.ref (SB + i)] [] (PST (.inl (some (.int 0))) []) := by
  refine Sem.of zo_J0_coder_7d493 (by decide +kernel) (Nat.le_of_ble_eq_true rfl) fun κ X hE hR hN => ?_
  refine AW.eq (pc' := 0) (ls' := [some (.ref (SB + i))]) (st' := []) (AH' := []) ?_ rfl rfl rfl rfl
  refine r_strK X rfl (by decide +kernel) ?_
  refine r_if_eq X 13 rfl rfl (fun c => absurd c (by decide)) (fun _ => ?_)
  refine go_s 1 X (pc2 := 7) (st2 := [.ref (SB + i)]) rfl ?_
  refine r_strC X hi rfl (by decide +kernel) ?_
  refine go_s 1 X (pc2 := 14) (st2 := [.int 0]) rfl ?_
  exact r_zret X rfl rfl rfl ⟨rfl, rfl⟩ (by decide) (by decide)
theorem c_isLatin1 (i : Nat) (hi : i < nStr) : Sem z_J0_isLatin1_aae02 0 0 0 [.ref (SB + i)] [] (PST (.inl (some (.int 1))) []) := by
  refine Sem.of zo_J0_isLatin1_aae02 (by decide +kernel) (Nat.le_of_ble_eq_true rfl) fun κ X hE hR hN => ?_
  refine AW.eq (pc' := 0) (ls' := [some (.ref (SB + i))]) (st' := []) (AH' := []) ?_ rfl rfl rfl rfl
  refine r_strK X rfl (by decide +kernel) ?_
  refine r_if_eq X 17 rfl rfl (fun c => absurd c (by decide)) (fun _ => ?_)
  refine go_s 1 X (pc2 := 7) (st2 := [.ref (SB + i)]) rfl ?_
  refine r_strC X hi rfl (by decide +kernel) ?_
  refine r_if_ne X 17 rfl rfl (fun c => absurd rfl c) (fun _ => ?_)
  refine go_s 2 X (pc2 := 18) (st2 := [.int 1]) rfl ?_
  exact r_zret X rfl rfl rfl ⟨rfl, rfl⟩ (by decide) (by decide)
theorem shr0 (x : Int32) : x >>> ((0 : Int32) &&& 31) = x := by
  have : ((0 : Int32) &&& 31) = 0 := by decide
  rw [this]
  exact Int32.shiftRight_zero
theorem c_length (i : Nat) (hi : i < nStr) : Sem z_J0_length_8abf5 1 0 0 [.ref (SB + i)] [] (PST (.inl (some (.int (nI (lenT.getD i 0))))) []) := by
  refine Sem.of zo_J0_length_8abf5 (by decide +kernel) (Nat.le_of_ble_eq_true rfl) fun κ X hE hR hN => ?_
  refine AW.eq (pc' := 0) (ls' := [some (.ref (SB + i))]) (st' := []) (AH' := []) ?_ rfl rfl rfl rfl
  refine go_s 1 X (pc2 := 1) (st2 := [.ref (SB + i)]) rfl ?_
  refine r_strV X hi rfl (by decide +kernel) ?_
  refine r_strL X hi rfl ?_
  refine go_s 1 X (pc2 := 6) (st2 := [.ref (SB + i), .int (nI (lenT.getD i 0))]) rfl ?_
  refine r_callO X (As := []) (r := [.int (nI (lenT.getD i 0))]) hi (c_coder i hi) rfl k_J0_coder_7d493 rfl (lkA l_J0_335 (by decide +kernel)) rfl rfl (fit_of hR (by decide) (by decide) (by decide) (by decide)) (Nat.le_of_ble_eq_true rfl) (fun _ _ e => by rw [e.2]; rfl) (fun v A9 e => ?_) (fun _ _ e => by have e1 := e.1; cases e1)
  obtain ⟨e1, rfl⟩ := e
  cases e1
  refine AW.eq (pc' := 9) (ls' := [some (.ref (SB + i))]) (st' := [.int 0, .int (nI (lenT.getD i 0))]) (AH' := []) ?_ rfl rfl rfl rfl
  refine go_s 1 X (pc2 := 10) (st2 := [.int (nI (lenT.getD i 0) >>> ((0 : Int32) &&& 31))]) rfl ?_
  rw [shr0]
  exact r_iret X rfl rfl ⟨rfl, rfl⟩ (by decide) (by decide)
theorem c_pci (i n : Int32) (v : Value) (hv : v = .null ∨ v = .ref (SB + 200)) (h0 : ¬ i < 0) (h1 : i < n) : Sem z_J3_checkIndex_8e157 0 0 0 [.int i, .int n, v] [] (PST (.inl (some (.int i))) []) := by
  refine Sem.of zo_J3_checkIndex_8e157 (by decide +kernel) (by rcases hv with rfl | rfl <;> exact (Nat.le_of_ble_eq_true rfl)) fun κ X hE hR hN => ?_
  refine AW.eq (pc' := 0) (ls' := [some (.int i), some (.int n), some v]) (st' := []) (AH' := []) ?_ rfl (by rcases hv with rfl | rfl <;> rfl) rfl rfl
  refine go_s 1 X (pc2 := 1) (st2 := [.int i]) rfl ?_
  refine r_if_lt X 9 rfl rfl (fun c => absurd c h0) (fun _ => ?_)
  refine go_s 2 X (pc2 := 6) (st2 := [.int n, .int i]) rfl ?_
  refine r_icmp_lt X 16 rfl rfl (fun _ => ?_) (fun c => absurd h1 c)
  refine go_s 1 X (pc2 := 17) (st2 := [.int i]) rfl ?_
  exact r_iret X rfl rfl ⟨rfl, rfl⟩ (by decide) (by decide)
theorem iof_200 (n : Nat) : iof [] [] n (SB + 200) = SB + 200 := iof_sb (Nat.le_add_right _ _) (by unfold SD; omega) (Nat.zero_le _)
theorem c_sci (i n : Int32) (h0 : ¬ i < 0) (h1 : i < n) : Sem z_J0_checkIndex_df160 1 0 0 [.int i, .int n] [] (PST (.inl none) []) := by
  refine Sem.of zo_J0_checkIndex_df160 (by decide +kernel) (Nat.le_of_ble_eq_true rfl) fun κ X hE hR hN => ?_
  refine AW.eq (pc' := 0) (ls' := [some (.int i), some (.int n)]) (st' := []) (AH' := []) ?_ rfl rfl rfl rfl
  refine go_s 2 X (pc2 := 2) (st2 := [.int n, .int i]) rfl ?_
  refine r_strF X rfl (by decide +kernel) ?_ ?_
  · refine r_callS X [] [] (As := [.int i, .int n, .null]) (rest := []) (c_pci i n .null (Or.inl rfl) h0 h1) ⟨rfl, rfl⟩ rfl k_J3_checkIndex_8e157 l_J0_1059 rfl rfl (fit_of hR (by decide) (by decide) (by decide) (by decide)) (Nat.le_of_ble_eq_true rfl) (by decide) (fun _ _ e => by rw [e.2]) (fun v A9 e => ?_) (fun _ _ e => by have e1 := e.1; cases e1)
    obtain ⟨e1, rfl⟩ := e
    cases e1
    refine AW.eq (pc' := 8) (ls' := [some (.int i), some (.int n)]) (st' := [.int i]) (AH' := []) ?_ rfl rfl rfl rfl
    refine go_s 1 X (pc2 := 9) (st2 := []) rfl ?_
    exact r_vret X rfl rfl ⟨rfl, rfl⟩ (by decide) (by decide)
  · refine r_callS X [] [] (As := [.int i, .int n, .ref (SB + 200)]) (rest := []) (c_pci i n (.ref (SB + 200)) (Or.inr rfl) h0 h1) ⟨rfl, rfl⟩ rfl k_J3_checkIndex_8e157 l_J0_1059 rfl (by
      show _ = [Value.ref (iof [] [] _ (SB + 200)), .int n, .int i] ++ []
      rw [iof_200]; rfl) (fit_of hR (by decide) (by decide) (by decide) (by decide)) (Nat.le_of_ble_eq_true rfl) (by decide) (fun _ _ e => by rw [e.2]) (fun v A9 e => ?_) (fun _ _ e => by have e1 := e.1; cases e1)
    obtain ⟨e1, rfl⟩ := e
    cases e1
    refine AW.eq (pc' := 8) (ls' := [some (.int i), some (.int n)]) (st' := [.int i]) (AH' := []) ?_ rfl rfl rfl rfl
    refine go_s 1 X (pc2 := 9) (st2 := []) rfl ?_
    exact r_vret X rfl rfl ⟨rfl, rfl⟩ (by decide) (by decide)
theorem byt_ok : (bytT.all fun l => l.all fun b => decide (((b &&& 255).toUInt32 % 65536).toInt32 = b &&& 255) && decide (narrow .char (.int (b &&& 255)) = .int (b &&& 255))) = true := by decide +kernel
theorem byt_at (i k : Nat) : (((bytT.getD i []).getD k 0 &&& 255).toUInt32 % 65536).toInt32 = scharT i k ∧ narrow .char (.int (scharT i k)) = .int (scharT i k) := by
  unfold scharT
  have h0 : ∀ b : Int32, b = 0 → ((b &&& 255).toUInt32 % 65536).toInt32 = b &&& 255 ∧ narrow .char (.int (b &&& 255)) = .int (b &&& 255) := by
    intro b hb
    subst hb
    exact ⟨by decide +kernel, by decide +kernel⟩
  cases hl : bytT[i]? with
  | none => exact h0 _ (by simp [List.getD, hl])
  | some l =>
    cases hb : l[k]? with
    | none => exact h0 _ (by simp [List.getD, hl, hb])
    | some b =>
      have h9 := List.all_eq_true.mp (List.all_eq_true.mp byt_ok l (List.mem_of_getElem? hl)) b (List.mem_of_getElem? hb)
      simp only [Bool.and_eq_true, decide_eq_true_eq] at h9
      have e : (bytT.getD i []).getD k 0 = b := by simp [List.getD, hl, hb]
      rw [e]
      exact h9
theorem in_lt {j : Int32} {n : Nat} (h : ¬ oob j n) (hn : n < 2 ^ 31) : ¬ j < 0 ∧ j < nI n := by
  obtain ⟨k, hk, rfl⟩ := vp_in_of h hn
  exact ⟨nI_pos (by omega), nI_lt hk hn⟩
theorem lenT_lt : ∀ i, lenT.getD i 0 < 2 ^ 31 := by
  intro i
  have h : (lenT.all fun n => decide (n < 2 ^ 31)) = true := by decide +kernel
  cases hl : lenT[i]? with
  | none => simp [List.getD, hl]
  | some n =>
    have h9 := List.all_eq_true.mp h n (List.mem_of_getElem? hl)
    simp only [decide_eq_true_eq] at h9
    simpa [List.getD, hl] using h9
theorem iof_v {i : Nat} (hi : i < nStr) (n : Nat) : iof [] [] n (SB + 100 + i) = SB + 100 + i := iof_sb (by omega) (by have : nStr = 18 := rfl; unfold SD; omega) (Nat.zero_le _)
theorem c_lcharAt (i : Nat) (hi : i < nStr) (j : Int32) (hj : ¬ oob j (lenT.getD i 0)) : Sem z_J1_charAt_3b067 2 0 0 [.ref (SB + 100 + i), .int j] [] (PST (.inl (some (.int (scharT i j.toNatClampNeg)))) []) := by
  obtain ⟨g0, g1⟩ := in_lt hj (lenT_lt i)
  obtain ⟨b1, b2⟩ := byt_at i j.toNatClampNeg
  refine Sem.of zo_J1_charAt_3b067 (by decide +kernel) (Nat.le_of_ble_eq_true rfl) fun κ X hE hR hN => ?_
  refine AW.eq (pc' := 0) (ls' := [some (.ref (SB + 100 + i)), some (.int j)]) (st' := []) (AH' := []) ?_ rfl rfl rfl rfl
  refine go_s 2 X (pc2 := 2) (st2 := [.ref (SB + 100 + i), .int j]) rfl ?_
  refine r_strL X hi rfl ?_
  refine q_callS X [] [] (As := [.int j, .int (nI (lenT.getD i 0))]) (rest := []) (AH2 := []) (st2 := []) (c_sci _ _ g0 g1) ⟨rfl, rfl⟩ rfl k_J0_checkIndex_df160 l_J1_9 rfl rfl (fit_of hR (by decide) (by decide) (by decide) (by decide)) (Nat.le_of_ble_eq_true rfl) (by decide) rfl rfl rfl ?_
  refine AW.eq (pc' := 6) (ls' := [some (.ref (SB + 100 + i)), some (.int j)]) (st' := []) (AH' := []) ?_ rfl rfl rfl rfl
  refine go_s 2 X (pc2 := 8) (st2 := [.int j, .ref (SB + 100 + i)]) rfl ?_
  refine r_strB X hi hj rfl ?_
  refine go_s 2 X (pc2 := 13) (st2 := [.int ((bytT.getD i []).getD j.toNatClampNeg 0 &&& 255)]) rfl ?_
  refine r_i2c X rfl b1 ?_
  exact r_zret X rfl rfl b2 ⟨rfl, rfl⟩ (by decide) (by decide)
theorem c_charAt (i : Nat) (hi : i < nStr) (j : Int32) (hj : ¬ oob j (lenT.getD i 0)) : Sem z_J0_charAt_5068e 3 0 0 [.ref (SB + i), .int j] [] (PST (.inl (some (.int (scharT i j.toNatClampNeg)))) []) := by
  obtain ⟨b1, b2⟩ := byt_at i j.toNatClampNeg
  refine Sem.of zo_J0_charAt_5068e (by decide +kernel) (Nat.le_of_ble_eq_true rfl) fun κ X hE hR hN => ?_
  refine AW.eq (pc' := 0) (ls' := [some (.ref (SB + i)), some (.int j)]) (st' := []) (AH' := []) ?_ rfl rfl rfl rfl
  refine go_s 1 X (pc2 := 1) (st2 := [.ref (SB + i)]) rfl ?_
  refine r_callO X (As := []) (r := []) hi (c_isLatin1 i hi) rfl k_J0_isLatin1_aae02 rfl (lkA l_J0_492 (by decide +kernel)) rfl rfl (fit_of hR (by decide) (by decide) (by decide) (by decide)) (Nat.le_of_ble_eq_true rfl) (fun _ _ e => by rw [e.2]; rfl) (fun v A9 e => ?_) (fun _ _ e => by have e1 := e.1; cases e1)
  obtain ⟨e1, rfl⟩ := e
  cases e1
  refine AW.eq (pc' := 4) (ls' := [some (.ref (SB + i)), some (.int j)]) (st' := [.int 1]) (AH' := []) ?_ rfl rfl rfl rfl
  refine r_if_eq X 16 rfl rfl (fun c => absurd c (by decide)) (fun _ => ?_)
  refine go_s 1 X (pc2 := 8) (st2 := [.ref (SB + i)]) rfl ?_
  refine r_strV X hi rfl (by decide +kernel) ?_
  refine go_s 1 X (pc2 := 12) (st2 := [.int j, .ref (SB + 100 + i)]) rfl ?_
  refine q_callS X [] [] (As := [.ref (SB + 100 + i), .int j]) (rest := []) (AH2 := []) (st2 := [.int (scharT i j.toNatClampNeg)]) (c_lcharAt i hi j hj) ⟨rfl, rfl⟩ rfl k_J1_charAt_3b067 l_J0_495 rfl (by
    show _ = [Value.int j, Value.ref (iof [] [] _ (SB + 100 + i))] ++ []
    rw [iof_v hi]; rfl) (fit_of hR (by decide) (by decide) (by decide) (by decide)) (Nat.le_of_ble_eq_true rfl) (by decide) rfl rfl rfl ?_
  exact r_zret X rfl rfl b2 ⟨rfl, rfl⟩ (by decide) (by decide)
section STRCALLS
variable {κ : KX} {z : MZ} {Q : State → Prop} {pc : Nat} {ls : List (Option Value)} {r : List Value} {AH : List AC} {nc ns : Nat}
theorem r_slenT (X : CX κ z) {i index d0 mc0 ms0 : Nat} (hd : fetch (zC z) pc = some (.invokevirtual index, 3)) (hl : inALL (.methodLink (zY z).cls index yJ0_length_8abf5) = true) (hi : i < nStr) (hR : κR κ = rmM d0 mc0 ms0) (hd0 : 1 < d0) (hc : nc ≤ mc0) (hs : ns ≤ ms0) (hsum : csum r ≤ 8) (k : AW κ Q (pc + 3) ls (.int (nI (lenT.getD i 0)) :: r) AH nc ns) : AW κ Q pc ls (.ref (SB + i) :: r) AH nc ns := by
  refine r_callO X (As := []) (r := r) hi (c_length i hi) hd k_J0_length_8abf5 rfl hl rfl rfl (fit_of hR hd0 (by decide) (by omega) (by omega)) hsum (fun _ _ e => by rw [e.2]; rfl) (fun v A9 e => ?_) (fun _ _ e => by have e1 := e.1; cases e1)
  obtain ⟨e1, rfl⟩ := e
  cases e1
  exact k
theorem r_scharT (X : CX κ z) {i index d0 mc0 ms0 : Nat} {j : Int32} (hd : fetch (zC z) pc = some (.invokevirtual index, 3)) (hl : inALL (.methodLink (zY z).cls index yJ0_charAt_5068e) = true) (hi : i < nStr) (hR : κR κ = rmM d0 mc0 ms0) (hd0 : 3 < d0) (hc : nc ≤ mc0) (hs : ns ≤ ms0) (hsum : csum r ≤ 8) (hj : ¬ oob j (lenT.getD i 0)) (k : AW κ Q (pc + 3) ls (.int (scharT i j.toNatClampNeg) :: r) AH nc ns) : AW κ Q pc ls (.int j :: .ref (SB + i) :: r) AH nc ns := by
  refine r_callO X (As := [.int j]) (r := r) hi (c_charAt i hi j hj) hd k_J0_charAt_5068e rfl hl rfl rfl (fit_of hR hd0 (by decide) (by omega) (by omega)) hsum (fun _ _ e => by rw [e.2]; rfl) (fun v A9 e => ?_) (fun _ _ e => by have e1 := e.1; cases e1)
  obtain ⟨e1, rfl⟩ := e
  cases e1
  exact k
theorem r_slen (X : CX κ z) {i index d0 mc0 ms0 : Nat} (hd : fetch (zC z) pc = some (.invokevirtual index, 3)) (hl : inALL (.methodLink (zY z).cls index yJ0_length_8abf5) = true) (hi : i < 6) (hR : κR κ = rmM d0 mc0 ms0) (hd0 : 1 < d0) (hc : nc ≤ mc0) (hs : ns ≤ ms0) (hsum : csum r ≤ 8) (k : AW κ Q (pc + 3) ls (.int (nI (lenS.getD i 0)) :: r) AH nc ns) : AW κ Q pc ls (.ref (SB + i) :: r) AH nc ns := by
  refine r_slenT X hd hl (Nat.lt_trans hi (by decide)) hR hd0 hc hs hsum ?_
  rw [lenST i hi]
  exact k
theorem r_schar (X : CX κ z) {i index d0 mc0 ms0 : Nat} {j : Int32} (hd : fetch (zC z) pc = some (.invokevirtual index, 3)) (hl : inALL (.methodLink (zY z).cls index yJ0_charAt_5068e) = true) (hi : i < 6) (hR : κR κ = rmM d0 mc0 ms0) (hd0 : 3 < d0) (hc : nc ≤ mc0) (hs : ns ≤ ms0) (hsum : csum r ≤ 8) (hj : ¬ oob j (lenS.getD i 0)) (k : AW κ Q (pc + 3) ls (.int (schar i j.toNatClampNeg) :: r) AH nc ns) : AW κ Q pc ls (.int j :: .ref (SB + i) :: r) AH nc ns := by
  refine r_scharT X hd hl (Nat.lt_trans hi (by decide)) hR hd0 hc hs hsum (by rw [lenST i hi]; exact hj) ?_
  rw [scharST hi]
  exact k
end STRCALLS
theorem c_copyRow (n : Nat) (f g : Nat → Int32) (hn : n = 40 ∨ n = 6) : Sem z_X8_copyRow 0 0 0 [.ref 0, .ref 1] [.inl (0, n, .inl f), .inl (0, n, .inl g)] (PST (.inl none) [.inl (0, n, .inl f), .inl (0, n, .inl (va_cpy f g 0 0 n))]) := by
  have hlt : n < 2 ^ 31 := by omega
  refine Sem.of zo_X8_copyRow (by decide +kernel) (Nat.le_of_ble_eq_true rfl) fun κ X hE hR hN => ?_
  refine AW.eq (pc' := 0) (ls' := [some (.ref 0), some (.ref 1)]) (st' := []) (AH' := [.inl (0, n, .inl f), .inl (0, n, .inl g)]) ?_ rfl rfl rfl rfl
  refine go_s 8 X (pc2 := 8) (st2 := [.int (Int32.ofNat n), .int (Int32.ofNat n), .int 0, .ref 1, .int 0, .ref 0]) rfl ?_
  refine r_mmin X (d := 0) rfl (by decide +kernel) (by rw [hR]; exact ⟨by simp [rmM], by simp [rmM, csum, Value.category], Nat.le_refl _, Nat.le_refl _⟩) mm_smin mm_i mm_cmin ?_
  rw [if_neg (show ¬ Int32.ofNat n < Int32.ofNat n from nI_nlt (Nat.le_refl n) hlt)]
  have e1 : (Int32.ofNat n).toNatClampNeg = n := nI_clamp hlt
  refine r_copyi X (index := 446) rfl (by decide +kernel) (by decide +kernel) (by decide +kernel) (by decide +kernel) rfl rfl (by decide) (by decide) (nI_pos hlt) (by rw [e1]; show 0 + n ≤ n; omega) (by rw [e1]; show 0 + n ≤ n; omega) (by rw [hR]; exact ⟨by simp [rmM], by decide +kernel⟩) ?_
  rw [e1]
  exact r_vret X rfl rfl ⟨rfl, rfl⟩ (by decide) (by decide)

