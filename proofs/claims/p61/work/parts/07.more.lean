/-! ===== 07: exceptions, Math.min and max, arraycopy, new things ===== -/
def RNs : List String := ["java/lang/RuntimeException", "java/lang/Exception"]
def thOK (own : String) (ik ic : Nat) (cls : String) : Bool := inALL (.classLink own ik cls) && (inALL (.initialized cls) && ((vx_atS own ic cls RNs).all fun w => inALL w || (decide (w = .castable cls cls) || dcls.any fun Y => decide (w = .declares (Bundle.initS Y)))))
theorem fit_exc : ∀ E ∈ excs, Bundle.fit E = true := by decide +kernel
theorem fit_rn : ∀ E ∈ RNs, Bundle.fit E = true := by decide +kernel
theorem ot_good {w : Cond} (h : goodWord w = true) : vx_ot w = true := by
  unfold vx_ot
  rw [h, Bool.or_true]
section EXC
variable {κ : KX} {z : MZ} {P : PO} {Q : State → Prop} {pc : Nat} {ls : List (Option Value)} {st r : List Value} {AH : List AC} {nc ns mc ms : Nat}
/-- 'throw new E("text")', the text by a wide index -/
theorem r_throw (X : CX κ z) (hE : CE κ) {ik is ic d : Nat} (cls text : String) (i : Nat) (hok : thOK (zY z).cls ik ic cls = true) (hcls : cls ∈ excs) (hi : strTab[i]? = some ((zY z).cls, is, text))
    (d0 : fetch (zC z) pc = some (.new ik, 3)) (d3 : fetch (zC z) (pc + 3) = some (.dup, 1)) (d4 : fetch (zC z) (pc + 4) = some (.ldc_w is, 3)) (d7 : fetch (zC z) (pc + 7) = some (.invokespecial ic, 3)) (d10 : fetch (zC z) (pc + 10) = some (.athrow, 1))
    (hR : κR κ = rmM d mc ms) (hsum : csum st ≤ 8) (hc : nc + 1 ≤ mc) (hs : ns + 6 ≤ ms) (hP0 : P (.inr cls) AH) : AW κ (QM κ P mc ms) pc ls st AH nc ns := by
  have d0 := cxdec X d0
  have d3 := cxdec X d3
  have d4 := cxdec X d4
  have d7 := cxdec X d7
  have d10 := cxdec X d10
  obtain ⟨p, l, e, R, s, m, args, below, meth, c, D, cA, A, n0, ad0⟩ := κ
  obtain ⟨hx, hb, hml, hown, hts, hK, hG, hA, hlk, htr, hrt, hnm, hz, hf⟩ := X
  simp only [thOK, Bool.and_eq_true, List.all_eq_true, List.any_eq_true, Bool.or_eq_true, decide_eq_true_eq] at hok
  obtain ⟨o1, o2, o3⟩ := hok
  have hcast : (Cond.castable cls cls).before args s = true := va_Nw.use rfl (hG.2.2.2.2.2.2.2.1 cls hcls)
  have hR' : R = rmM d mc ms := hR
  subst hR'
  intro ad H locs lsA h1 h2 h3 hP hD hS hL
  refine vx_throwSW (names := RNs) (A := A) hx hb htr hown (fit_exc cls hcls) fit_rn (hts _ (ALL_of o1)) (hts _ (ALL_of o2)) (hG.2.1 i _ hi) (fun w hw => ?_) (fun w hw => ?_) hG.2.2.1 hG.2.2.2.1 hS hL.1 d0 d3 d4 d7 d10 (fun x hx9 => (hE x hx9).elim) ?_ ?_ (Nat.le_trans hc (Nat.le_refl _)) (Nat.le_trans hs (Nat.le_refl _)) hlk (fun t hv hz9 hq9 => ?_) hS.2.2 hc hs
  · rcases o3 w hw with h | h | ⟨Y, hY, h⟩
    · exact hts _ (ALL_of h)
    · rw [h]; exact hcast
    · rw [h]; exact va_Nw.use rfl (hG.2.2.2.2.2.2.2.2.2.2 Y hY)
  · rcases List.mem_cons.mp hw with rfl | hw
    · exact ot_good (List.mem_filter.mp (ALL_of o1)).2
    · rcases List.mem_cons.mp hw with rfl | hw
      · exact ot_good (List.mem_filter.mp (ALL_of o2)).2
      · rcases o3 w hw with h | h | ⟨Y, hY, h⟩
        · exact ot_good (List.mem_filter.mp (ALL_of h)).2
        · rw [h]; rfl
        · rw [h]; rfl
  · show 2 + 3 < d + 8
    omega
  · rw [csum_map]
    show csum st + (13 * (2 + 1) + 43) ≤ 40 * d + 240
    omega
  · refine ⟨⟨AH, ad, hP0, h1, h2, h3, hP.kept fun k q hk => hq9 _ (hP k q hk).lt, hD⟩, Nat.le_trans hS.1 hz9, fun q g1 g2 => ?_⟩
    rw [hq9 q (Nat.lt_of_lt_of_le g1 hS.1)]
    exact hS.2.1 q g1 g2
/-- an exception goes on to the caller -/
theorem x_out (X : CX κ z) (hE : CE κ) {E : String} (hP0 : P (.inr E) AH) (hc : nc ≤ mc) (hs : ns ≤ ms) : AX κ (QM κ P mc ms) E pc ls st AH nc ns := by
  obtain ⟨p, l, e, R, s, m, args, below, meth, c, D, cA, A, n0, ad0⟩ := κ
  obtain ⟨hx, hb, hml, hown, hts, hK, hG, hA, hlk, htr, hrt, hnm, hz, hf⟩ := X
  intro ad H locs lsA ce q h1 h2 h3 hP hD hS hL hce hcv hcl
  exact vx_out (fun x hx9 => (hE x hx9).elim) hlk hce hcv hcl (fun t ht _ => ⟨⟨AH, ad, hP0, h1, h2, h3, by rw [ht]; exact hP, hD⟩, hS.F ht⟩) hS.2.2 hc hs
theorem LR.kill {nL : Nat} {ad : Nat → Nat} {ls : List (Option Value)} {lsA ls' : Array Slot} {i : Nat} {w : Value} (h : LR nL ad ls lsA) (hn : lv_has ls' nL ((i, w) :: (lvL ad 0 ls).filter (fun q => !(q.1 == i) && !(q.1 + 1 == i && q.2.category == 2)))) : LR nL ad ((lset1 ls i .null).set i none) ls' := by
  refine ⟨hn.1, by rw [List.length_set, lset1_len]; exact h.2.1, hn.2.1, fun j v hj => ?_⟩
  rw [List.getElem?_set] at hj
  by_cases e : i = j
  · rw [if_pos e] at hj
    split at hj <;> simp at hj
  · rw [if_neg e] at hj
    rcases lset1_at hj with ⟨rfl, rfl⟩ | ⟨h1, h2, h3⟩
    · exact absurd rfl e
    · refine hn.2.2 (j, cvV ad v) (List.mem_cons_of_mem _ (List.mem_filter.mpr ⟨?_, ?_⟩))
      · have := lvL_of (ad := ad) (n := 0) h2
        rwa [Nat.zero_add] at this
      · simp only [cvV_cat, Bool.and_eq_true, Bool.not_eq_true', beq_eq_false_iff_ne, ne_eq, Bool.and_eq_false_iff]
        refine ⟨h1, ?_⟩
        by_cases e2 : j + 1 = i
        · exact Or.inr fun e3 => h3 ⟨e2, e3⟩
        · exact Or.inl e2
/-- caught, and put away into a local (astore i at the handler) -/
theorem x_catch (X : CX κ z) {hh : List (Nat × Nat × Nat × Nat)} (hT : CH κ hh) {E : String} (i : Nat) (pre : List ExceptionTableEntry) (x : ExceptionTableEntry) (suf : List ExceptionTableEntry) (hsplit : tableOf hh = pre ++ x :: suf)
    (hpass : ∀ y ∈ pre, y.catchType ≠ 0 ∧ ∃ nm ∈ ["java/lang/IllegalStateException"], inALL (Cond.classLink (zY z).cls y.catchType nm) = true ∧ E ≠ nm) (hx0 : covers x pc = true) (h0 : x.catchType ≠ 0) (hE : E ∈ excs) (hlink : inALL (Cond.classLink (zY z).cls x.catchType E) = true)
    (hd : fetch (zC z) x.handlerPc = some (.astore i, 2)) (hi : i < ls.length) (k : AW κ Q (x.handlerPc + 2) ((lset1 ls i .null).set i none) [] AH nc ns) : AX κ Q E pc ls st AH nc ns := by
  have hd := cxdec X hd
  obtain ⟨p, l, e, R, s, m, args, below, meth, c, D, cA, A, n0, ad0⟩ := κ
  obtain ⟨hx, hb, hml, hown, hts, hK, hG, hA, hlk, htr, hrt, hnm, hz, hf⟩ := X
  intro ad H locs lsA ce q h1 h2 h3 hP hD hS hL hce hcv hcl
  refine vx_catch hown pre x suf (hT.trans hsplit) (fun y hy => ?_) hx0 h0 (hts _ (ALL_of hlink)) (va_Nw.use rfl (hG.2.2.2.2.2.2.2.1 E hE)) hce hcv hcl ?_
  · obtain ⟨g1, nm, g2, g3, g4⟩ := hpass y hy
    exact Or.inr ⟨g1, nm, hts _ (ALL_of g3), hG.2.2.2.2.2.2.2.2.1 E hE nm g2 g4⟩
  · exact lv_astore hx hb hd hL.has (hL.2.1 ▸ hi) rfl (fun ls9 hn => k ad H locs ls9 h1 h2 h3 hP hD hS (hL.kill hn))
theorem x_catch_n (X : CX κ z) {hh : List (Nat × Nat × Nat × Nat)} (hT : CH κ hh) {E : String} (i : Fin 4) (pre : List ExceptionTableEntry) (x : ExceptionTableEntry) (suf : List ExceptionTableEntry) (hsplit : tableOf hh = pre ++ x :: suf)
    (hpass : ∀ y ∈ pre, y.catchType ≠ 0 ∧ ∃ nm ∈ ["java/lang/IllegalStateException"], inALL (Cond.classLink (zY z).cls y.catchType nm) = true ∧ E ≠ nm) (hx0 : covers x pc = true) (h0 : x.catchType ≠ 0) (hE : E ∈ excs) (hlink : inALL (Cond.classLink (zY z).cls x.catchType E) = true)
    (hd : fetch (zC z) x.handlerPc = some (.astore_n i, 1)) (hi : (i : Nat) < ls.length) (k : AW κ Q (x.handlerPc + 1) ((lset1 ls i .null).set i none) [] AH nc ns) : AX κ Q E pc ls st AH nc ns := by
  have hd := cxdec X hd
  obtain ⟨p, l, e, R, s, m, args, below, meth, c, D, cA, A, n0, ad0⟩ := κ
  obtain ⟨hx, hb, hml, hown, hts, hK, hG, hA, hlk, htr, hrt, hnm, hz, hf⟩ := X
  intro ad H locs lsA ce q h1 h2 h3 hP hD hS hL hce hcv hcl
  refine vx_catch hown pre x suf (hT.trans hsplit) (fun y hy => ?_) hx0 h0 (hts _ (ALL_of hlink)) (va_Nw.use rfl (hG.2.2.2.2.2.2.2.1 E hE)) hce hcv hcl ?_
  · obtain ⟨g1, nm, g2, g3, g4⟩ := hpass y hy
    exact Or.inr ⟨g1, nm, hts _ (ALL_of g3), hG.2.2.2.2.2.2.2.2.1 E hE nm g2 g4⟩
  · exact lv_astore_n hx hb hd rfl hL.has (hL.2.1 ▸ hi) rfl (fun ls9 hn => k ad H locs ls9 h1 h2 h3 hP hD hS (hL.kill hn))
theorem r_mmin (X : CX κ z) {index : Nat} {x y : Int32} {d : Nat} (hd : fetch (zC z) pc = some (.invokestatic index, 3)) (hl : inALL (Cond.methodLink (zY z).cls index Lib.Math.min.name) = true) (hR : 1 ≤ (κR κ).frames ∧ csum r + 13 ≤ (κR κ).locals ∧ nc ≤ (κR κ).cells ∧ ns ≤ (κR κ).slots) (h4 : inALL (Cond.static Lib.Math.min.name) = true) (h5 : inALL (Cond.initialized "java/lang/Math") = true) (h6 : Cond.code Lib.Math.min.name Lib.Math.min.code 2 (some .int) ∈ ALL)
    (k : AW κ Q (pc + 3) ls (.int (if y < x then y else x) :: r) AH nc ns) : AW κ Q pc ls (.int y :: .int x :: r) AH nc ns := by
  have hd := cxdec X hd
  obtain ⟨p, l, e, R, s, m, args, below, meth, c, D, cA, A, n0, ad0⟩ := κ
  obtain ⟨hx, hb, hml, hown, hts, hK, hG, hA, hlk, htr, hrt, hnm, hz, hf⟩ := X
  intro ad H locs lsA h1 h2 h3 hP hD hS hL
  exact va_mmin hx hb hL.1.symm hown (hts _ (ALL_of hl)) (hts _ (ALL_of h4)) (hts _ (ALL_of h5)) (hts _ h6) hR.1 (by rw [csum_map]; exact hR.2.1) hR.2.2.1 hR.2.2.2 hd (k ad H locs lsA h1 h2 h3 hP hD hS hL)
theorem r_mmax (X : CX κ z) {index : Nat} {x y : Int32} {d : Nat} (hd : fetch (zC z) pc = some (.invokestatic index, 3)) (hl : inALL (Cond.methodLink (zY z).cls index Lib.Math.max.name) = true) (hR : 1 ≤ (κR κ).frames ∧ csum r + 13 ≤ (κR κ).locals ∧ nc ≤ (κR κ).cells ∧ ns ≤ (κR κ).slots) (h4 : inALL (Cond.static Lib.Math.max.name) = true) (h5 : inALL (Cond.initialized "java/lang/Math") = true) (h6 : Cond.code Lib.Math.max.name Lib.Math.max.code 2 (some .int) ∈ ALL)
    (k : AW κ Q (pc + 3) ls (.int (if x < y then y else x) :: r) AH nc ns) : AW κ Q pc ls (.int y :: .int x :: r) AH nc ns := by
  have hd := cxdec X hd
  obtain ⟨p, l, e, R, s, m, args, below, meth, c, D, cA, A, n0, ad0⟩ := κ
  obtain ⟨hx, hb, hml, hown, hts, hK, hG, hA, hlk, htr, hrt, hnm, hz, hf⟩ := X
  intro ad H locs lsA h1 h2 h3 hP hD hS hL
  exact va_mmax hx hb hL.1.symm hown (hts _ (ALL_of hl)) (hts _ (ALL_of h4)) (hts _ (ALL_of h5)) (hts _ h6) hR.1 (by rw [csum_map]; exact hR.2.1) hR.2.2.1 hR.2.2.2 hd (k ad H locs lsA h1 h2 h3 hP hD hS hL)
theorem r_copyi (X : CX κ z) {index a0 a n0' n1 : Nat} {f g : Nat → Int32} {sp dp n : Int32} (hd : fetch (zC z) pc = some (.invokestatic index, 3)) (hl : inALL (Cond.methodLink (zY z).cls index arraycopyName) = true) (h4 : inALL (Cond.native arraycopyName) = true) (h5 : inALL (Cond.static arraycopyName) = true) (h6 : inALL (Cond.initialized "java/lang/System") = true)
    (ha0 : AH[a0]? = some (.inl (0, n0', .inl f))) (ha1 : AH[a]? = some (.inl (0, n1, .inl g))) (g1 : ¬ sp < 0) (g2 : ¬ dp < 0) (g3 : ¬ n < 0) (g4 : sp.toNatClampNeg + n.toNatClampNeg ≤ n0') (g5 : dp.toNatClampNeg + n.toNatClampNeg ≤ n1) (hR : 1 ≤ (κR κ).frames ∧ csum r + (nativeFrameWords "java/lang/System" "arraycopy" 5 + 11) ≤ (κR κ).locals)
    (k : AW κ Q (pc + 3) ls r (AH.set a (.inl (0, n1, .inl (va_cpy f g sp.toNatClampNeg dp.toNatClampNeg n.toNatClampNeg)))) nc ns) : AW κ Q pc ls (.int n :: .int dp :: .ref a :: .int sp :: .ref a0 :: r) AH nc ns := by
  have hd := cxdec X hd
  obtain ⟨p, l, e, R, s, m, args, below, meth, c, D, cA, A, n0, ad0⟩ := κ
  obtain ⟨hx, hb, hml, hown, hts, hK, hG, hA, hlk, htr, hrt, hnm, hz, hf⟩ := X
  intro ad H locs lsA h1 h2 h3 hP hD hS hL
  refine va_copyi hx hb hL.1.symm hown (hts _ (ALL_of hl)) (hts _ (ALL_of h4)) (hts _ (ALL_of h5)) (hts _ (ALL_of h6)) hK hP hD hS a0 a 0 0 (cw_at ha0) (cw_at ha1) rfl rfl rfl g1 g2 g3 g4 g5 (fun _ _ => rfl) hR.1 (by rw [csum_map]; exact hR.2) hd (fun H1 locs1 hP1 hD1 hS1 => ?_)
  have e1 := cw_set (cA := cA) (ad := ad) (AH := AH) (k := a) (c := .inl (0, n1, .inl (va_cpy f g sp.toNatClampNeg dp.toNatClampNeg n.toNatClampNeg)))
  exact k ad H1 locs1 lsA h1 (by rw [List.length_set]; exact h2) (by rw [List.length_set]; exact h3) (e1 ▸ hP1) (e1 ▸ hD1) hS1 hL
end EXC
