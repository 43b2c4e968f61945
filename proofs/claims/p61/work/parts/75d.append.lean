/-! ===== 75d: StringBuilder: append(String) of a text constant, append(char), append(int) ===== -/
theorem cl_cons {n : Nat} {v : Value} {ls : List (Option Value)} (h : cloV n v = true) (h2 : cloL n ls = true) : cloL n (some v :: ls) = true := by
  show (cloV n v && cloL n ls) = true
  rw [h, h2]
  rfl
theorem cl_sb {k i : Nat} : cloV k (.ref (SB + i)) = true := by
  show (Nat.blt (SB + i) k || Nat.ble SB (SB + i)) = true
  rw [Nat.ble_eq_true_of_le (Nat.le_add_right SB i), Bool.or_true]
section COPYT
variable {p : Program} {l : Launch} {e : Env} {R : Room} {s : State} {m : MethodId} {args : Array Value} {below : List Frame} {meth : Method} {c : Code} {H : Heap} {locs : List Loc} {cells slots : Nat} {Q : State → Prop}
variable {cc : ByteArray} {pc : Nat} {ls : Array Slot} {rest : List Value} {D : va_G} {cl : List vw_C} {A : Nat → Prop} {a : Nat} {tys : List (ClassId × FieldType)} {ws : va_W}
/-- System.arraycopy out of a row of bytes that lies outside the world (follows the kit's va_copyx) -/
theorem copyT {cc : ByteArray} (hexec : p.tables.exec = Jvm.exec) (hb : c.code = cc) (hml : c.maxLocals = ls.size) {own : String} {index : Nat} (hown : s.vm.findClass own = some m.cls) (hlink : (Cond.methodLink own index arraycopyName).before args s = true) (hnat : (Cond.native arraycopyName).before args s = true) (hstat : (Cond.static arraycopyName).before args s = true) (hini : (Cond.initialized "java/lang/System").before args s = true)
    (hK : va_K D cl tys s) (hP : va_P D cl ws H) (hD : va_D A ws) (hS : va_S A s.heap H locs) {b0 n0 : Nat} {f : Nat → Int32} (hX : va_T .byte b0 n0 (fun j => .int (f j)) A s s.heap) (q1 t1 : Nat) {c1 : ClassId} {n1 : Nat} {g : Nat → Int32} (ha1 : ws[q1]? = some (a, .inl (c1, n1, .inl g))) (ht1 : tys[t1]? = some (c1, .byte))
    {sp dp n : Int32} (h1 : ¬ sp < 0) (h2 : ¬ dp < 0) (h3 : ¬ n < 0) (h4 : sp.toNatClampNeg + n.toNatClampNeg ≤ n0) (h5 : dp.toNatClampNeg + n.toNatClampNeg ≤ n1) (hfit : ∀ i, i < n.toNatClampNeg → fits .byte (.int (f (sp.toNatClampNeg + i))) = true)
    (hframes : 1 ≤ R.frames) (hlocals : (rest.map fun v => v.category).sum + (nativeFrameWords "java/lang/System" "arraycopy" 5 + 11) ≤ R.locals) (hdg : decode cc pc = .ok (.invokestatic index, 3))
    (kk : ∀ (H1 : Heap) (locs1 : List Loc), va_P D cl (ws.set q1 (a, .inl (c1, n1, .inl (va_cpy f g sp.toNatClampNeg dp.toNatClampNeg n.toNatClampNeg)))) H1 → va_D A (ws.set q1 (a, .inl (c1, n1, .inl (va_cpy f g sp.toNatClampNeg dp.toNatClampNeg n.toNatClampNeg)))) → va_S A s.heap H1 locs1 → W p l e R s m args below meth c H1 locs1 cells slots Q (F0 m (pc + 3) ls rest)) : W p l e R s m args below meth c H locs cells slots Q (F0 m pc ls (.int n :: .int dp :: .ref a :: .int sp :: .ref b0 :: rest)) := by
  have nn : ∀ z : Int32, ¬ z < 0 → z.toInt = (z.toNatClampNeg : Int) := by
    intro z hz
    have hz0 : (0 : Int) ≤ z.toInt := by
      have := Int32.not_lt.mp hz
      simpa using Int32.le_iff_toInt_le.mp this
    show z.toInt = ((z.toInt.toNat : Nat) : Int)
    omega
  intro T hT X
  obtain ⟨scr, hs1, ⟨hs2, k0, hk0, cm0, hkk0⟩, hs3, hs4, -, hs5, hs7⟩ := hX
  have hbl : b0 < s.heap.size := (Array.getElem?_eq_some_iff.mp hs1).1
  have hc0 : H[b0]? = some scr := by rw [hS.2.1 b0 hbl hs7]; exact hs1
  have hc1 : H[a]? = some (vp_cell c1 (n1, .inl g)) := hP q1 _ ha1
  obtain ⟨-, k1, hk1, cm1, hkk1⟩ := (hK.2 t1 _ ht1).1 n1 (fun j => .int (g j))
  obtain ⟨vm', X', step⟩ := X.arraycopy hexec hown hlink hnat hstat hini (src := b0) (dst := a) (cs := scr) (cd := vp_cell c1 (n1, .inl g)) (srcPos := sp) (destPos := dp) (n := n) (by rw [hT]; exact hc0) (by rw [hT]; exact hc1)
    hs2 (fun _ h => by cases h) hs3 (fun h => by cases h) hk0 hk1 hkk0 hkk1 (by simp [refKind]) h1 h2 h3
    (by rw [nn sp h1, nn n h3]; omega)
    (by rw [nn dp h2, nn n h3]; show ¬ _ > ((arrV c1 n1 (fun j => .int (g j))).slots.size : Int); rw [arrV_size]; omega)
    (fun vm₁ _ i hi => by
      have e : scr.slots.getD (sp.toNatClampNeg + i) .null = .int (f (sp.toNatClampNeg + i)) := by
        rw [Array.getD_eq_getD_getElem?, hs5 _ (by omega)]
        rfl
      refine ⟨?_, ?_⟩
      · rw [e]
        exact hfit i hi
      · rw [e]
        exact trivial)
    (g := F0 m pc ls (.int n :: .int dp :: .ref a :: .int sp :: .ref b0 :: rest)) rfl (by rw [hml]) (rest := rest) rfl (by rw [hb]; exact hdg) hframes (by show 2 * 0 + _ + _ ≤ _; omega)
  have e1 : copied scr (vp_cell c1 (n1, .inl g)) sp dp n = vp_cell c1 (n1, .inl (va_cpy f g sp.toNatClampNeg dp.toNatClampNeg n.toNatClampNeg)) := va_copiedX (fun z => .int z) scr c1 f g hs5 h4
  rw [e1] at X' step
  have hl : a < H.size := (Array.getElem?_eq_some_iff.mp hc1).1
  have hheap : ((T.setVm vm').setCell a (vp_cell c1 (n1, .inl (va_cpy f g sp.toNatClampNeg dp.toNatClampNeg n.toNatClampNeg)))).heap = H.setIfInBounds a (vp_cell c1 (n1, .inl (va_cpy f g sp.toNatClampNeg dp.toNatClampNeg n.toNatClampNeg))) := by rw [← hT]; rfl
  have oq : ∀ q : Nat, q ≠ a → (H.setIfInBounds a (vp_cell c1 (n1, .inl (va_cpy f g sp.toNatClampNeg dp.toNatClampNeg n.toNatClampNeg))))[q]? = H[q]? := fun q hq => by simp [Array.getElem?_setIfInBounds, Ne.symm hq]
  obtain ⟨t, a1, b1⟩ := kk _ _ (hP.set hD ha1 (show (H.setIfInBounds a _)[a]? = some _ by simp [Array.getElem?_setIfInBounds, hl]) oq) (hD.set ha1) ⟨by simp; exact hS.1, fun q g1 g2 => by
      rw [oq q (fun e => g2 (by rw [e]; exact hD.2 q1 _ ha1))]
      exact hS.2.1 q g1 g2, fun q hq => by
      rcases List.mem_append.mp hq with h | h
      · exact hS.2.2 q h
      · obtain ⟨z, -, hz⟩ := List.mem_map.mp h
        rw [← hz]
        exact hD.2 q1 _ ha1⟩ _ hheap X'
  exact ⟨t, step t a1, b1⟩
end COPYT
section JC
variable {κ : KX} {z y : MZ} {Q : State → Prop} {pc : Nat} {ls : List (Option Value)} {st rest : List Value} {AH : List AC} {nc ns : Nat}
theorem r_copyT (X : CX κ z) {i index a n1 : Nat} {g : Nat → Int32} {sp dp n : Int32} (hi : i < nStr) (hd : fetch (zC z) pc = some (.invokestatic index, 3)) (hl : inALL (Cond.methodLink (zY z).cls index arraycopyName) = true) (h4 : inALL (Cond.native arraycopyName) = true) (h5 : inALL (Cond.static arraycopyName) = true) (h6 : inALL (Cond.initialized "java/lang/System") = true)
    (ha1 : AH[a]? = some (.inl (3, n1, .inl g))) (g1 : ¬ sp < 0) (g2 : ¬ dp < 0) (g3 : ¬ n < 0) (g4 : sp.toNatClampNeg + n.toNatClampNeg ≤ lenT.getD i 0) (g5 : dp.toNatClampNeg + n.toNatClampNeg ≤ n1) (hfit : BYF (bc i)) (hR : 1 ≤ (κR κ).frames ∧ csum rest + (nativeFrameWords "java/lang/System" "arraycopy" 5 + 11) ≤ (κR κ).locals)
    (k : AW κ Q (pc + 3) ls rest (AH.set a (.inl (3, n1, .inl (va_cpy (bc i) g sp.toNatClampNeg dp.toNatClampNeg n.toNatClampNeg)))) nc ns) : AW κ Q pc ls (.int n :: .int dp :: .ref a :: .int sp :: .ref (SB + 100 + i) :: rest) AH nc ns := by
  have hd := cxdec X hd
  obtain ⟨p, l, e, R, s, m, args, below, meth, c, D, cA, A, n0, ad0⟩ := κ
  obtain ⟨hx, hb, hml, hown, hts, hK, hG, hA, hlk, htr, hrt, hnm, hz, hf⟩ := X
  intro ad H locs lsA h1 h2 h3 hP hD hS hL
  have hE := (hG.1 i hi).2.2.2
  dsimp only at hE
  rw [← h1 (SB + 100 + i) (Or.inr (by omega))] at hE
  refine copyT (f := bc i) hx hb hL.1.symm hown (hts _ (ALL_of hl)) (hts _ (ALL_of h4)) (hts _ (ALL_of h5)) (hts _ (ALL_of h6)) hK hP hD hS hE a 3 (cw_at ha1) rfl g1 g2 g3 g4 g5 (fun _ _ => hfit _) hR.1 (by rw [csum_map]; exact hR.2) hd (fun H1 locs1 hP1 hD1 hS1 => ?_)
  have e1 := cw_set (cA := cA) (ad := ad) (AH := AH) (k := a) (c := .inl (3, n1, .inl (va_cpy (bc i) g sp.toNatClampNeg dp.toNatClampNeg n.toNatClampNeg)))
  exact k ad H1 locs1 lsA h1 (by rw [List.length_set]; exact h2) (by rw [List.length_set]; exact h3) (e1 ▸ hP1) (e1 ▸ hD1) hS1 hL
/-- the rows of digits -/
theorem r_dig1 (X : CX κ z) {index : Nat} (hd : fetch (zC z) pc = some (.getstatic index, 3)) (hl : inALL (Cond.fieldLink (zY z).cls index "java/lang/Integer" "DigitOnes" "[B") = true) (k : AW κ Q (pc + 3) ls (.ref (SB + 202) :: rest) AH nc ns) : AW κ Q pc ls rest AH nc ns := by
  have hd := cxdec X hd
  obtain ⟨p, l, e, R, s, m, args, below, meth, c, D, cA, A, n0, ad0⟩ := κ
  obtain ⟨hx, hb, hml, hown, hts, hK, hG, hA, hlk, htr, hrt, hnm, hz, hf⟩ := X
  intro ad H locs lsA h1 h2 h3 hP hD hS hL
  have h := hG.2.2.2.2.2.1.2.1
  rw [← h1 (SB + 202) (Or.inr (Nat.le_add_right _ _))] at h
  exact va_gets hx hb h hS hown (hts _ (ALL_of hl)) (fun _ h => h) hd (k ad H locs lsA h1 h2 h3 hP hD hS hL)
theorem r_dig2 (X : CX κ z) {index : Nat} (hd : fetch (zC z) pc = some (.getstatic index, 3)) (hl : inALL (Cond.fieldLink (zY z).cls index "java/lang/Integer" "DigitTens" "[B") = true) (k : AW κ Q (pc + 3) ls (.ref (SB + 203) :: rest) AH nc ns) : AW κ Q pc ls rest AH nc ns := by
  have hd := cxdec X hd
  obtain ⟨p, l, e, R, s, m, args, below, meth, c, D, cA, A, n0, ad0⟩ := κ
  obtain ⟨hx, hb, hml, hown, hts, hK, hG, hA, hlk, htr, hrt, hnm, hz, hf⟩ := X
  intro ad H locs lsA h1 h2 h3 hP hD hS hL
  have h := hG.2.2.2.2.2.1.2.2.2.1
  rw [← h1 (SB + 203) (Or.inr (Nat.le_add_right _ _))] at h
  exact va_gets hx hb h hS hown (hts _ (ALL_of hl)) (fun _ h => h) hd (k ad H locs lsA h1 h2 h3 hP hD hS hL)
theorem r_dig1B (X : CX κ z) {j : Int32} (hin : vp_in j 100) (hd : fetch (zC z) pc = some (.baload, 1)) (k : AW κ Q (pc + 1) ls (.int (nI (48 + j.toNatClampNeg % 10)) :: rest) AH nc ns) : AW κ Q pc ls (.int j :: .ref (SB + 202) :: rest) AH nc ns := by
  have hd := cxdec X hd
  obtain ⟨p, l, e, R, s, m, args, below, meth, c, D, cA, A, n0, ad0⟩ := κ
  obtain ⟨hx, hb, hml, hown, hts, hK, hG, hA, hlk, htr, hrt, hnm, hz, hf⟩ := X
  intro ad H locs lsA h1 h2 h3 hP hD hS hL
  have hE := hG.2.2.2.2.2.1.2.2.1
  rw [← h1 (SB + 202) (Or.inr (by omega))] at hE
  exact va_tb hx hb hE hS hin rfl hd (k ad H locs lsA h1 h2 h3 hP hD hS hL)
theorem r_dig2B (X : CX κ z) {j : Int32} (hin : vp_in j 100) (hd : fetch (zC z) pc = some (.baload, 1)) (k : AW κ Q (pc + 1) ls (.int (nI (48 + j.toNatClampNeg / 10)) :: rest) AH nc ns) : AW κ Q pc ls (.int j :: .ref (SB + 203) :: rest) AH nc ns := by
  have hd := cxdec X hd
  obtain ⟨p, l, e, R, s, m, args, below, meth, c, D, cA, A, n0, ad0⟩ := κ
  obtain ⟨hx, hb, hml, hown, hts, hK, hG, hA, hlk, htr, hrt, hnm, hz, hf⟩ := X
  intro ad H locs lsA h1 h2 h3 hP hD hS hL
  have hE := hG.2.2.2.2.2.1.2.2.2.2.1
  rw [← h1 (SB + 203) (Or.inr (by omega))] at hE
  exact va_tb hx hb hE hS hin rfl hd (k ad H locs lsA h1 h2 h3 hP hD hS hL)
end JC
theorem bc_ok : (bytT.all fun l => l.all fun b => fits .byte (.int b)) = true := by decide +kernel
theorem bc_byf (i : Nat) : BYF (bc i) := by
  intro j
  unfold bc
  cases hl : bytT[i]? with
  | none =>
    have e : (bytT.getD i []).getD j 0 = 0 := by simp [List.getD, hl]
    rw [e]
    rfl
  | some l =>
    cases hb : l[j]? with
    | none =>
      have e : (bytT.getD i []).getD j 0 = 0 := by simp [List.getD, hl, hb]
      rw [e]
      rfl
    | some b =>
      have h9 := List.all_eq_true.mp (List.all_eq_true.mp bc_ok l (List.mem_of_getElem? hl)) b (List.mem_of_getElem? hb)
      have e : (bytT.getD i []).getD j 0 = b := by simp [List.getD, hl, hb]
      rw [e]
      exact h9
set_option maxRecDepth 20000 in
theorem c_getBytes {i m q : Nat} (hi : i < nStr) {f : Nat → Int32} (hm : m ≤ 1000) (hq : q + lenT.getD i 0 ≤ m) : Sem z_J0_getBytes_840e7 1 0 0 [.ref (SB + i), .ref 0, .int (nI q), .int 0] [.inl (3, m, .inl f)] (PST (.inl none) [.inl (3, m, .inl (va_cpy (bc i) f 0 q (lenT.getD i 0)))]) := by
  have e1 : (nI q).toNatClampNeg = q := nI_clamp (by omega)
  have e2 : (nI (lenT.getD i 0)).toNatClampNeg = lenT.getD i 0 := nI_clamp (by omega)
  refine Sem.of zo_J0_getBytes_840e7 (by decide +kernel) (Nat.le_of_ble_eq_true rfl) fun κ X hE hR hN => ?_
  refine AW.eq (pc' := 0) (ls' := [some (.ref (SB + i)), some (.ref 0), some (.int (nI q)), some (.int 0)]) (st' := []) (AH' := [.inl (3, m, .inl f)]) ?_ rfl rfl rfl rfl
  refine go_s 1 X (pc2 := 1) (st2 := [.ref (SB + i)]) rfl ?_
  refine r_callO X (As := []) (r := []) hi (c_coder i hi) rfl k_J0_coder_7d493 rfl m_ST_335 rfl rfl (fit_of hR (by decide) (by decide) (by decide) (by decide)) (Nat.le_of_ble_eq_true rfl) (fun _ _ e => by rw [e.2]; rfl) (fun v A9 e => ?_) (fun _ _ e => by have e1 := e.1; cases e1)
  obtain ⟨e9, rfl⟩ := e
  cases e9
  refine AW.eq (pc' := 4) (ls' := [some (.ref (SB + i)), some (.ref 0), some (.int (nI q)), some (.int 0)]) (st' := [.int 0]) (AH' := [.inl (3, m, .inl f)]) ?_ rfl rfl rfl rfl
  refine go_s 1 X (pc2 := 5) (st2 := [.int 0, .int 0]) rfl ?_
  refine r_icmp_ne X 28 rfl rfl (fun c => absurd rfl c) (fun _ => ?_)
  refine go_s 1 X (pc2 := 9) (st2 := [.ref (SB + i)]) rfl ?_
  refine r_strV X hi rfl (by decide +kernel) ?_
  refine go_s 4 X (pc2 := 16) (st2 := [.int 0, .int (nI q), .ref 0, .int 0, .ref (SB + 100 + i)]) rfl ?_
  refine r_ishl X rfl ?_
  rw [shl0]
  refine go_s 1 X (pc2 := 18) (st2 := [.ref (SB + i), .int (nI q), .ref 0, .int 0, .ref (SB + 100 + i)]) rfl ?_
  refine r_strV X hi rfl (by decide +kernel) ?_
  refine r_strL X hi rfl ?_
  refine r_copyT X (index := 212) (n := nI (lenT.getD i 0)) hi rfl (by decide +kernel) (by decide +kernel) (by decide +kernel) (by decide +kernel) rfl (by decide) (nI_pos (by omega)) (nI_pos (by omega)) (by rw [e2]; show 0 + lenT.getD i 0 ≤ _; omega) (by rw [e1, e2]; omega) (bc_byf i) (by rw [hR]; exact ⟨by simp [rmM], by decide +kernel⟩) ?_
  rw [e1, e2]
  refine AW.eq (pc' := 25) (ls' := [some (.ref (SB + i)), some (.ref 0), some (.int (nI q)), some (.int 0)]) (st' := []) (AH' := [.inl (3, m, .inl (va_cpy (bc i) f 0 q (lenT.getD i 0)))]) ?_ rfl rfl rfl rfl
  refine go_s 1 X (pc2 := 43) (st2 := []) rfl ?_
  exact r_vret X rfl rfl ⟨rfl, rfl⟩ (by decide) (by decide)
set_option maxRecDepth 20000 in
theorem c_putStr {i m q : Nat} (hi : i < nStr) {f : Nat → Int32} {ml n : Int32} (hm : m ≤ 1000) (hq : q + lenT.getD i 0 ≤ m) : Sem z_J5_putStringAt_47b60 2 0 0 [.ref 0, .int (nI q), .ref (SB + i)] (WB m f ml n) (PST (.inl none) (WB m (va_cpy (bc i) f 0 q (lenT.getD i 0)) ml n)) := by
  refine Sem.of zo_J5_putStringAt_47b60 (by decide +kernel) (Nat.le_of_ble_eq_true rfl) fun κ X hE hR hN => ?_
  refine AW.eq (pc' := 0) (ls' := [some (.ref 0), some (.int (nI q)), some (.ref (SB + i))]) (st' := []) (AH' := WB m f ml n) ?_ rfl rfl rfl rfl
  have cS : ∀ k, cloV k (.ref (SB + i)) = true := fun k => cl_sb
  have cL : cloL 2 [some (.ref 0), some (.int (nI q)), some (.ref (SB + i))] = true := cl_cons rfl (cl_cons rfl (cl_cons (cS 2) rfl))
  refine go_s 2 X (pc2 := 2) (st2 := [.ref (SB + i), .ref 0]) rfl ?_
  refine r_gU X [0, 1] [] (o := 0) (As := [.ref (SB + i)]) (rest := []) (c_infl hi) ⟨rfl, rfl⟩ rfl u_AB_397 rfl rfl (by
    show _ = [Value.ref (iof [0, 1] [] _ (SB + i))] ++ _
    rw [iofK hi (Nat.le_of_ble_eq_true rfl)]; rfl) (fit_of hR (by decide) (by decide) (by decide) (by decide)) (Nat.le_of_ble_eq_true rfl) (fun _ h => by cases h) (Nat.le_of_ble_eq_true rfl) (Nat.le_of_ble_eq_true rfl) ⟨clo_all rfl, rfl, cL⟩ (clo_all rfl) (grw_of (Nat.le_of_ble_eq_true rfl) (Nat.le_of_ble_eq_true rfl) rfl (fun _ h => by cases h)) (fun v W2 hp => ?_)
  obtain ⟨e1, rfl⟩ := hp
  cases e1
  refine AW.eq (pc' := 5) (ls' := [some (.ref 0), some (.int (nI q)), some (.ref (SB + i))]) (st' := []) (AH' := WB m f ml n) ?_ rfl rfl rfl rfl
  refine go_s 6 X (pc2 := 15) (st2 := [.int 0, .int (nI q), .ref 1, .ref (SB + i)]) rfl ?_
  refine r_gO X [1] [] (As := [.ref 0, .int (nI q), .int 0]) (rest := []) hi (c_getBytes hi hm hq) ⟨rfl, rfl⟩ rfl k_J0_getBytes_840e7 rfl m_AB_399 rfl rfl (fit_of hR (by decide) (by decide) (by decide) (by decide)) (Nat.le_of_ble_eq_true rfl) (fun _ h => by cases h) (Nat.le_of_ble_eq_true rfl) (Nat.le_of_ble_eq_true rfl) ⟨clo_all rfl, rfl, cL⟩ (clo_all rfl) (grw_of (Nat.le_of_ble_eq_true rfl) (Nat.le_of_ble_eq_true rfl) rfl (fun _ h => by cases h)) (fun v W2 hp => ?_)
  obtain ⟨e1, rfl⟩ := hp
  cases e1
  refine AW.eq (pc' := 18) (ls' := [some (.ref 0), some (.int (nI q)), some (.ref (SB + i))]) (st' := []) (AH' := WB m (va_cpy (bc i) f 0 q (lenT.getD i 0)) ml n) ?_ rfl rfl rfl rfl
  exact r_vret X rfl rfl ⟨rfl, rfl⟩ (by decide) (by decide)
/-- a text in a StringBuilder's row -/
def BT (T : List Nat) (m : Nat) (f : Nat → Int32) : Prop := T.length ≤ m ∧ (∀ j c, T[j]? = some c → f j = nI c) ∧ BYF f
/-- the end of append: the same row, or a longer one -/
def PAP (T : List Nat) (m : Nat) (ml : Int32) : PO := fun r A => r = .inl (some (.ref 0)) ∧ ((∃ f, BT T m f ∧ A = WB m f ml (nI T.length)) ∨ (∃ g f, (m < T.length ∧ BT T (2 * m + 2) f) ∧ A = WG m g (2 * m + 2) f ml (nI T.length)))
theorem grw_PAP {T : List Nat} {m : Nat} {ml : Int32} : GRW 2 (PAP T m ml) := by
  refine ⟨fun v W2 hp => ?_, fun E W2 hp => ?_⟩
  · obtain ⟨e1, ⟨f, -, rfl⟩ | ⟨g, f, -, rfl⟩⟩ := hp
    · cases e1
      exact ⟨(by decide : 2 ≤ 2), (by decide : 2 ≤ 2 + 9), clo_all rfl, fun _ h => by cases h; rfl⟩
    · cases e1
      exact ⟨(by decide : 2 ≤ 3), (by decide : 3 ≤ 2 + 9), clo_all rfl, fun _ h => by cases h; rfl⟩
  · have e1 := hp.1
    cases e1
theorem CT_ok : ∀ i, i < nStr → (CT i).length = lenT.getD i 0 ∧ ∀ j, j < lenT.getD i 0 → (CT i)[j]? = some (bc i j).toNatClampNeg ∧ bc i j = nI (bc i j).toNatClampNeg := by decide +kernel
theorem BT_app {T S : List Nat} {f g : Nat → Int32} {w : Nat} (hf : ∀ j c, T[j]? = some c → f j = nI c) (hg : ∀ j c, S[j]? = some c → g j = nI c) (hw : S.length = w) : ∀ j c, (T ++ S)[j]? = some c → va_cpy g f 0 T.length w j = nI c := by
  intro j c hj
  unfold va_cpy
  by_cases h : j < T.length
  · rw [List.getElem?_append_left h] at hj
    rw [if_neg (by omega)]
    exact hf j c hj
  · rw [List.getElem?_append_right (by omega)] at hj
    have hl := (List.getElem?_eq_some_iff.mp hj).1
    rw [if_pos (by omega)]
    have e : 0 + (j - T.length) = j - T.length := by omega
    rw [e]
    exact hg _ c hj
theorem BT_first {T : List Nat} {f : Nat → Int32} {m : Nat} (hl : T.length ≤ m) (hf : ∀ j c, T[j]? = some c → f j = nI c) : ∀ j c, T[j]? = some c → va_cpy f z0 0 0 m j = nI c := by
  intro j c hj
  have h := (List.getElem?_eq_some_iff.mp hj).1
  unfold va_cpy
  rw [if_pos (by omega)]
  have e : 0 + (j - 0) = j := by omega
  rw [e]
  exact hf j c hj
theorem CT_at {i : Nat} (hi : i < nStr) : (CT i).length = lenT.getD i 0 ∧ ∀ j c, (CT i)[j]? = some c → bc i j = nI c := by
  obtain ⟨h1, h2⟩ := CT_ok i hi
  refine ⟨h1, fun j c hj => ?_⟩
  have hl := (List.getElem?_eq_some_iff.mp hj).1
  rw [h1] at hl
  obtain ⟨h3, h4⟩ := h2 j hl
  rw [hj] at h3
  rw [h4, ← Option.some.inj h3]
set_option maxHeartbeats 1000000 in
set_option maxRecDepth 20000 in
theorem c_appS5 {T : List Nat} {i m : Nat} (hi : i < nStr) {f : Nat → Int32} {ml : Int32} (h0 : 0 < m) (hm : m ≤ 400) (hB : BT T m f) (hw : lenT.getD i 0 ≤ m + 2) : Sem z_J5_append_cf1ce 3 1 1000 [.ref 0, .ref (SB + i)] (WB m f ml (nI T.length)) (PAP (T ++ CT i) m ml) := by
  obtain ⟨b1, b2, b3⟩ := hB
  obtain ⟨t1, t2⟩ := CT_at hi
  have cS : ∀ k, cloV k (.ref (SB + i)) = true := fun k => cl_sb
  have cL : ∀ k x, cloL (k + 1) [some (.ref 0), some (.ref (SB + i)), some (.int x)] = true := fun k x => cl_cons rfl (cl_cons (cS _) rfl)
  refine Sem.of zo_J5_append_cf1ce (by decide +kernel) (Nat.le_of_ble_eq_true rfl) fun κ X hE hR hN => ?_
  refine AW.eq (pc' := 0) (ls' := [some (.ref 0), some (.ref (SB + i)), none]) (st' := []) (AH' := WB m f ml (nI T.length)) ?_ rfl rfl rfl rfl
  refine go_s 1 X (pc2 := 1) (st2 := [.ref (SB + i)]) rfl ?_
  refine r_ifnonnull X 9 rfl rfl ?_
  refine go_s 1 X (pc2 := 10) (st2 := [.ref (SB + i)]) rfl ?_
  refine r_slenT X rfl m_AB_32 hi hR (by decide) (by decide) (by decide) (Nat.le_of_ble_eq_true rfl) ?_
  refine go_l 6 X (pc2 := 21) (ls2 := [some (.ref 0), some (.ref (SB + i)), some (.int (nI (lenT.getD i 0)))]) (st2 := [.int (nI T.length + nI (lenT.getD i 0)), .ref 0]) rfl ?_
  rw [nI_add]
  refine r_gU X [0, 1] [] (o := 0) (As := [.int (nI (T.length + lenT.getD i 0))]) (rest := []) (c_ensure h0 hm (by omega) b3) ⟨rfl, rfl⟩ rfl u_AB_100 rfl rfl rfl (fit_of hR (by decide) (by decide) (by decide) (by decide)) (Nat.le_of_ble_eq_true rfl) (fun _ h => by cases h) (Nat.le_of_ble_eq_true rfl) (Nat.le_of_ble_eq_true rfl) ⟨clo_all rfl, rfl, cL 1 _⟩ (clo_all rfl) grw_PEN (fun v W2 hp => ?_)
  obtain ⟨e1, ⟨h2, rfl⟩ | ⟨h2, rfl⟩⟩ := hp
  · cases e1
    refine AW.eq (pc' := 24) (ls' := [some (.ref 0), some (.ref (SB + i)), some (.int (nI (lenT.getD i 0)))]) (st' := []) (AH' := WB m f ml (nI T.length)) ?_ rfl rfl rfl rfl
    refine go_s 4 X (pc2 := 30) (st2 := [.ref (SB + i), .int (nI T.length), .ref 0]) rfl ?_
    refine r_gU X [0, 1] [] (o := 0) (As := [.int (nI T.length), .ref (SB + i)]) (rest := []) (c_putStr hi (by omega) h2) ⟨rfl, rfl⟩ rfl u_AB_208 rfl rfl (by
      show _ = [Value.ref (iof [0, 1] [] _ (SB + i)), .int (nI T.length)] ++ _
      rw [iofK hi (Nat.le_of_ble_eq_true rfl)]; rfl) (fit_of hR (by decide) (by decide) (by decide) (by decide)) (Nat.le_of_ble_eq_true rfl) (fun _ h => by cases h) (Nat.le_of_ble_eq_true rfl) (Nat.le_of_ble_eq_true rfl) ⟨clo_all rfl, rfl, cL 1 _⟩ (clo_all rfl) (grw_of (Nat.le_of_ble_eq_true rfl) (Nat.le_of_ble_eq_true rfl) rfl (fun _ h => by cases h)) (fun v W2 hp => ?_)
    obtain ⟨e1, rfl⟩ := hp
    cases e1
    refine AW.eq (pc' := 33) (ls' := [some (.ref 0), some (.ref (SB + i)), some (.int (nI (lenT.getD i 0)))]) (st' := []) (AH' := WB m (va_cpy (bc i) f 0 T.length (lenT.getD i 0)) ml (nI T.length)) ?_ rfl rfl rfl rfl
    refine go 7 X (pc2 := 44) (ls2 := [some (.ref 0), some (.ref (SB + i)), some (.int (nI (lenT.getD i 0)))]) (st2 := [.ref 0]) (AH2 := WB m (va_cpy (bc i) f 0 T.length (lenT.getD i 0)) ml (nI T.length + nI (lenT.getD i 0))) rfl ?_
    rw [nI_add]
    refine r_aret X rfl rfl (Or.inl ⟨_, rfl⟩) ⟨rfl, Or.inl ⟨va_cpy (bc i) f 0 T.length (lenT.getD i 0), ⟨by rw [List.length_append, t1]; exact h2, BT_app b2 t2 t1, byf_cpy (bc_byf i) b3⟩, ?_⟩⟩ (by decide) (by decide)
    rw [List.length_append, t1]
  · cases e1
    refine AW.eq (pc' := 24) (ls' := [some (.ref 0), some (.ref (SB + i)), some (.int (nI (lenT.getD i 0)))]) (st' := []) (AH' := WG m f (2 * m + 2) (va_cpy f z0 0 0 m) ml (nI T.length)) ?_ rfl rfl rfl rfl
    refine go_s 4 X (pc2 := 30) (st2 := [.ref (SB + i), .int (nI T.length), .ref 0]) rfl ?_
    refine r_gU X [0, 2] [] (o := 0) (As := [.int (nI T.length), .ref (SB + i)]) (rest := []) (c_putStr (m := 2 * m + 2) (f := va_cpy f z0 0 0 m) hi (by omega) (by omega)) ⟨rfl, rfl⟩ rfl u_AB_208 rfl rfl (by
      show _ = [Value.ref (iof [0, 2] [] _ (SB + i)), .int (nI T.length)] ++ _
      rw [iofK hi (Nat.le_of_ble_eq_true rfl)]; rfl) (fit_of hR (by decide) (by decide) (by decide) (by decide)) (Nat.le_of_ble_eq_true rfl) (fun _ h => by cases h) (Nat.le_of_ble_eq_true rfl) (Nat.le_of_ble_eq_true rfl) ⟨clo_all rfl, rfl, cL 2 _⟩ (clo_all rfl) (grw_of (Nat.le_of_ble_eq_true rfl) (Nat.le_of_ble_eq_true rfl) rfl (fun _ h => by cases h)) (fun v W2 hp => ?_)
    obtain ⟨e1, rfl⟩ := hp
    cases e1
    refine AW.eq (pc' := 33) (ls' := [some (.ref 0), some (.ref (SB + i)), some (.int (nI (lenT.getD i 0)))]) (st' := []) (AH' := WG m f (2 * m + 2) (va_cpy (bc i) (va_cpy f z0 0 0 m) 0 T.length (lenT.getD i 0)) ml (nI T.length)) ?_ rfl rfl rfl rfl
    refine go 7 X (pc2 := 44) (ls2 := [some (.ref 0), some (.ref (SB + i)), some (.int (nI (lenT.getD i 0)))]) (st2 := [.ref 0]) (AH2 := WG m f (2 * m + 2) (va_cpy (bc i) (va_cpy f z0 0 0 m) 0 T.length (lenT.getD i 0)) ml (nI T.length + nI (lenT.getD i 0))) rfl ?_
    rw [nI_add]
    refine r_aret X rfl rfl (Or.inl ⟨_, rfl⟩) ⟨rfl, Or.inr ⟨f, va_cpy (bc i) (va_cpy f z0 0 0 m) 0 T.length (lenT.getD i 0), ⟨by rw [List.length_append, t1]; omega, ⟨by rw [List.length_append, t1]; omega, BT_app (BT_first b1 b2) t2 t1, byf_cpy (bc_byf i) (byf_cpy b3 byf0)⟩⟩, ?_⟩⟩ (by decide) (by decide)
    rw [List.length_append, t1]
set_option maxRecDepth 20000 in
theorem c_appS {T : List Nat} {i m : Nat} (hi : i < nStr) {f : Nat → Int32} {ml : Int32} (h0 : 0 < m) (hm : m ≤ 400) (hB : BT T m f) (hw : lenT.getD i 0 ≤ m + 2) : Sem z_J4_append_15ec4 4 1 1000 [.ref 0, .ref (SB + i)] (WB m f ml (nI T.length)) (PAP (T ++ CT i) m ml) := by
  have cL : ∀ k, cloL (k + 1) [some (.ref 0), some (.ref (SB + i))] = true := fun k => cl_cons rfl (cl_cons cl_sb rfl)
  refine Sem.of zo_J4_append_15ec4 (by decide +kernel) (Nat.le_of_ble_eq_true rfl) fun κ X hE hR hN => ?_
  refine AW.eq (pc' := 0) (ls' := [some (.ref 0), some (.ref (SB + i))]) (st' := []) (AH' := WB m f ml (nI T.length)) ?_ rfl rfl rfl rfl
  refine go_s 2 X (pc2 := 2) (st2 := [.ref (SB + i), .ref 0]) rfl ?_
  refine r_gW X [0, 1] [] (o := 0) (As := [.ref (SB + i)]) (rest := []) (c_appS5 hi h0 hm hB hw) ⟨rfl, rfl⟩ rfl w_SB_29 rfl rfl (by
    show _ = [Value.ref (iof [0, 1] [] _ (SB + i))] ++ _
    rw [iofK hi (Nat.le_of_ble_eq_true rfl)]; rfl) (fit_of hR (by decide) (by decide) (by decide) (by decide)) (Nat.le_of_ble_eq_true rfl) (fun _ h => by cases h) (Nat.le_of_ble_eq_true rfl) (Nat.le_of_ble_eq_true rfl) ⟨clo_all rfl, rfl, cL 1⟩ (clo_all rfl) grw_PAP (fun v W2 hp => ?_)
  obtain ⟨e1, ⟨f2, h2, rfl⟩ | ⟨g2, f2, h2, rfl⟩⟩ := hp
  · cases e1
    refine AW.eq (pc' := 5) (ls' := [some (.ref 0), some (.ref (SB + i))]) (st' := [.ref 0]) (AH' := WB m f2 ml (nI (T ++ CT i).length)) ?_ rfl rfl rfl rfl
    refine go_s 2 X (pc2 := 7) (st2 := [.ref 0]) rfl ?_
    exact r_aret X rfl rfl (Or.inl ⟨_, rfl⟩) ⟨rfl, Or.inl ⟨f2, h2, rfl⟩⟩ (by decide) (by decide)
  · cases e1
    refine AW.eq (pc' := 5) (ls' := [some (.ref 0), some (.ref (SB + i))]) (st' := [.ref 0]) (AH' := WG m g2 (2 * m + 2) f2 ml (nI (T ++ CT i).length)) ?_ rfl rfl rfl rfl
    refine go_s 2 X (pc2 := 7) (st2 := [.ref 0]) rfl ?_
    exact r_aret X rfl rfl (Or.inl ⟨_, rfl⟩) ⟨rfl, Or.inr ⟨g2, f2, h2, rfl⟩⟩ (by decide) (by decide)
