/-! ===== 75f: StringBuilder.toString; String.length, charAt of a text made at run time (gen75f.py) ===== -/
section JD
variable {κ : KX} {z y : MZ} {Q : State → Prop} {pc : Nat} {ls : List (Option Value)} {st rest : List Value} {AH : List AC} {nc ns : Nat}
theorem r_anull (X : CX κ z) (hd : fetch (zC z) pc = some (.aconst_null, 1)) (k : AW κ Q (pc + 1) ls (.null :: rest) AH nc ns) : AW κ Q pc ls rest AH nc ns := by
  have hd := cxdec X hd
  obtain ⟨p, l, e, R, s, m, args, below, meth, c, D, cA, A, n0, ad0⟩ := κ
  obtain ⟨hx, hb, hml, hown, hts, hK, hG, hA, hlk, htr, hrt, hnm, hz, hf⟩ := X
  intro ad H locs lsA h1 h2 h3 hP hD hS hL
  exact lv_null hx hb hd (k ad H locs lsA h1 h2 h3 hP hD hS hL)
theorem r_putFB (X : CX κ z) {index ci kk o : Nat} {fs : List Value} {r9 : vw_C} {tf : Nat → FieldType} (hd : fetch (zC z) pc = some (.putfield index, 3)) (hF : (index, ci, kk) ∈ zF z) (ha : AH[o]? = some (.inr (ci, fs))) (hr : vwCl[ci]? = some r9) (htf : vwTy[ci]? = some tf) (hfin : (r9.2.1 kk).2.2.2 = true) (hi : (zY z).name = "<init>") (hdc : (r9.2.1 kk).1 = (zY z).cls) (hpl : inALL (Cond.fieldLink (zY z).cls index (r9.2.1 kk).1 (r9.2.1 kk).2.1 (r9.2.1 kk).2.2.1) = true) (hty : tf kk = .byte) (hl : kk < fs.length) (k : AW κ Q (pc + 3) ls rest (AH.set o (.inr (ci, fs.set kk (.int 0)))) nc ns) : AW κ Q pc ls (.int 0 :: .ref o :: rest) AH nc ns :=
  s_putF X (cxdec X hd) hF ha hr htf hfin hi hdc hpl (fun ad => by rw [hty]; exact ⟨rfl, rfl⟩) hl k
theorem r_putB (X : CX κ z) {index ci kk o : Nat} {fs : List Value} {r9 : vw_C} {tf : Nat → FieldType} (hd : fetch (zC z) pc = some (.putfield index, 3)) (hF : fget (zF z) index = some (ci, kk)) (ha : AH[o]? = some (.inr (ci, fs))) (hr : vwCl[ci]? = some r9) (htf : vwTy[ci]? = some tf) (hfin : (r9.2.1 kk).2.2.2 = false) (hty : tf kk = .byte) (hl : kk < fs.length) (k : AW κ Q (pc + 3) ls rest (AH.set o (.inr (ci, fs.set kk (.int 0)))) nc ns) : AW κ Q pc ls (.int 0 :: .ref o :: rest) AH nc ns :=
  s_put X (cxdec X hd) (fget_mem hF) ha hr htf hfin (fun ad => by rw [hty]; exact ⟨rfl, rfl⟩) hl k
theorem r_clone (X : CX κ z) {index o m : Nat} {f : Nat → Int32} (hd : fetch (zC z) pc = some (.invokevirtual index, 3)) (hl : inALL (Cond.methodLink (zY z).cls index ⟨"[B", "clone", "()Ljava/lang/Object;"⟩) = true) (l1 : inALL (Cond.sameMethod "[B" "java/lang/Object" "clone" "()Ljava/lang/Object;") = true) (l2 : inALL (Cond.native ⟨"java/lang/Object", "clone", "()Ljava/lang/Object;"⟩) = true) (l3 : inALL (Cond.instanceMethod ⟨"java/lang/Object", "clone", "()Ljava/lang/Object;"⟩) = true) (l4 : inALL (Cond.selects "[B" ⟨"[B", "clone", "()Ljava/lang/Object;"⟩ ⟨"java/lang/Object", "clone", "()Ljava/lang/Object;"⟩) = true)
    (ha : AH[o]? = some (.inl (3, m, .inl f))) (hfit : BYF f) (hclo : CLO AH.length ls rest AH) (hsb : AH.length < SB) (hR : 1 ≤ (κR κ).frames ∧ csum rest + 14 ≤ (κR κ).locals) (hc : nc + 1 ≤ (κR κ).cells) (hs : ns + m ≤ (κR κ).slots)
    (k : AW κ Q (pc + 3) ls (.ref AH.length :: rest) (AH ++ [.inl (3, m, .inl f)]) (nc + 1) (ns + m)) : AW κ Q pc ls (.ref o :: rest) AH nc ns := by
  have hd := cxdec X hd
  obtain ⟨p, l, e, R, s, m9, args, below, meth, c, D, cA, A, n0, ad0⟩ := κ
  obtain ⟨hx, hb, hml, hown, hts, hK, hG, hA, hlk, htr, hrt, hnm, hz, hf⟩ := X
  intro ad H locs lsA h1 h2 h3 hP hD hS hL
  refine va_clone hx hb hL.1.symm hown (hts _ (ALL_of hl)) (hts _ (ALL_of l1)) (hts _ (ALL_of l2)) (hts _ (ALL_of l3)) (hts _ (ALL_of l4)) hG.2.2.2.2.2.1.2.2.2.2.2.1 hK hP hD hS hA o 3 (cw_at ha) rfl (va_nm_byte (hK.2 3 (cA 3, .byte) rfl).2) (va_fit fun i _ => hfit i) hR.1 (by rw [csum_map]; exact hR.2) hc hs hd (fun q H1 hK1 hP1 hD1 hS1 => ?_)
  exact alloc_in (c9 := .inl (3, m, .inl f)) hclo rfl hsb h1 h3 hL hP1 hD1 hS1 k
theorem r_castB (X : CX κ z) {index o m : Nat} {f : Nat → Int32} (hd : fetch (zC z) pc = some (.checkcast index, 3)) (hl : inALL (Cond.classLink (zY z).cls index "[B") = true) (ha : AH[o]? = some (.inl (3, m, .inl f))) (k : AW κ Q (pc + 3) ls (.ref o :: rest) AH nc ns) : AW κ Q pc ls (.ref o :: rest) AH nc ns := by
  have hd := cxdec X hd
  obtain ⟨p, l, e, R, s, m9, args, below, meth, c, D, cA, A, n0, ad0⟩ := κ
  obtain ⟨hx, hb, hml, hown, hts, hK, hG, hA, hlk, htr, hrt, hnm, hz, hf⟩ := X
  intro ad H locs lsA h1 h2 h3 hP hD hS hL
  exact va_castA hx hb hown (hts _ (ALL_of hl)) hP o (cw_at ha) (va_nm_byte (hK.2 3 (cA 3, .byte) rfl).2) hd (k ad H locs lsA h1 h2 h3 hP hD hS hL)
end JD
set_option maxRecDepth 20000 in
theorem c_chkLen {n : Nat} (hn : n < 2 ^ 31) : Sem z_J7_checkLength_df160 0 0 0 [.int 0, .int (nI n)] [] (PST (.inl none) []) := by
  refine Sem.of zo_J7_checkLength_df160 (by decide +kernel) (Nat.le_of_ble_eq_true rfl) fun κ X hE hR hN => ?_
  refine AW.eq (pc' := 0) (ls' := [some (.int 0), some (.int (nI n))]) (st' := []) (AH' := []) ?_ rfl rfl rfl rfl
  refine go_s 2 X (pc2 := 2) (st2 := [.int 0, .int (nI n)]) rfl ?_
  refine r_icmp_ge X 37 rfl rfl (fun _ => ?_) (fun h => absurd (nI_pos' hn) h)
  exact r_vret X rfl rfl ⟨rfl, rfl⟩ (by decide) (by decide)
/-- the end of copyOfRange -/
def PCR (m n : Nat) (f : Nat → Int32) : PO := fun r A => r = .inl (some (.ref 1)) ∧ ∃ g, (∀ j, j < n → g j = f j) ∧ BYF g ∧ A = [.inl (3, m, .inl f), .inl (3, n, .inl g)]
theorem grw_PCR {m n : Nat} {f : Nat → Int32} : GRW 1 (PCR m n f) := by
  refine ⟨fun v W2 hp => ?_, fun E W2 hp => ?_⟩
  · obtain ⟨e1, g, -, -, rfl⟩ := hp
    cases e1
    exact ⟨(by decide : 1 ≤ 2), (by decide : 2 ≤ 1 + 9), clo_all rfl, fun _ h => by cases h; rfl⟩
  · have e1 := hp.1
    cases e1
set_option maxHeartbeats 1000000 in
set_option maxRecDepth 20000 in
theorem c_cprb {m n : Nat} {f : Nat → Int32} (hn : n < m) (hm : m ≤ 1000) (hf : BYF f) : Sem z_J7_copyOfRangeByte_39247 1 1 1000 [.ref 0, .int 0, .int (nI n)] [.inl (3, m, .inl f)] (PCR m n f) := by
  have e1 : (nI n).toNatClampNeg = n := nI_clamp (by omega)
  refine Sem.of zo_J7_copyOfRangeByte_39247 (by decide +kernel) (Nat.le_of_ble_eq_true rfl) fun κ X hE hR hN => ?_
  refine AW.eq (pc' := 0) (ls' := [some (.ref 0), some (.int 0), some (.int (nI n)), none, none]) (st' := []) (AH' := [.inl (3, m, .inl f)]) ?_ rfl rfl rfl rfl
  refine go_s 2 X (pc2 := 2) (st2 := [.int (nI n), .int 0]) rfl ?_
  refine q_callS X [] [] (As := [.int 0, .int (nI n)]) (rest := []) (AH2 := [.inl (3, m, .inl f)]) (st2 := []) (c_chkLen (by omega)) ⟨rfl, rfl⟩ rfl k_J7_checkLength_df160 (Or.inl m_AR_343) rfl rfl (fit_of hR (by decide) (by decide) (by decide) (by decide)) (Nat.le_of_ble_eq_true rfl) (by decide) rfl rfl rfl ?_
  refine go_s 3 X (pc2 := 8) (st2 := [.int (nI n - 0)]) rfl ?_
  rw [Int32.sub_zero]
  refine go_l 2 X (pc2 := 10) (ls2 := [some (.ref 0), some (.int 0), some (.int (nI n)), some (.int (nI n)), none]) (st2 := [.int (nI n)]) rfl ?_
  refine r_newa X 3 .byte (a0 := (n, .inl z0)) (N := n) rfl rfl hkd3 (by decide +kernel) (fun _ => rfl) (fun _ => rfl) (nI_pos (by omega)) e1 (by show n * 1 ≤ 536870912; omega) ⟨clo_all rfl, rfl, rfl⟩ (Nat.le_of_ble_eq_true rfl) (by rw [hR]; decide) (by rw [hR]; show 0 + 0 + n ≤ 1000; omega) ?_
  refine AW.eq (pc' := 12) (ls' := [some (.ref 0), some (.int 0), some (.int (nI n)), some (.int (nI n)), none]) (st' := [.ref 1]) (AH' := [.inl (3, m, .inl f), .inl (3, n, .inl z0)]) ?_ rfl rfl rfl rfl
  refine go_l 10 X (pc2 := 24) (ls2 := [some (.ref 0), some (.int 0), some (.int (nI n)), some (.int (nI n)), some (.ref 1)]) (st2 := [.int (nI n), .int (nI m - 0), .int 0, .ref 1, .int 0, .ref 0]) rfl ?_
  rw [Int32.sub_zero]
  refine r_mmin X (d := 0) rfl (by decide +kernel) (by rw [hR]; exact ⟨by simp [rmM], by simp [rmM, csum, Value.category], by simp [rmM], by simp [rmM]; omega⟩) mm_smin mm_i mm_cmin ?_
  rw [if_pos (nI_lt hn (by omega))]
  refine r_copyb X (index := 150) (n := nI n) rfl (by decide +kernel) (by decide +kernel) (by decide +kernel) (by decide +kernel) rfl rfl (by decide) (by decide) (nI_pos (by omega)) (by rw [e1]; show 0 + n ≤ m; omega) (by rw [e1]; show 0 + n ≤ n; omega) hf (by rw [hR]; exact ⟨by simp [rmM], by decide +kernel⟩) ?_
  rw [e1]
  refine AW.eq (pc' := 30) (ls' := [some (.ref 0), some (.int 0), some (.int (nI n)), some (.int (nI n)), some (.ref 1)]) (st' := []) (AH' := [.inl (3, m, .inl f), .inl (3, n, .inl (va_cpy f z0 0 0 n))]) ?_ rfl rfl rfl rfl
  refine go_s 1 X (pc2 := 32) (st2 := [.ref 1]) rfl ?_
  refine r_aret X rfl rfl (Or.inr ⟨_, rfl⟩) ⟨rfl, va_cpy f z0 0 0 n, fun j hj => ?_, byf_cpy hf byf0, rfl⟩ (by decide) (by omega)
  unfold va_cpy
  rw [if_pos (by omega)]
  congr 1
  omega
set_option maxHeartbeats 1000000 in
set_option maxRecDepth 20000 in
theorem c_cpr {m n : Nat} {f : Nat → Int32} (hn : n ≤ m) (hm : m ≤ 1000) (hf : BYF f) : Sem z_J7_copyOfRange_39247 2 1 1000 [.ref 0, .int 0, .int (nI n)] [.inl (3, m, .inl f)] (PCR m n f) := by
  refine Sem.of zo_J7_copyOfRange_39247 (by decide +kernel) (Nat.le_of_ble_eq_true rfl) fun κ X hE hR hN => ?_
  refine AW.eq (pc' := 0) (ls' := [some (.ref 0), some (.int 0), some (.int (nI n))]) (st' := []) (AH' := [.inl (3, m, .inl f)]) ?_ rfl rfl rfl rfl
  refine go_s 1 X (pc2 := 1) (st2 := [.int 0]) rfl ?_
  refine r_if_ne X 10 rfl rfl (fun h => absurd rfl h) (fun _ => ?_)
  refine go_s 3 X (pc2 := 7) (st2 := [.int (nI m), .int (nI n)]) rfl ?_
  refine r_icmp_eq X 17 rfl rfl (fun h => ?_) (fun h => ?_)
  · have e0 : n = m := (nI_eq (by omega) (by omega)).mp h
    subst e0
    refine go_s 1 X (pc2 := 18) (st2 := [.ref 0]) rfl ?_
    refine r_clone X rfl (by decide +kernel) (by decide +kernel) (by decide +kernel) (by decide +kernel) (by decide +kernel) rfl hf ⟨clo_all rfl, rfl, rfl⟩ (Nat.le_of_ble_eq_true rfl) (by rw [hR]; exact ⟨by simp [rmM], by decide +kernel⟩) (by rw [hR]; decide) (by rw [hR]; show 0 + n ≤ 1000; omega) ?_
    refine AW.eq (pc' := 21) (ls' := [some (.ref 0), some (.int 0), some (.int (nI n))]) (st' := [.ref 1]) (AH' := [.inl (3, n, .inl f), .inl (3, n, .inl f)]) ?_ rfl rfl rfl rfl
    refine r_castB X rfl (by decide +kernel) rfl ?_
    exact r_aret X rfl rfl (Or.inr ⟨_, rfl⟩) ⟨rfl, f, fun j hj => rfl, hf, rfl⟩ (by decide) (by omega)
  · have hlt : n < m := Nat.lt_of_le_of_ne hn fun e => h (by rw [e])
    refine go_s 3 X (pc2 := 13) (st2 := [.int (nI n), .int 0, .ref 0]) rfl ?_
    refine r_gS X [0] [] (As := [.ref 0, .int 0, .int (nI n)]) (rest := []) (c_cprb hlt hm hf) ⟨rfl, rfl⟩ rfl k_J7_copyOfRangeByte_39247 m_AR_339 rfl rfl (fit_of hR (by decide) (by decide) (by decide) (by decide)) (Nat.le_of_ble_eq_true rfl) (fun _ h => by cases h) (Nat.le_of_ble_eq_true rfl) (Nat.le_of_ble_eq_true rfl) ⟨clo_all rfl, rfl, rfl⟩ (clo_all rfl) grw_PCR (fun v W2 hp => ?_)
    obtain ⟨e1, g, g1, g2, rfl⟩ := hp
    cases e1
    refine AW.eq (pc' := 16) (ls' := [some (.ref 0), some (.int 0), some (.int (nI n))]) (st' := [.ref 1]) (AH' := [.inl (3, m, .inl f), .inl (3, n, .inl g)]) ?_ rfl rfl rfl rfl
    exact r_aret X rfl rfl (Or.inr ⟨_, rfl⟩) ⟨rfl, g, g1, g2, rfl⟩ (by decide) (by decide)
set_option maxRecDepth 20000 in
theorem c_getValue {m : Nat} {f : Nat → Int32} {ml n : Int32} : Sem z_J5_getValue_6d5f1 0 0 0 [.ref 0] (WB m f ml n) (PST (.inl (some (.ref 1))) (WB m f ml n)) := by
  refine Sem.of zo_J5_getValue_6d5f1 (by decide +kernel) (Nat.le_of_ble_eq_true rfl) fun κ X hE hR hN => ?_
  refine AW.eq (pc' := 0) (ls' := [some (.ref 0)]) (st' := []) (AH' := WB m f ml n) ?_ rfl rfl rfl rfl
  refine go_s 2 X (pc2 := 4) (st2 := [.ref 1]) rfl ?_
  exact r_aret X rfl rfl (Or.inr ⟨_, rfl⟩) ⟨rfl, rfl⟩ (by decide) (by decide)
set_option maxRecDepth 20000 in
theorem c_len5 {m : Nat} {f : Nat → Int32} {ml n : Int32} : Sem z_J5_length_8abf5 0 0 0 [.ref 0] (WB m f ml n) (PST (.inl (some (.int n))) (WB m f ml n)) := by
  refine Sem.of zo_J5_length_8abf5 (by decide +kernel) (Nat.le_of_ble_eq_true rfl) fun κ X hE hR hN => ?_
  refine AW.eq (pc' := 0) (ls' := [some (.ref 0)]) (st' := []) (AH' := WB m f ml n) ?_ rfl rfl rfl rfl
  refine go_s 2 X (pc2 := 4) (st2 := [.int n]) rfl ?_
  exact r_iret X rfl rfl ⟨rfl, rfl⟩ (by decide) (by decide)
set_option maxRecDepth 20000 in
theorem c_len4 {m : Nat} {f : Nat → Int32} {ml n : Int32} : Sem z_J4_length_8abf5 1 0 0 [.ref 0] (WB m f ml n) (PST (.inl (some (.int n))) (WB m f ml n)) := by
  refine Sem.of zo_J4_length_8abf5 (by decide +kernel) (Nat.le_of_ble_eq_true rfl) fun κ X hE hR hN => ?_
  refine AW.eq (pc' := 0) (ls' := [some (.ref 0)]) (st' := []) (AH' := WB m f ml n) ?_ rfl rfl rfl rfl
  refine go_s 1 X (pc2 := 1) (st2 := [.ref 0]) rfl ?_
  refine r_gW X [0, 1] [] (o := 0) (As := []) (rest := []) (c_len5 (m := m) (f := f) (ml := ml) (n := n)) ⟨rfl, rfl⟩ rfl w_SB_343 rfl rfl rfl (fit_of hR (by decide) (by decide) (by decide) (by decide)) (Nat.le_of_ble_eq_true rfl) (fun _ h => by cases h) (Nat.le_of_ble_eq_true rfl) (Nat.le_of_ble_eq_true rfl) ⟨clo_all rfl, rfl, rfl⟩ (clo_all rfl) (grw_of (Nat.le_of_ble_eq_true rfl) (Nat.le_of_ble_eq_true rfl) rfl (fun _ h => by cases h; rfl)) (fun v W2 hp => ?_)
  obtain ⟨e1, rfl⟩ := hp
  cases e1
  refine AW.eq (pc' := 4) (ls' := [some (.ref 0)]) (st' := [.int n]) (AH' := WB m f ml n) ?_ rfl rfl rfl rfl
  exact r_iret X rfl rfl ⟨rfl, rfl⟩ (by decide) (by decide)
/-- a String that is being made of a StringBuilder -/
def WJ (v c : Value) (m : Nat) (f : Nat → Int32) (ml n : Int32) : List AC := [.inr (11, [v, c, .int 0, .int 0]), .inr (10, [.ref 2, .int 0, .int ml, .int n]), .inl (3, m, .inl f)]
def PTS (m n : Nat) (f : Nat → Int32) (ml : Int32) : PO := fun r A => r = .inl none ∧ ∃ g, (∀ j, j < n → g j = f j) ∧ BYF g ∧ A = WJ (.ref 3) (.int 0) m f ml (nI n) ++ [.inl (3, n, .inl g)]
theorem grw_PTS {m n : Nat} {f : Nat → Int32} {ml : Int32} : GRW 3 (PTS m n f ml) := by
  refine ⟨fun v W2 hp => ?_, fun E W2 hp => ?_⟩
  · obtain ⟨e1, g, -, -, rfl⟩ := hp
    cases e1
    exact ⟨(by decide : 3 ≤ 4), (by decide : 4 ≤ 3 + 9), clo_all rfl, fun _ h => by cases h⟩
  · have e1 := hp.1
    cases e1
set_option maxHeartbeats 1000000 in
set_option maxRecDepth 20000 in
theorem c_strB {m n : Nat} {f : Nat → Int32} {ml : Int32} (hn : n ≤ m) (hm : m ≤ 1000) (hf : BYF f) : Sem z_J0_init_db425 3 1 1000 [.ref 0, .ref 1, .null] (WJ .null (.int 0) m f ml (nI n)) (PTS m n f ml) := by
  refine Sem.of zo_J0_init_db425 (by decide +kernel) (Nat.le_of_ble_eq_true rfl) fun κ X hE hR hN => ?_
  refine AW.eq (pc' := 0) (ls' := [some (.ref 0), some (.ref 1), some .null, none, none]) (st' := []) (AH' := WJ .null (.int 0) m f ml (nI n)) ?_ rfl rfl rfl rfl
  refine go_s 1 X (pc2 := 1) (st2 := [.ref 0]) rfl ?_
  refine r_obj X rfl (by decide +kernel) ob4 ob6 ⟨by rw [hR]; decide, by rw [hR]; decide⟩ ?_
  refine go_s 1 X (pc2 := 5) (st2 := [.ref 1]) rfl ?_
  refine r_gU X [1, 2] [] (o := 0) (As := []) (rest := []) (c_getValue (m := m) (f := f) (ml := ml) (n := nI n)) ⟨rfl, rfl⟩ rfl u_ST_552 rfl rfl rfl (fit_of hR (by decide) (by decide) (by decide) (by decide)) (Nat.le_of_ble_eq_true rfl) (fun _ h => by cases h) (Nat.le_of_ble_eq_true rfl) (Nat.le_of_ble_eq_true rfl) ⟨clo_all rfl, rfl, rfl⟩ (clo_all rfl) (grw_of (Nat.le_of_ble_eq_true rfl) (Nat.le_of_ble_eq_true rfl) rfl (fun _ h => by cases h; rfl)) (fun v W2 hp => ?_)
  obtain ⟨e1, rfl⟩ := hp
  cases e1
  refine AW.eq (pc' := 8) (ls' := [some (.ref 0), some (.ref 1), some .null, none, none]) (st' := [.ref 2]) (AH' := WJ .null (.int 0) m f ml (nI n)) ?_ rfl rfl rfl rfl
  refine go_l 2 X (pc2 := 10) (ls2 := [some (.ref 0), some (.ref 1), some .null, some (.ref 2), none]) (st2 := [.ref 1]) rfl ?_
  refine r_gU X [1, 2] [] (o := 0) (As := []) (rest := []) (c_len4 (m := m) (f := f) (ml := ml) (n := nI n)) ⟨rfl, rfl⟩ rfl u_ST_549 rfl rfl rfl (fit_of hR (by decide) (by decide) (by decide) (by decide)) (Nat.le_of_ble_eq_true rfl) (fun _ h => by cases h) (Nat.le_of_ble_eq_true rfl) (Nat.le_of_ble_eq_true rfl) ⟨clo_all rfl, rfl, rfl⟩ (clo_all rfl) (grw_of (Nat.le_of_ble_eq_true rfl) (Nat.le_of_ble_eq_true rfl) rfl (fun _ h => by cases h; rfl)) (fun v W2 hp => ?_)
  obtain ⟨e1, rfl⟩ := hp
  cases e1
  refine AW.eq (pc' := 13) (ls' := [some (.ref 0), some (.ref 1), some .null, some (.ref 2), none]) (st' := [.int (nI n)]) (AH' := WJ .null (.int 0) m f ml (nI n)) ?_ rfl rfl rfl rfl
  refine go_l 2 X (pc2 := 16) (ls2 := [some (.ref 0), some (.ref 1), some .null, some (.ref 2), some (.int (nI n))]) (st2 := [.ref 1]) rfl ?_
  refine r_gU X [1, 2] [] (o := 0) (As := []) (rest := []) (c_isLat5 (m := m) (f := f) (ml := ml) (n := nI n)) ⟨rfl, rfl⟩ rfl u_ST_1047 rfl rfl rfl (fit_of hR (by decide) (by decide) (by decide) (by decide)) (Nat.le_of_ble_eq_true rfl) (fun _ h => by cases h) (Nat.le_of_ble_eq_true rfl) (Nat.le_of_ble_eq_true rfl) ⟨clo_all rfl, rfl, rfl⟩ (clo_all rfl) (grw_of (Nat.le_of_ble_eq_true rfl) (Nat.le_of_ble_eq_true rfl) rfl (fun _ h => by cases h; rfl)) (fun v W2 hp => ?_)
  obtain ⟨e1, rfl⟩ := hp
  cases e1
  refine AW.eq (pc' := 19) (ls' := [some (.ref 0), some (.ref 1), some .null, some (.ref 2), some (.int (nI n))]) (st' := [.int 1]) (AH' := WJ .null (.int 0) m f ml (nI n)) ?_ rfl rfl rfl rfl
  refine r_if_eq X 41 rfl rfl (fun h => absurd h (by decide)) (fun _ => ?_)
  refine go_s 2 X (pc2 := 24) (st2 := [.int 0, .ref 0]) rfl ?_
  refine r_putFB X rfl (kk := 1) (ci := 11) (by decide) rfl rfl rfl rfl rfl rfl (by decide +kernel) rfl (by decide) ?_
  refine AW.eq (pc' := 27) (ls' := [some (.ref 0), some (.ref 1), some .null, some (.ref 2), some (.int (nI n))]) (st' := []) (AH' := WJ .null (.int 0) m f ml (nI n)) ?_ rfl rfl rfl rfl
  refine go_s 4 X (pc2 := 32) (st2 := [.int (nI n), .int 0, .ref 2, .ref 0]) rfl ?_
  refine r_gS X [2] [] (As := [.ref 0, .int 0, .int (nI n)]) (rest := [.ref 0]) (c_cpr hn hm hf) ⟨rfl, rfl⟩ rfl k_J7_copyOfRange_39247 m_ST_54 rfl rfl (fit_of hR (by decide) (by decide) (by decide) (by decide)) (Nat.le_of_ble_eq_true rfl) (fun _ h => by cases h) (Nat.le_of_ble_eq_true rfl) (Nat.le_of_ble_eq_true rfl) ⟨clo_all rfl, rfl, rfl⟩ (clo_all rfl) grw_PCR (fun v W2 hp => ?_)
  obtain ⟨e1, g, g1, g2, rfl⟩ := hp
  cases e1
  refine AW.eq (pc' := 35) (ls' := [some (.ref 0), some (.ref 1), some .null, some (.ref 2), some (.int (nI n))]) (st' := [.ref 3, .ref 0]) (AH' := WJ .null (.int 0) m f ml (nI n) ++ [.inl (3, n, .inl g)]) ?_ rfl rfl rfl rfl
  refine r_putF X rfl (kk := 0) (ci := 11) (by decide) rfl rfl rfl rfl rfl rfl (by decide +kernel) rfl (by decide) ?_
  refine AW.eq (pc' := 38) (ls' := [some (.ref 0), some (.ref 1), some .null, some (.ref 2), some (.int (nI n))]) (st' := []) (AH' := WJ (.ref 3) (.int 0) m f ml (nI n) ++ [.inl (3, n, .inl g)]) ?_ rfl rfl rfl rfl
  refine go_s 1 X (pc2 := 97) (st2 := []) rfl ?_
  exact r_vret X rfl rfl ⟨rfl, g, g1, g2, rfl⟩ (by decide) (by decide)
set_option maxRecDepth 20000 in
theorem c_strA {m n : Nat} {f : Nat → Int32} {ml : Int32} (hn : n ≤ m) (hm : m ≤ 1000) (hf : BYF f) : Sem z_J0_init_81219 4 1 1000 [.ref 0, .ref 1] (WJ .null (.int 0) m f ml (nI n)) (PTS m n f ml) := by
  refine Sem.of zo_J0_init_81219 (by decide +kernel) (Nat.le_of_ble_eq_true rfl) fun κ X hE hR hN => ?_
  refine AW.eq (pc' := 0) (ls' := [some (.ref 0), some (.ref 1)]) (st' := []) (AH' := WJ .null (.int 0) m f ml (nI n)) ?_ rfl rfl rfl rfl
  refine go_s 2 X (pc2 := 2) (st2 := [.ref 1, .ref 0]) rfl ?_
  refine r_anull X rfl ?_
  refine r_gI X [0, 1, 2] [] (o := 0) (As := [.ref 1, .null]) (rest := []) (c_strB hn hm hf) ⟨rfl, rfl⟩ rfl k_J0_init_db425 m_ST_489 rfl rfl (fit_of hR (by decide) (by decide) (by decide) (by decide)) (Nat.le_of_ble_eq_true rfl) (fun _ h => by cases h) (Nat.le_of_ble_eq_true rfl) (Nat.le_of_ble_eq_true rfl) ⟨clo_all rfl, rfl, rfl⟩ (clo_all rfl) grw_PTS (fun v W2 hp => ?_)
  obtain ⟨e1, g, g1, g2, rfl⟩ := hp
  cases e1
  refine AW.eq (pc' := 6) (ls' := [some (.ref 0), some (.ref 1)]) (st' := []) (AH' := WJ (.ref 3) (.int 0) m f ml (nI n) ++ [.inl (3, n, .inl g)]) ?_ rfl rfl rfl rfl
  exact r_vret X rfl rfl ⟨rfl, g, g1, g2, rfl⟩ (by decide) (by decide)
/-- the end of toString -/
def PSR (m n : Nat) (f : Nat → Int32) (ml : Int32) : PO := fun r A => r = .inl (some (.ref 2)) ∧ ∃ g, (∀ j, j < n → g j = f j) ∧ BYF g ∧ A = WB m f ml (nI n) ++ [.inr (11, [.ref 3, .int 0, .int 0, .int 0]), .inl (3, n, .inl g)]
theorem grw_PSR {m n : Nat} {f : Nat → Int32} {ml : Int32} : GRW 2 (PSR m n f ml) := by
  refine ⟨fun v W2 hp => ?_, fun E W2 hp => ?_⟩
  · obtain ⟨e1, g, -, -, rfl⟩ := hp
    cases e1
    exact ⟨(by decide : 2 ≤ 4), (by decide : 4 ≤ 2 + 9), clo_all rfl, fun _ h => by cases h; rfl⟩
  · have e1 := hp.1
    cases e1
set_option maxHeartbeats 1000000 in
set_option maxRecDepth 20000 in
theorem c_toStr {m n : Nat} {f : Nat → Int32} {ml : Int32} (hn : n ≤ m) (hm : m ≤ 1000) (hf : BYF f) : Sem z_J4_toString_0e30d 5 2 1004 [.ref 0] (WB m f ml (nI n)) (PSR m n f ml) := by
  refine Sem.of zo_J4_toString_0e30d (by decide +kernel) (Nat.le_of_ble_eq_true rfl) fun κ X hE hR hN => ?_
  refine AW.eq (pc' := 0) (ls' := [some (.ref 0)]) (st' := []) (AH' := WB m f ml (nI n)) ?_ rfl rfl rfl rfl
  refine r_new X 11 (fs := [.null, .int 0, .int 0, .int 0]) rfl rfl rfl (by decide +kernel) (fun j hj => by match j, hj with | 0, _ => rfl | 1, _ => rfl | 2, _ => rfl | 3, _ => rfl | n + 4, h => exact absurd (show n + 4 < 4 from h) (by omega)) rfl ⟨clo_all rfl, rfl, rfl⟩ (Nat.le_of_ble_eq_true rfl) (by rw [hR]; decide) (by rw [hR]; decide) ?_
  refine AW.eq (pc' := 3) (ls' := [some (.ref 0)]) (st' := [.ref 2]) (AH' := WB m f ml (nI n) ++ [.inr (11, [.null, .int 0, .int 0, .int 0])]) ?_ rfl rfl rfl rfl
  refine go_s 2 X (pc2 := 5) (st2 := [.ref 0, .ref 2, .ref 2]) rfl ?_
  refine r_gI X [2, 0, 1] [] (o := 0) (As := [.ref 1]) (rest := [.ref 2]) (c_strA hn hm hf) ⟨rfl, rfl⟩ rfl k_J0_init_81219 m_SB_137 rfl rfl (fit_of hR (by decide) (by decide) (by decide) (by decide)) (Nat.le_of_ble_eq_true rfl) (fun _ h => by cases h) (Nat.le_of_ble_eq_true rfl) (Nat.le_of_ble_eq_true rfl) ⟨clo_all rfl, rfl, rfl⟩ (clo_all rfl) grw_PTS (fun v W2 hp => ?_)
  obtain ⟨e1, g, g1, g2, rfl⟩ := hp
  cases e1
  refine AW.eq (pc' := 8) (ls' := [some (.ref 0)]) (st' := [.ref 2]) (AH' := WB m f ml (nI n) ++ [.inr (11, [.ref 3, .int 0, .int 0, .int 0]), .inl (3, n, .inl g)]) ?_ rfl rfl rfl rfl
  exact r_aret X rfl rfl (Or.inl ⟨_, rfl⟩) ⟨rfl, g, g1, g2, rfl⟩ (by decide) (by decide)
/-- new StringBuilder() -/
theorem c_sb5 : Sem z_J5_init_d00df 0 1 1000 [.ref 0, .int 16] [.inr (10, [.null, .int 0, .int 0, .int 0])] (PST (.inl none) (WB 16 z0 0 0)) := by
  refine Sem.of zo_J5_init_d00df (by decide +kernel) (Nat.le_of_ble_eq_true rfl) fun κ X hE hR hN => ?_
  refine AW.eq (pc' := 0) (ls' := [some (.ref 0), some (.int 16)]) (st' := []) (AH' := [.inr (10, [.null, .int 0, .int 0, .int 0])]) ?_ rfl rfl rfl rfl
  refine go_s 1 X (pc2 := 1) (st2 := [.ref 0]) rfl ?_
  refine r_obj X rfl (by decide +kernel) ob4 ob6 ⟨by rw [hR]; decide, by rw [hR]; decide⟩ ?_
  refine r_strK X rfl (by decide +kernel) ?_
  refine r_if_eq X 25 rfl rfl (fun h => absurd h (by decide)) (fun _ => ?_)
  refine go_s 2 X (pc2 := 12) (st2 := [.int 16, .ref 0]) rfl ?_
  refine r_newa X 3 .byte (a0 := (16, .inl z0)) (N := 16) rfl rfl hkd3 (by decide +kernel) (fun _ => rfl) (fun _ => rfl) (by decide) (by decide) (by decide) ⟨clo_all rfl, rfl, rfl⟩ (Nat.le_of_ble_eq_true rfl) (by rw [hR]; decide) (by rw [hR]; decide) ?_
  refine AW.eq (pc' := 14) (ls' := [some (.ref 0), some (.int 16)]) (st' := [.ref 1, .ref 0]) (AH' := [.inr (10, [.null, .int 0, .int 0, .int 0]), .inl (3, 16, .inl z0)]) ?_ rfl rfl rfl rfl
  refine go 3 X (pc2 := 19) (ls2 := [some (.ref 0), some (.int 16)]) (st2 := [.int 0, .ref 0]) (AH2 := WB 16 z0 0 0) rfl ?_
  refine r_putB X rfl rfl rfl rfl rfl rfl rfl (by decide) ?_
  refine AW.eq (pc' := 22) (ls' := [some (.ref 0), some (.int 16)]) (st' := []) (AH' := WB 16 z0 0 0) ?_ rfl rfl rfl rfl
  refine go_s 1 X (pc2 := 38) (st2 := []) rfl ?_
  exact r_vret X rfl rfl ⟨rfl, rfl⟩ (by decide) (by decide)
set_option maxRecDepth 20000 in
theorem c_sb4 : Sem z_J4_init_da8c8 1 1 1000 [.ref 0] [.inr (10, [.null, .int 0, .int 0, .int 0])] (PST (.inl none) (WB 16 z0 0 0)) := by
  refine Sem.of zo_J4_init_da8c8 (by decide +kernel) (Nat.le_of_ble_eq_true rfl) fun κ X hE hR hN => ?_
  refine AW.eq (pc' := 0) (ls' := [some (.ref 0)]) (st' := []) (AH' := [.inr (10, [.null, .int 0, .int 0, .int 0])]) ?_ rfl rfl rfl rfl
  refine go_s 2 X (pc2 := 3) (st2 := [.int 16, .ref 0]) rfl ?_
  refine r_gI X [0] [] (o := 0) (As := [.int 16]) (rest := []) c_sb5 ⟨rfl, rfl⟩ rfl k_J5_init_d00df m_SB_1 rfl rfl (fit_of hR (by decide) (by decide) (by decide) (by decide)) (Nat.le_of_ble_eq_true rfl) (fun _ h => by cases h) (Nat.le_of_ble_eq_true rfl) (Nat.le_of_ble_eq_true rfl) ⟨clo_all rfl, rfl, rfl⟩ (clo_all rfl) (grw_of (Nat.le_of_ble_eq_true rfl) (Nat.le_of_ble_eq_true rfl) rfl (fun _ h => by cases h)) (fun v W2 hp => ?_)
  obtain ⟨e1, rfl⟩ := hp
  cases e1
  refine AW.eq (pc' := 6) (ls' := [some (.ref 0)]) (st' := []) (AH' := WB 16 z0 0 0) ?_ rfl rfl rfl rfl
  exact r_vret X rfl rfl ⟨rfl, rfl⟩ (by decide) (by decide)
/-- a String made at run time -/
def WV (g : Nat → Int32) (n : Nat) : List AC := [.inr (11, [.ref 1, .int 0, .int 0, .int 0]), .inl (3, n, .inl g)]
set_option maxRecDepth 20000 in
theorem cv_coder {g : Nat → Int32} {n : Nat} : Sem v_J0_coder_7d493 0 0 0 [.ref 0] (WV g n) (PST (.inl (some (.int 0))) (WV g n)) := by
  refine Sem.of zov_J0_coder_7d493 (by decide +kernel) (Nat.le_of_ble_eq_true rfl) fun κ X hE hR hN => ?_
  refine AW.eq (pc' := 0) (ls' := [some (.ref 0)]) (st' := []) (AH' := WV g n) ?_ rfl rfl rfl rfl
  refine r_strK X rfl (by decide +kernel) ?_
  refine r_if_eq X 13 rfl rfl (fun c => absurd c (by decide)) (fun _ => ?_)
  refine go_s 3 X (pc2 := 14) (st2 := [.int 0]) rfl ?_
  exact r_zret X rfl rfl rfl ⟨rfl, rfl⟩ (by decide) (by decide)
set_option maxRecDepth 20000 in
theorem cv_isLatin1 {g : Nat → Int32} {n : Nat} : Sem v_J0_isLatin1_aae02 0 0 0 [.ref 0] (WV g n) (PST (.inl (some (.int 1))) (WV g n)) := by
  refine Sem.of zov_J0_isLatin1_aae02 (by decide +kernel) (Nat.le_of_ble_eq_true rfl) fun κ X hE hR hN => ?_
  refine AW.eq (pc' := 0) (ls' := [some (.ref 0)]) (st' := []) (AH' := WV g n) ?_ rfl rfl rfl rfl
  refine r_strK X rfl (by decide +kernel) ?_
  refine r_if_eq X 17 rfl rfl (fun c => absurd c (by decide)) (fun _ => ?_)
  refine go_s 2 X (pc2 := 10) (st2 := [.int 0]) rfl ?_
  refine r_if_ne X 17 rfl rfl (fun c => absurd rfl c) (fun _ => ?_)
  refine go_s 2 X (pc2 := 18) (st2 := [.int 1]) rfl ?_
  exact r_zret X rfl rfl rfl ⟨rfl, rfl⟩ (by decide) (by decide)
set_option maxRecDepth 20000 in
theorem cv_length {g : Nat → Int32} {n : Nat} : Sem v_J0_length_8abf5 1 0 0 [.ref 0] (WV g n) (PST (.inl (some (.int (nI n)))) (WV g n)) := by
  refine Sem.of zov_J0_length_8abf5 (by decide +kernel) (Nat.le_of_ble_eq_true rfl) fun κ X hE hR hN => ?_
  refine AW.eq (pc' := 0) (ls' := [some (.ref 0)]) (st' := []) (AH' := WV g n) ?_ rfl rfl rfl rfl
  refine go_s 4 X (pc2 := 6) (st2 := [.ref 0, .int (nI n)]) rfl ?_
  refine q_callV X [0, 1] [] (o := 0) (As := []) (rest := [.int (nI n)]) (AH2 := WV g n) (st2 := [.int 0, .int (nI n)]) (cv_coder (g := g) (n := n)) ⟨rfl, rfl⟩ rfl kv_J0_coder_7d493 (Or.inl m_ST_335) rfl rfl rfl rfl rfl (fit_of hR (by decide) (by decide) (by decide) (by decide)) (Nat.le_of_ble_eq_true rfl) (by decide) rfl rfl rfl ?_
  refine go_s 1 X (pc2 := 10) (st2 := [.int (nI n >>> ((0 : Int32) &&& 31))]) rfl ?_
  rw [shr0]
  exact r_iret X rfl rfl ⟨rfl, rfl⟩ (by decide) (by decide)
theorem ch128 : ∀ c, c < 128 → nI c &&& 255 = nI c ∧ ((nI c).toUInt32 % 65536).toInt32 = nI c ∧ narrow .char (.int (nI c)) = .int (nI c) := by decide +kernel
set_option maxRecDepth 20000 in
theorem c_latAt {g : Nat → Int32} {n j c : Nat} (hj : j < n) (hn : n ≤ 1000) (hc : c < 128) (hg : g j = nI c) : Sem z_J1_charAt_3b067 2 0 0 [.ref 0, .int (nI j)] [.inl (3, n, .inl g)] (PST (.inl (some (.int (nI c)))) [.inl (3, n, .inl g)]) := by
  obtain ⟨k1, k2, k3⟩ := ch128 c hc
  refine Sem.of zo_J1_charAt_3b067 (by decide +kernel) (Nat.le_of_ble_eq_true rfl) fun κ X hE hR hN => ?_
  refine AW.eq (pc' := 0) (ls' := [some (.ref 0), some (.int (nI j))]) (st' := []) (AH' := [.inl (3, n, .inl g)]) ?_ rfl rfl rfl rfl
  refine go_s 3 X (pc2 := 3) (st2 := [.int (nI n), .int (nI j)]) rfl ?_
  refine q_callS X [] [] (As := [.int (nI j), .int (nI n)]) (rest := []) (AH2 := [.inl (3, n, .inl g)]) (st2 := []) (c_sci _ _ (nI_pos (by omega)) (nI_lt hj (by omega))) ⟨rfl, rfl⟩ rfl k_J0_checkIndex_df160 l_J1_9 rfl rfl (fit_of hR (by decide) (by decide) (by decide) (by decide)) (Nat.le_of_ble_eq_true rfl) (by decide) rfl rfl rfl ?_
  refine go_s 2 X (pc2 := 8) (st2 := [.int (nI j), .ref 0]) rfl ?_
  refine r_bald X rfl rfl (vp_in_nI hj (by omega)) ?_
  rw [nI_clamp (n := j) (by omega), hg]
  refine go_s 2 X (pc2 := 13) (st2 := [.int (nI c &&& 255)]) rfl ?_
  rw [k1]
  refine r_i2c X rfl k2 ?_
  exact r_zret X rfl rfl k3 ⟨rfl, rfl⟩ (by decide) (by decide)
set_option maxRecDepth 20000 in
theorem cv_charAt {g : Nat → Int32} {n j c : Nat} (hj : j < n) (hn : n ≤ 1000) (hc : c < 128) (hg : g j = nI c) : Sem v_J0_charAt_5068e 3 0 0 [.ref 0, .int (nI j)] (WV g n) (PST (.inl (some (.int (nI c)))) (WV g n)) := by
  obtain ⟨k1, k2, k3⟩ := ch128 c hc
  refine Sem.of zov_J0_charAt_5068e (by decide +kernel) (Nat.le_of_ble_eq_true rfl) fun κ X hE hR hN => ?_
  refine AW.eq (pc' := 0) (ls' := [some (.ref 0), some (.int (nI j))]) (st' := []) (AH' := WV g n) ?_ rfl rfl rfl rfl
  refine go_s 1 X (pc2 := 1) (st2 := [.ref 0]) rfl ?_
  refine q_callV X [0, 1] [] (o := 0) (As := []) (rest := []) (AH2 := WV g n) (st2 := [.int 1]) (cv_isLatin1 (g := g) (n := n)) ⟨rfl, rfl⟩ rfl kv_J0_isLatin1_aae02 (Or.inl m_ST_492) rfl rfl rfl rfl rfl (fit_of hR (by decide) (by decide) (by decide) (by decide)) (Nat.le_of_ble_eq_true rfl) (by decide) rfl rfl rfl ?_
  refine r_if_eq X 16 rfl rfl (fun c => absurd c (by decide)) (fun _ => ?_)
  refine go_s 3 X (pc2 := 12) (st2 := [.int (nI j), .ref 1]) rfl ?_
  refine q_callS X [1] [] (As := [.ref 0, .int (nI j)]) (rest := []) (AH2 := WV g n) (st2 := [.int (nI c)]) (c_latAt hj hn hc hg) ⟨rfl, rfl⟩ rfl k_J1_charAt_3b067 l_J0_495 rfl rfl (fit_of hR (by decide) (by decide) (by decide) (by decide)) (Nat.le_of_ble_eq_true rfl) (by decide) rfl rfl rfl ?_
  exact r_zret X rfl rfl k3 ⟨rfl, rfl⟩ (by decide) (by decide)
