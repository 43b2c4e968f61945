/-! ===== 79a: the law's object; its script (gen79a.py) ===== -/
def q00 : QV := (z0, z0, z0, z0, z0, z0, z0, z0, 0, 0, 0, 0)
set_option maxRecDepth 20000 in
set_option maxHeartbeats 2000000 in
theorem c_L_init : Sem z_L_init 1 8 1400 [.ref 0] [.inr (9, [.null, .null, .null, .null, .null, .null, .null, .null, .int 0, .int 0, .int 0, .int 0])] (PST (.inl none) (WQ q00)) := by
  refine Sem.of zo_L_init (by decide +kernel) (Nat.le_of_ble_eq_true rfl) fun κ X hE hR hN => ?_
  refine AW.eq (pc' := 0) (ls' := [some (.ref 0)]) (st' := []) (AH' := [.inr (9, [.null, .null, .null, .null, .null, .null, .null, .null, .int 0, .int 0, .int 0, .int 0])]) ?_ rfl rfl rfl rfl
  refine go_s 1 X (pc2 := 1) (st2 := [.ref 0]) rfl ?_
  refine r_obj X rfl (by decide +kernel) ob4 ob6 ⟨by rw [hR]; decide, by rw [hR]; decide⟩ ?_
  refine go_s 2 X (pc2 := 7) (st2 := [.int 40, .ref 0]) rfl ?_
  refine r_newa X 0 .int (a0 := (40, .inl z0)) (N := 40) rfl rfl hkd0 (by decide +kernel) (fun _ => rfl) (fun _ => rfl) (by decide) (by decide) (by decide) ⟨clo_all rfl, rfl, rfl⟩ (by decide) (by rw [hR]; decide) (by rw [hR]; decide) ?_
  refine r_putF X rfl (kk := 0) (ci := 9) (by decide) rfl rfl rfl rfl rfl rfl (by decide +kernel) rfl (by decide) ?_
  refine AW.eq (pc' := 12) (ls' := [some (.ref 0)]) (st' := []) (AH' := [.inr (9, [.ref 1, .null, .null, .null, .null, .null, .null, .null, .int 0, .int 0, .int 0, .int 0]), .inl (0, 40, .inl z0)]) ?_ rfl rfl rfl rfl
  refine go_s 2 X (pc2 := 15) (st2 := [.int 40, .ref 0]) rfl ?_
  refine r_newa X 0 .int (a0 := (40, .inl z0)) (N := 40) rfl rfl hkd0 (by decide +kernel) (fun _ => rfl) (fun _ => rfl) (by decide) (by decide) (by decide) ⟨clo_all rfl, rfl, rfl⟩ (by decide) (by rw [hR]; decide) (by rw [hR]; decide) ?_
  refine r_putF X rfl (kk := 1) (ci := 9) (by decide) rfl rfl rfl rfl rfl rfl (by decide +kernel) rfl (by decide) ?_
  refine AW.eq (pc' := 20) (ls' := [some (.ref 0)]) (st' := []) (AH' := [.inr (9, [.ref 1, .ref 2, .null, .null, .null, .null, .null, .null, .int 0, .int 0, .int 0, .int 0]), .inl (0, 40, .inl z0), .inl (0, 40, .inl z0)]) ?_ rfl rfl rfl rfl
  refine go_s 2 X (pc2 := 23) (st2 := [.int 40, .ref 0]) rfl ?_
  refine r_newa X 0 .int (a0 := (40, .inl z0)) (N := 40) rfl rfl hkd0 (by decide +kernel) (fun _ => rfl) (fun _ => rfl) (by decide) (by decide) (by decide) ⟨clo_all rfl, rfl, rfl⟩ (by decide) (by rw [hR]; decide) (by rw [hR]; decide) ?_
  refine r_putF X rfl (kk := 2) (ci := 9) (by decide) rfl rfl rfl rfl rfl rfl (by decide +kernel) rfl (by decide) ?_
  refine AW.eq (pc' := 28) (ls' := [some (.ref 0)]) (st' := []) (AH' := [.inr (9, [.ref 1, .ref 2, .ref 3, .null, .null, .null, .null, .null, .int 0, .int 0, .int 0, .int 0]), .inl (0, 40, .inl z0), .inl (0, 40, .inl z0), .inl (0, 40, .inl z0)]) ?_ rfl rfl rfl rfl
  refine go_s 2 X (pc2 := 31) (st2 := [.int 40, .ref 0]) rfl ?_
  refine r_newa X 0 .int (a0 := (40, .inl z0)) (N := 40) rfl rfl hkd0 (by decide +kernel) (fun _ => rfl) (fun _ => rfl) (by decide) (by decide) (by decide) ⟨clo_all rfl, rfl, rfl⟩ (by decide) (by rw [hR]; decide) (by rw [hR]; decide) ?_
  refine r_putF X rfl (kk := 3) (ci := 9) (by decide) rfl rfl rfl rfl rfl rfl (by decide +kernel) rfl (by decide) ?_
  refine AW.eq (pc' := 36) (ls' := [some (.ref 0)]) (st' := []) (AH' := [.inr (9, [.ref 1, .ref 2, .ref 3, .ref 4, .null, .null, .null, .null, .int 0, .int 0, .int 0, .int 0]), .inl (0, 40, .inl z0), .inl (0, 40, .inl z0), .inl (0, 40, .inl z0), .inl (0, 40, .inl z0)]) ?_ rfl rfl rfl rfl
  refine go_s 2 X (pc2 := 39) (st2 := [.int 40, .ref 0]) rfl ?_
  refine r_newa X 0 .int (a0 := (40, .inl z0)) (N := 40) rfl rfl hkd0 (by decide +kernel) (fun _ => rfl) (fun _ => rfl) (by decide) (by decide) (by decide) ⟨clo_all rfl, rfl, rfl⟩ (by decide) (by rw [hR]; decide) (by rw [hR]; decide) ?_
  refine r_putF X rfl (kk := 4) (ci := 9) (by decide) rfl rfl rfl rfl rfl rfl (by decide +kernel) rfl (by decide) ?_
  refine AW.eq (pc' := 44) (ls' := [some (.ref 0)]) (st' := []) (AH' := [.inr (9, [.ref 1, .ref 2, .ref 3, .ref 4, .ref 5, .null, .null, .null, .int 0, .int 0, .int 0, .int 0]), .inl (0, 40, .inl z0), .inl (0, 40, .inl z0), .inl (0, 40, .inl z0), .inl (0, 40, .inl z0), .inl (0, 40, .inl z0)]) ?_ rfl rfl rfl rfl
  refine go_s 2 X (pc2 := 46) (st2 := [.int 4, .ref 0]) rfl ?_
  refine r_newa X 0 .int (a0 := (4, .inl z0)) (N := 4) rfl rfl hkd0 (by decide +kernel) (fun _ => rfl) (fun _ => rfl) (by decide) (by decide) (by decide) ⟨clo_all rfl, rfl, rfl⟩ (by decide) (by rw [hR]; decide) (by rw [hR]; decide) ?_
  refine r_putF X rfl (kk := 5) (ci := 9) (by decide) rfl rfl rfl rfl rfl rfl (by decide +kernel) rfl (by decide) ?_
  refine AW.eq (pc' := 51) (ls' := [some (.ref 0)]) (st' := []) (AH' := [.inr (9, [.ref 1, .ref 2, .ref 3, .ref 4, .ref 5, .ref 6, .null, .null, .int 0, .int 0, .int 0, .int 0]), .inl (0, 40, .inl z0), .inl (0, 40, .inl z0), .inl (0, 40, .inl z0), .inl (0, 40, .inl z0), .inl (0, 40, .inl z0), .inl (0, 4, .inl z0)]) ?_ rfl rfl rfl rfl
  refine go_s 2 X (pc2 := 53) (st2 := [.int 4, .ref 0]) rfl ?_
  refine r_newa X 0 .int (a0 := (4, .inl z0)) (N := 4) rfl rfl hkd0 (by decide +kernel) (fun _ => rfl) (fun _ => rfl) (by decide) (by decide) (by decide) ⟨clo_all rfl, rfl, rfl⟩ (by decide) (by rw [hR]; decide) (by rw [hR]; decide) ?_
  refine r_putF X rfl (kk := 6) (ci := 9) (by decide) rfl rfl rfl rfl rfl rfl (by decide +kernel) rfl (by decide) ?_
  refine AW.eq (pc' := 58) (ls' := [some (.ref 0)]) (st' := []) (AH' := [.inr (9, [.ref 1, .ref 2, .ref 3, .ref 4, .ref 5, .ref 6, .ref 7, .null, .int 0, .int 0, .int 0, .int 0]), .inl (0, 40, .inl z0), .inl (0, 40, .inl z0), .inl (0, 40, .inl z0), .inl (0, 40, .inl z0), .inl (0, 40, .inl z0), .inl (0, 4, .inl z0), .inl (0, 4, .inl z0)]) ?_ rfl rfl rfl rfl
  refine go_s 2 X (pc2 := 60) (st2 := [.int 4, .ref 0]) rfl ?_
  refine r_newa X 2 .boolean (a0 := (4, .inl z0)) (N := 4) rfl rfl hkd2 (by decide +kernel) (fun _ => rfl) (fun _ => rfl) (by decide) (by decide) (by decide) ⟨clo_all rfl, rfl, rfl⟩ (by decide) (by rw [hR]; decide) (by rw [hR]; decide) ?_
  refine r_putF X rfl (kk := 7) (ci := 9) (by decide) rfl rfl rfl rfl rfl rfl (by decide +kernel) rfl (by decide) ?_
  refine AW.eq (pc' := 65) (ls' := [some (.ref 0)]) (st' := []) (AH' := [.inr (9, [.ref 1, .ref 2, .ref 3, .ref 4, .ref 5, .ref 6, .ref 7, .ref 8, .int 0, .int 0, .int 0, .int 0]), .inl (0, 40, .inl z0), .inl (0, 40, .inl z0), .inl (0, 40, .inl z0), .inl (0, 40, .inl z0), .inl (0, 40, .inl z0), .inl (0, 4, .inl z0), .inl (0, 4, .inl z0), .inl (2, 4, .inl z0)]) ?_ rfl rfl rfl rfl
  exact r_vret X rfl rfl ⟨rfl, rfl⟩ (by decide) (by decide)

/-- the script, in the state of a method -/
def SCU (ad : Nat → Nat) (A : Nat → Prop) (L : Nat) (xs : Nat → Int32) (U : State) : Prop := va_X (ad (SB + 201)) L xs U U.heap ∧ ad (SB + 201) < U.heap.size ∧ ¬ A (ad (SB + 201))
def SCX : KX → Nat → (Nat → Int32) → Prop
  | (p, l, e, R, s, m, args, below, meth, c, D, cA, A, n0, ad0), L, xs => SCU ad0 A L xs s
def PCx (D : va_G) (cA : Nat → ClassId) (ad : Nat → Nat) (As : List Value) (AH : List AC) (sz L : Nat) (xs : Nat → Int32) : Array Value → State → Prop := fun a U => PCn D cA ad As AH sz a U ∧ SCU ad (va_A (cw cA ad AH) sz) L xs U
theorem PCx.blind {D : va_G} {cA : Nat → ClassId} {ad : Nat → Nat} {As : List Value} {AH : List AC} {sz L : Nat} {xs : Nat → Int32} : FrameBlind (PCx D cA ad As AH sz L xs) := by
  intro a U g mk h
  exact ⟨PCn.blind a U g mk h.1, va_X.moved (u := U) (U := U.calling g mk a) (Vm.Alike.refl U.vm) h.2.1, h.2.2⟩
def SemS (z : MZ) (d mc ms : Nat) (As : List Value) (AH : List AC) (P : PO) (L : Nat) (xs : Nat → Int32) : Prop :=
  ∀ (l : Launch), l.stackTraces = false → ∀ (D : va_G) (cA : Nat → ClassId) (ad : Nat → Nat) (sz : Nat),
    vx_Met l (zY z) (wsM z) (rmM d mc ms) (PCx D cA ad As AH sz L xs) (RC D cA (va_A (cw cA ad AH) sz) AH.length ad P) (XR D cA (va_A (cw cA ad AH) sz) AH.length ad P) mc ms (va_A (cw cA ad AH) sz)
theorem SemS.of {z : MZ} {d mc ms : Nat} {As : List Value} {AH : List AC} {P : PO} {L : Nat} {xs : Nat → Int32} (hz : ZOK z) (hpl : plainName (zY z).cls = true) (hAs : slen As ≤ zN z)
    (body : ∀ κ : KX, CX κ z → CE κ → κR κ = rmM d mc ms → κN κ = AH.length → SCX κ L xs → AW κ (QM κ P mc ms) 0 (loc0 As (zN z)) [] AH 0 0) : SemS z d mc ms As AH P L xs := by
  intro l hl D cA ad sz
  refine vx_ofW (cc := zB z) (maxL := zN z) (ret := zR z) hpl rfl ?_
  intro p e s m args below meth c s₁ B hml hE hv
  obtain ⟨⟨rfl, hsz, hP, hK, hD0, hG⟩, hSC⟩ := hv
  subst hsz
  have hts := atoms_spec (ws := wsM z) B.pre
  have k := body (p, l, e, (headSpec (wsM z) (rmM d mc ms)).room, s, m, (As.map (cvV ad)).toArray, below, meth, c, D, cA, va_A (cw cA ad AH) s.heap.size, AH.length, ad)
    ⟨B.exec, B.bytes, hml, findClass_of_methodNamed B.named, fun w hw => hts w (List.mem_cons_of_mem _ hw), hK, hG, fun q h => Or.inr h, B.notSynchronized, hl, B.returns, (name_of_methodNamed B.named B.method).1, hz⟩ hE rfl rfl hSC
  have k2 := k ad s.heap [] ((lg_sl (As.map (cvV ad)) ++ List.replicate (zN z - (lg_sl (As.map (cvV ad))).length) Slot.unset).toArray) (fun _ _ => rfl) (fun _ => rfl) (Nat.le_refl _) hP hD0.self va_S.rf (by rw [hml]; exact LR.entry ad hAs)
  rw [lg_entry_eq]
  exact k2
section SCRIPT
variable {κ : KX} {z y : MZ} {Q : State → Prop} {pc : Nat} {ls : List (Option Value)} {st rest : List Value} {AH AHs : List AC} {nc ns d mc ms : Nat} {As : List Value} {L : Nat} {xs : Nat → Int32} {P : PO}
theorem r_sld (X : CX κ z) (SX : SCX κ L xs) {i : Int32} (hd : fetch (zC z) pc = some (.iaload, 1)) (hin : vp_in i L) (k : AW κ Q (pc + 1) ls (.int (xs i.toNatClampNeg) :: rest) AH nc ns) : AW κ Q pc ls (.int i :: .ref (SB + 201) :: rest) AH nc ns := by
  have hd := cxdec X hd
  obtain ⟨p, l, e, R, s, m, args, below, meth, c, D, cA, A, n0, ad0⟩ := κ
  obtain ⟨hx, hb, hml, hown, hts, hK, hG, hA, hlk, htr, hrt, hnm, hz, hf⟩ := X
  obtain ⟨s1, s2, s3⟩ := SX
  intro ad H locs lsA h1 h2 h3 hP hD hS hL
  have e1 : ad (SB + 201) = ad0 (SB + 201) := h1 _ (Or.inr (Nat.le_add_right _ _))
  show W p l e R s m args below meth c H locs nc ns Q (F0 m pc lsA (.int i :: .ref (ad (SB + 201)) :: rest.map (cvV ad)))
  rw [e1]
  exact va_sld hx hb s1 s2 s3 hS hin hd (k ad H locs lsA h1 h2 h3 hP hD hS hL)
theorem r_slenA (X : CX κ z) (SX : SCX κ L xs) (hd : fetch (zC z) pc = some (.arraylength, 1)) (k : AW κ Q (pc + 1) ls (.int (Int32.ofNat L) :: rest) AH nc ns) : AW κ Q pc ls (.ref (SB + 201) :: rest) AH nc ns := by
  have hd := cxdec X hd
  obtain ⟨p, l, e, R, s, m, args, below, meth, c, D, cA, A, n0, ad0⟩ := κ
  obtain ⟨hx, hb, hml, hown, hts, hK, hG, hA, hlk, htr, hrt, hnm, hz, hf⟩ := X
  obtain ⟨s1, s2, s3⟩ := SX
  intro ad H locs lsA h1 h2 h3 hP hD hS hL
  have e1 : ad (SB + 201) = ad0 (SB + 201) := h1 _ (Or.inr (Nat.le_add_right _ _))
  show W p l e R s m args below meth c H locs nc ns Q (F0 m pc lsA (.ref (ad (SB + 201)) :: rest.map (cvV ad)))
  rw [e1]
  exact va_slen hx hb s1 s2 s3 hS hd (k ad H locs lsA h1 h2 h3 hP hD hS hL)
/-- a static method that looks at the script -/
theorem r_callSs (X : CX κ z) (SX : SCX κ L xs) (ι δ : List Nat) {index n : Nat} (hM : SemS y d mc ms As AHs P L xs) (hk : PK ι δ AH AHs) (hd : fetch (zC z) pc = some (.invokestatic index, 3)) (hy : LKS y n) (hl : inALL (.methodLink (zY z).cls index (zY y)) = true) (hn : As.length = n)
    (hst : st = (As.map (cvV (iof ι δ AH.length))).reverse ++ rest) (hfit : FitR (κR κ) y d mc ms nc ns) (hsum : csum rest ≤ 8) (hsb : ι.length ≤ SB) (hlen : ∀ r AH2, P r AH2 → AH2.length = AHs.length)
    (kk : ∀ v AHs2, P (.inl v) AHs2 → AW κ Q (pc + 3) ls ((v.map (cvV (iof ι δ AH.length))).toList ++ rest) (putB AH ι (AHs2.map (rnE (iof ι δ AH.length)))) (nc + mc) (ns + ms))
    (kx : ∀ E AHs2, P (.inr E) AHs2 → AX κ Q E pc ls rest (putB AH ι (AHs2.map (rnE (iof ι δ AH.length)))) (nc + mc) (ns + ms)) : AW κ Q pc ls st AH nc ns := by
  have hd := cxdec X hd
  subst hst
  obtain ⟨p, l, e, R, s, m, args, below, meth, c, D, cA, A, n0, ad0⟩ := κ
  obtain ⟨hx, hb, hml, hown, hts, hK, hG, hA, hlk, htr, hrt, hnm, hz, hf⟩ := X
  obtain ⟨⟨y1, y2, y3⟩, y4⟩ := hy
  obtain ⟨hR, hC⟩ := hfit
  obtain ⟨s1, s2, s3⟩ := SX
  intro ad H locs lsA h1 h2 h3 hP hD hS hL
  rw [stk_S]
  have e1 : ad (iof ι δ AH.length (SB + 201)) = ad0 (SB + 201) := by
    rw [iof_sb (Nat.le_add_right _ _) (by unfold SD; omega) hsb]
    exact h1 _ (Or.inr (Nat.le_add_right _ _))
  have e2 : H[ad0 (SB + 201)]? = s.heap[ad0 (SB + 201)]? := hS.2.1 _ s2 s3
  have s4 := s1.kept e2
  have e3 : ad0 (SB + 201) < H.size := by
    obtain ⟨scr, g1, -⟩ := s4
    exact (Array.getElem?_eq_some_iff.mp g1).1
  have hpre : PreS s H (PCx D cA (fun k => ad (iof ι δ AH.length k)) As AHs H.size L xs) (As.map (cvV fun k => ad (iof ι δ AH.length k))) :=
    ⟨PCx.blind, fun U hU hW => ⟨pk_pre hk hsb h1 hP hD hS hA hK hG As U hU hW, by
      refine ⟨?_, ?_, ?_⟩
      · show va_X (ad (iof ι δ AH.length (SB + 201))) L xs U U.heap
        rw [e1, hU]
        exact s4.moved hW.alike
      · show ad (iof ι δ AH.length (SB + 201)) < U.heap.size
        rw [e1, hU]
        exact e3
      · show ¬ va_A (cw cA (fun k => ad (iof ι δ AH.length k)) AHs) H.size (ad (iof ι δ AH.length (SB + 201)))
        rw [e1]
        exact fun h => s3 (pk_free hk hD hS hA _ h)⟩⟩
  have hroom : 2 * (F0 m pc lsA ((As.map (cvV fun k => ad (iof ι δ AH.length k))).reverse ++ rest.map (cvV ad))).monitorRoom + ((rest.map (cvV ad)).map fun v => v.category).sum ≤ 8 := lv_room (by rw [csum_map]; exact hsum)
  refine after_call hA h1 h2 h3 hP hD hS hL hk hlen (a := (As.map (cvV fun k => ad (iof ι δ AH.length k))).toArray) ?_ kk kx
  exact vx_runS ⟨hx, hb, hml, hown, hts⟩ (hM l htr D cA (fun k => ad (iof ι δ AH.length k)) H.size) ⟨callB_of n hts (wsM_good y1) rfl rfl rfl (hts _ (ALL_of y2)) (hts _ (ALL_of hl)) y3 hR, hts _ (ALL_of y4)⟩ hpre rfl (by rw [List.length_map]; exact hn) (hL.1.trans hml) rfl hroom hd hC
end SCRIPT
/-- some int, nothing changed -/
def PXI : PO := fun r A => (∃ x : Int32, r = .inl (some (.int x))) ∧ A = []
theorem c_L_cell {L : Nat} {xs : Nat → Int32} (hL : L ≤ 260) {k : Nat} (hk : k < 1000) : SemS z_L_cell 0 0 0 [.ref (SB + 201), .int (nI k)] [] PXI L xs := by
  refine SemS.of zo_L_cell (by decide +kernel) (Nat.le_of_ble_eq_true rfl) fun κ X hE hR hN SX => ?_
  refine AW.eq (pc' := 0) (ls' := [some (.ref (SB + 201)), some (.int (nI k))]) (st' := []) (AH' := []) ?_ rfl rfl rfl rfl
  refine go_s 2 X (pc2 := 2) (st2 := [.ref (SB + 201), .int (nI k)]) rfl ?_
  refine r_slenA X SX rfl ?_
  refine r_icmp_ge X 12 rfl rfl (fun h => ?_) (fun h => ?_)
  · refine go_s 5 X (pc2 := 19) (st2 := [.int (113 * nI k + 67)]) rfl ?_
    exact r_iret X rfl rfl ⟨⟨_, rfl⟩, rfl⟩ (by decide) (by decide)
  · refine go_s 2 X (pc2 := 8) (st2 := [.int (nI k), .ref (SB + 201)]) rfl ?_
    have hkL : k < L := by
      refine Nat.lt_of_not_le fun h2 => h ?_
      exact nI_le h2 (by omega)
    refine r_sld X SX rfl (nI_in hkL (by omega)) ?_
    refine go_s 1 X (pc2 := 19) (st2 := [.int (xs (nI k).toNatClampNeg)]) rfl ?_
    exact r_iret X rfl rfl ⟨⟨_, rfl⟩, rfl⟩ (by decide) (by decide)
