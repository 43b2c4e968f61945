/-! ===== 61: constructors of the class's parts ===== -/
section OBJ
variable {κ : KX} {z : MZ} {Q : State → Prop} {pc : Nat} {ls : List (Option Value)} {st r : List Value} {AH : List AC} {nc ns : Nat}
theorem r_obj (X : CX κ z) {index o : Nat} (hd : fetch (zC z) pc = some (.invokespecial index, 3)) (hl : inALL (Cond.methodLink (zY z).cls index Lib.objectInit) = true) (h4 : inALL (Cond.instanceMethod Lib.objectInit) = true) (h6 : Cond.code Lib.objectInit ⟨#[0xb1]⟩ 1 none ∈ ALL) (hR : 1 ≤ (κR κ).frames ∧ csum r + 12 ≤ (κR κ).locals) (k : AW κ Q (pc + 3) ls r AH nc ns) : AW κ Q pc ls (.ref o :: r) AH nc ns := by
  have hd := cxdec X hd
  obtain ⟨p, l, e, R, s, m, args, below, meth, c, D, cA, A, n0, ad0⟩ := κ
  obtain ⟨hx, hb, hml, hown, hts, hK, hG, hA, hlk, htr, hrt, hnm, hz, hf⟩ := X
  intro ad H locs lsA h1 h2 h3 hP hD hS hL
  refine W.objInit hx hb hown (hts _ (ALL_of hl)) (hts _ (ALL_of h4)) (hts _ h6) rfl hL.1 rfl hd hR.1 ?_ (k ad H locs lsA h1 h2 h3 hP hD hS hL)
  have e1 := csum_map ad r
  show 2 * 0 + ((r.map (cvV ad)).map fun v => v.category).sum + 12 ≤ R.locals
  rw [e1]
  have := hR.2
  show 2 * 0 + csum r + 12 ≤ R.locals
  have h9 : csum r + 12 ≤ R.locals := this
  omega
theorem r_putF (X : CX κ z) {index ci kk o : Nat} {fs : List Value} {v : Value} {r9 : vw_C} {tf : Nat → FieldType} (hd : fetch (zC z) pc = some (.putfield index, 3)) (hF : (index, ci, kk) ∈ zF z) (ha : AH[o]? = some (.inr (ci, fs))) (hr : vwCl[ci]? = some r9) (htf : vwTy[ci]? = some tf) (hfin : (r9.2.1 kk).2.2.2 = true) (hi : (zY z).name = "<init>") (hdc : (r9.2.1 kk).1 = (zY z).cls) (hpl : inALL (Cond.fieldLink (zY z).cls index (r9.2.1 kk).1 (r9.2.1 kk).2.1 (r9.2.1 kk).2.2.1) = true) (hv : pfit (tf kk) v = true) (hl : kk < fs.length) (k : AW κ Q (pc + 3) ls r (AH.set o (.inr (ci, fs.set kk v))) nc ns) : AW κ Q pc ls (v :: .ref o :: r) AH nc ns :=
  s_putF X (cxdec X hd) hF ha hr htf hfin hi hdc hpl (fun ad => pfit_ok hv) hl k
end OBJ
theorem ob4 : inALL (Cond.instanceMethod Lib.objectInit) = true := by decide +kernel
theorem ob6 : Cond.code Lib.objectInit ⟨#[0xb1]⟩ 1 none ∈ ALL := ALL_of (by decide +kernel)
def z0 : Nat → Int32 := fun _ => 0
theorem hkd0 : ∀ cA : Nat → ClassId, (TYS cA)[0]? = some (cA 0, FieldType.int) := fun _ => rfl
theorem hkd1 : ∀ cA : Nat → ClassId, (TYS cA)[1]? = some (cA 1, FieldType.long) := fun _ => rfl
theorem hkd2 : ∀ cA : Nat → ClassId, (TYS cA)[2]? = some (cA 2, FieldType.boolean) := fun _ => rfl
theorem hkd3 : ∀ cA : Nat → ClassId, (TYS cA)[3]? = some (cA 3, FieldType.byte) := fun _ => rfl
theorem c_X3_init : Sem z_X3_init 4 1 200 [.ref 0] [.inr (3, [.null, .int 0])] (PST (.inl none) (WO (z0, 0))) := by
  refine Sem.of zo_X3_init (by decide +kernel) (Nat.le_of_ble_eq_true rfl) fun κ X hE hR hN => ?_
  refine AW.eq (pc' := 0) (ls' := [some (.ref 0)]) (st' := []) (AH' := [.inr (3, [.null, .int 0])]) ?_ rfl rfl rfl rfl
  refine go_s 1 X (pc2 := 1) (st2 := [.ref 0]) rfl ?_
  refine r_obj X rfl (by decide +kernel) ob4 ob6 ⟨by rw [hR]; decide, by rw [hR]; decide⟩ ?_
  refine go_s 2 X (pc2 := 8) (st2 := [.int 200, .ref 0]) rfl ?_
  refine r_newa X 0 .int (a0 := (200, .inl z0)) (N := 200) rfl rfl hkd0 (by decide +kernel) (fun _ => rfl) (fun _ => rfl) (by decide) (by decide) (by decide) ⟨by simp [cloE, cloV, SB], rfl, rfl⟩ (by decide) (by rw [hR]; decide) (by rw [hR]; decide) ?_
  refine r_putF X rfl (kk := 0) (ci := 3) (by decide) rfl rfl rfl rfl rfl rfl (by decide +kernel) rfl (by decide) ?_
  refine AW.eq (pc' := 13) (ls' := [some (.ref 0)]) (st' := []) (AH' := [.inr (3, [.ref 1, .int 0]), .inl (0, 200, .inl z0)]) ?_ rfl rfl rfl rfl
  refine go 3 X (pc2 := 18) (ls2 := [some (.ref 0)]) (st2 := []) (AH2 := [.inr (3, [.ref 1, .int 0]), .inl (0, 200, .inl z0)]) rfl ?_
  exact r_vret X rfl rfl ⟨rfl, rfl⟩ (by decide) (by decide)
