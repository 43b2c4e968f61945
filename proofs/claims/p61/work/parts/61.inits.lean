/-! ===== 61: constructors of the class's parts ===== -/
section OBJ
variable {κ : KX} {z : MZ} {Q : State → Prop} {pc : Nat} {ls : List (Option Value)} {st r : List Value} {AH : List AC} {nc ns : Nat}
theorem r_obj (X : CX κ z) {index o : Nat} (hd : fetch (zC z) pc = some (.invokespecial index, 3)) (hl : inALL (Cond.methodLink (zY z).cls index Lib.objectInit) = true) (h4 : inALL (Cond.instanceMethod Lib.objectInit) = true) (h6 : Cond.code Lib.objectInit ⟨#[0xb1]⟩ 1 none ∈ ALL) (hR : 1 ≤ (κR κ).frames ∧ csum r + 12 ≤ (κR κ).locals) (k : AW κ Q (pc + 3) ls r AH nc ns) : AW κ Q pc ls (.ref o :: r) AH nc ns := by
  have hd := cxdec X hd
  obtain ⟨p, l, e, R, s, m, args, below, meth, c, D, cA, A, n0, ad0⟩ := κ
  obtain ⟨hx, hb, hml, hown, hts, hK, hG, hA, hlk, htr, hrt, hnm, hz, hf⟩ := X
  intro ad H locs lsA h1 h2 h3 hP hD hS hL
  refine W.objInit hx hb hown (hts _ (ALL_of hl)) (hts _ (ALL_of h4)) (hts _ h6) rfl hL.1 rfl hd hR.1 ?_ (k ad H locs lsA h1 h2 h3 hP hD hS hL)
  have e1 := csum_map ad r
  show 2 * 0 + ((r.map (cvV ad)).map fun v => v.category).sum + 12 ≤ R.locals
  rw [e1]
  have := hR.2
  show 2 * 0 + csum r + 12 ≤ R.locals
  have h9 : csum r + 12 ≤ R.locals := this
  omega
theorem r_putF (X : CX κ z) {index ci kk o : Nat} {fs : List Value} {v : Value} {r9 : vw_C} {tf : Nat → FieldType} (hd : fetch (zC z) pc = some (.putfield index, 3)) (hF : (index, ci, kk) ∈ zF z) (ha : AH[o]? = some (.inr (ci, fs))) (hr : vwCl[ci]? = some r9) (htf : vwTy[ci]? = some tf) (hfin : (r9.2.1 kk).2.2.2 = true) (hi : (zY z).name = "<init>") (hdc : (r9.2.1 kk).1 = (zY z).cls) (hpl : inALL (Cond.fieldLink (zY z).cls index (r9.2.1 kk).1 (r9.2.1 kk).2.1 (r9.2.1 kk).2.2.1) = true) (hv : pfit (tf kk) v = true) (hl : kk < fs.length) (k : AW κ Q (pc + 3) ls r (AH.set o (.inr (ci, fs.set kk v))) nc ns) : AW κ Q pc ls (v :: .ref o :: r) AH nc ns :=
  s_putF X (cxdec X hd) hF ha hr htf hfin hi hdc hpl (fun ad => pfit_ok hv) hl k
end OBJ
theorem ob4 : inALL (Cond.instanceMethod Lib.objectInit) = true := by decide +kernel
theorem ob6 : Cond.code Lib.objectInit ⟨#[0xb1]⟩ 1 none ∈ ALL := ALL_of (by decide +kernel)
def z0 : Nat → Int32 := fun _ => 0
theorem hkd0 : ∀ cA : Nat → ClassId, (TYS cA)[0]? = some (cA 0, FieldType.int) := fun _ => rfl
theorem hkd1 : ∀ cA : Nat → ClassId, (TYS cA)[1]? = some (cA 1, FieldType.long) := fun _ => rfl
theorem hkd2 : ∀ cA : Nat → ClassId, (TYS cA)[2]? = some (cA 2, FieldType.boolean) := fun _ => rfl
theorem hkd3 : ∀ cA : Nat → ClassId, (TYS cA)[3]? = some (cA 3, FieldType.byte) := fun _ => rfl
def z0L : Nat → Int64 := fun _ => 0
def cloC (n : Nat) : AC → Bool
  | .inr (_, fs) => fs.all (cloV n)
  | .inl (_, (_, .inr (.inr (.inr (.inr _))))) => false
  | .inl (_, (_, .inl _)) => true
  | .inl (_, (_, .inr (.inl _))) => true
  | .inl (_, (_, .inr (.inr (.inl _)))) => true
  | .inl (_, (_, .inr (.inr (.inr (.inl _))))) => true
theorem cloC_ok {n : Nat} {c : AC} (h : cloC n c = true) : cloE n c := by
  rcases c with ⟨k, m, a⟩ | ⟨ci, fs⟩
  · rcases a with g | g | g | g | g
    · trivial
    · trivial
    · trivial
    · trivial
    · cases h
  · exact h
theorem clo_all {n : Nat} {AH : List AC} (h : AH.all (cloC n) = true) : ∀ c ∈ AH, cloE n c := fun c hc => cloC_ok (List.all_eq_true.mp h c hc)
def hv0 : HV := (z0, z0, z0, z0, z0, 0, 0, z0)
def sv0 : SV := (hv0, 0, z0, z0, z0, z0, z0, z0, z0)
def nv0 : NV := (z0L, 0)
def ov0 : OV := (z0, 0)
def tv0 : TV := (z0, z0, z0, z0, z0, 0)
def rv0 : RV := (z0, 0, 0, 0, 0, 0, 0, 0, 0, -1)
def uv0 : UV := (nv0, nv0, z0)
theorem c_X3_init : Sem z_X3_init 1 1 200 [.ref 0] [.inr (3, [.null, .int 0])] (PST (.inl none) (WO ov0)) := by
  refine Sem.of zo_X3_init (by decide +kernel) (Nat.le_of_ble_eq_true rfl) fun κ X hE hR hN => ?_
  refine AW.eq (pc' := 0) (ls' := [some (.ref 0)]) (st' := []) (AH' := [.inr (3, [.null, .int 0])]) ?_ rfl rfl rfl rfl
  refine go_s 1 X (pc2 := 1) (st2 := [.ref 0]) rfl ?_
  refine r_obj X rfl (by decide +kernel) ob4 ob6 ⟨by rw [hR]; decide, by rw [hR]; decide⟩ ?_
  refine go_s 2 X (pc2 := 8) (st2 := [.int 200, .ref 0]) rfl ?_
  refine r_newa X 0 .int (a0 := (200, .inl z0)) (N := 200) rfl rfl hkd0 (by decide +kernel) (fun _ => rfl) (fun _ => rfl) (by decide) (by decide) (by decide) ⟨clo_all rfl, rfl, rfl⟩ (by decide) (by rw [hR]; decide) (by rw [hR]; decide) ?_
  refine r_putF X rfl (kk := 0) (ci := 3) (by decide) rfl rfl rfl rfl rfl rfl (by decide +kernel) rfl (by decide) ?_
  refine AW.eq (pc' := 13) (ls' := [some (.ref 0)]) (st' := []) (AH' := [.inr (3, [.ref 1, .int 0]), .inl (0, 200, .inl z0)]) ?_ rfl rfl rfl rfl
  refine go_s 2 X (pc2 := 15) (st2 := [.int 0, .ref 0]) rfl ?_
  refine go 1 X (pc2 := 18) (ls2 := [some (.ref 0)]) (st2 := []) (AH2 := [.inr (3, [.ref 1, .int 0]), .inl (0, 200, .inl z0)]) rfl ?_
  exact r_vret X rfl rfl ⟨rfl, rfl⟩ (by decide) (by decide)
theorem c_X4_init : Sem z_X4_init 1 1 600 [.ref 0] [.inr (4, [.null, .int 0, .int 0, .int 0, .int 0, .int 0, .long 0, .int 0, .int 0, .int 0])] (PST (.inl none) (WR rv0)) := by
  refine Sem.of zo_X4_init (by decide +kernel) (Nat.le_of_ble_eq_true rfl) fun κ X hE hR hN => ?_
  refine AW.eq (pc' := 0) (ls' := [some (.ref 0)]) (st' := []) (AH' := [.inr (4, [.null, .int 0, .int 0, .int 0, .int 0, .int 0, .long 0, .int 0, .int 0, .int 0])]) ?_ rfl rfl rfl rfl
  refine go_s 1 X (pc2 := 1) (st2 := [.ref 0]) rfl ?_
  refine r_obj X rfl (by decide +kernel) ob4 ob6 ⟨by rw [hR]; decide, by rw [hR]; decide⟩ ?_
  refine go_s 2 X (pc2 := 8) (st2 := [.int 600, .ref 0]) rfl ?_
  refine r_newa X 0 .int (a0 := (600, .inl z0)) (N := 600) rfl rfl hkd0 (by decide +kernel) (fun _ => rfl) (fun _ => rfl) (by decide) (by decide) (by decide) ⟨clo_all rfl, rfl, rfl⟩ (by decide) (by rw [hR]; decide) (by rw [hR]; decide) ?_
  refine r_putF X rfl (kk := 0) (ci := 4) (by decide) rfl rfl rfl rfl rfl rfl (by decide +kernel) rfl (by decide) ?_
  refine AW.eq (pc' := 13) (ls' := [some (.ref 0)]) (st' := []) (AH' := [.inr (4, [.ref 1, .int 0, .int 0, .int 0, .int 0, .int 0, .long 0, .int 0, .int 0, .int 0]), .inl (0, 600, .inl z0)]) ?_ rfl rfl rfl rfl
  refine go_s 2 X (pc2 := 15) (st2 := [.int 0, .ref 0]) rfl ?_
  refine go 1 X (pc2 := 18) (ls2 := [some (.ref 0)]) (st2 := []) (AH2 := [.inr (4, [.ref 1, .int 0, .int 0, .int 0, .int 0, .int 0, .long 0, .int 0, .int 0, .int 0]), .inl (0, 600, .inl z0)]) rfl ?_
  refine go_s 2 X (pc2 := 20) (st2 := [.int 0, .ref 0]) rfl ?_
  refine go 1 X (pc2 := 23) (ls2 := [some (.ref 0)]) (st2 := []) (AH2 := [.inr (4, [.ref 1, .int 0, .int 0, .int 0, .int 0, .int 0, .long 0, .int 0, .int 0, .int 0]), .inl (0, 600, .inl z0)]) rfl ?_
  refine go_s 2 X (pc2 := 25) (st2 := [.int 0, .ref 0]) rfl ?_
  refine go 1 X (pc2 := 28) (ls2 := [some (.ref 0)]) (st2 := []) (AH2 := [.inr (4, [.ref 1, .int 0, .int 0, .int 0, .int 0, .int 0, .long 0, .int 0, .int 0, .int 0]), .inl (0, 600, .inl z0)]) rfl ?_
  refine go_s 2 X (pc2 := 30) (st2 := [.int 0, .ref 0]) rfl ?_
  refine go 1 X (pc2 := 33) (ls2 := [some (.ref 0)]) (st2 := []) (AH2 := [.inr (4, [.ref 1, .int 0, .int 0, .int 0, .int 0, .int 0, .long 0, .int 0, .int 0, .int 0]), .inl (0, 600, .inl z0)]) rfl ?_
  refine go_s 2 X (pc2 := 35) (st2 := [.int 0, .ref 0]) rfl ?_
  refine go 1 X (pc2 := 38) (ls2 := [some (.ref 0)]) (st2 := []) (AH2 := [.inr (4, [.ref 1, .int 0, .int 0, .int 0, .int 0, .int 0, .long 0, .int 0, .int 0, .int 0]), .inl (0, 600, .inl z0)]) rfl ?_
  refine go_s 2 X (pc2 := 40) (st2 := [.long 0, .ref 0]) rfl ?_
  refine go 1 X (pc2 := 43) (ls2 := [some (.ref 0)]) (st2 := []) (AH2 := [.inr (4, [.ref 1, .int 0, .int 0, .int 0, .int 0, .int 0, .long 0, .int 0, .int 0, .int 0]), .inl (0, 600, .inl z0)]) rfl ?_
  refine go_s 2 X (pc2 := 45) (st2 := [.int 0, .ref 0]) rfl ?_
  refine go 1 X (pc2 := 48) (ls2 := [some (.ref 0)]) (st2 := []) (AH2 := [.inr (4, [.ref 1, .int 0, .int 0, .int 0, .int 0, .int 0, .long 0, .int 0, .int 0, .int 0]), .inl (0, 600, .inl z0)]) rfl ?_
  refine go_s 2 X (pc2 := 50) (st2 := [.int 0, .ref 0]) rfl ?_
  refine go 1 X (pc2 := 53) (ls2 := [some (.ref 0)]) (st2 := []) (AH2 := [.inr (4, [.ref 1, .int 0, .int 0, .int 0, .int 0, .int 0, .long 0, .int 0, .int 0, .int 0]), .inl (0, 600, .inl z0)]) rfl ?_
  refine go_s 2 X (pc2 := 55) (st2 := [.int (-1), .ref 0]) rfl ?_
  refine go 1 X (pc2 := 58) (ls2 := [some (.ref 0)]) (st2 := []) (AH2 := [.inr (4, [.ref 1, .int 0, .int 0, .int 0, .int 0, .int 0, .long 0, .int 0, .int 0, .int (-1)]), .inl (0, 600, .inl z0)]) rfl ?_
  exact r_vret X rfl rfl ⟨rfl, rfl⟩ (by decide) (by decide)
theorem c_X5_init : Sem z_X5_init 1 5 150 [.ref 0] [.inr (5, [.null, .null, .null, .null, .null, .int 0])] (PST (.inl none) (WT tv0)) := by
  refine Sem.of zo_X5_init (by decide +kernel) (Nat.le_of_ble_eq_true rfl) fun κ X hE hR hN => ?_
  refine AW.eq (pc' := 0) (ls' := [some (.ref 0)]) (st' := []) (AH' := [.inr (5, [.null, .null, .null, .null, .null, .int 0])]) ?_ rfl rfl rfl rfl
  refine go_s 1 X (pc2 := 1) (st2 := [.ref 0]) rfl ?_
  refine r_obj X rfl (by decide +kernel) ob4 ob6 ⟨by rw [hR]; decide, by rw [hR]; decide⟩ ?_
  refine go_s 2 X (pc2 := 7) (st2 := [.int 30, .ref 0]) rfl ?_
  refine r_newa X 0 .int (a0 := (30, .inl z0)) (N := 30) rfl rfl hkd0 (by decide +kernel) (fun _ => rfl) (fun _ => rfl) (by decide) (by decide) (by decide) ⟨clo_all rfl, rfl, rfl⟩ (by decide) (by rw [hR]; decide) (by rw [hR]; decide) ?_
  refine r_putF X rfl (kk := 0) (ci := 5) (by decide) rfl rfl rfl rfl rfl rfl (by decide +kernel) rfl (by decide) ?_
  refine AW.eq (pc' := 12) (ls' := [some (.ref 0)]) (st' := []) (AH' := [.inr (5, [.ref 1, .null, .null, .null, .null, .int 0]), .inl (0, 30, .inl z0)]) ?_ rfl rfl rfl rfl
  refine go_s 2 X (pc2 := 15) (st2 := [.int 30, .ref 0]) rfl ?_
  refine r_newa X 0 .int (a0 := (30, .inl z0)) (N := 30) rfl rfl hkd0 (by decide +kernel) (fun _ => rfl) (fun _ => rfl) (by decide) (by decide) (by decide) ⟨clo_all rfl, rfl, rfl⟩ (by decide) (by rw [hR]; decide) (by rw [hR]; decide) ?_
  refine r_putF X rfl (kk := 1) (ci := 5) (by decide) rfl rfl rfl rfl rfl rfl (by decide +kernel) rfl (by decide) ?_
  refine AW.eq (pc' := 20) (ls' := [some (.ref 0)]) (st' := []) (AH' := [.inr (5, [.ref 1, .ref 2, .null, .null, .null, .int 0]), .inl (0, 30, .inl z0), .inl (0, 30, .inl z0)]) ?_ rfl rfl rfl rfl
  refine go_s 2 X (pc2 := 23) (st2 := [.int 30, .ref 0]) rfl ?_
  refine r_newa X 0 .int (a0 := (30, .inl z0)) (N := 30) rfl rfl hkd0 (by decide +kernel) (fun _ => rfl) (fun _ => rfl) (by decide) (by decide) (by decide) ⟨clo_all rfl, rfl, rfl⟩ (by decide) (by rw [hR]; decide) (by rw [hR]; decide) ?_
  refine r_putF X rfl (kk := 2) (ci := 5) (by decide) rfl rfl rfl rfl rfl rfl (by decide +kernel) rfl (by decide) ?_
  refine AW.eq (pc' := 28) (ls' := [some (.ref 0)]) (st' := []) (AH' := [.inr (5, [.ref 1, .ref 2, .ref 3, .null, .null, .int 0]), .inl (0, 30, .inl z0), .inl (0, 30, .inl z0), .inl (0, 30, .inl z0)]) ?_ rfl rfl rfl rfl
  refine go_s 2 X (pc2 := 31) (st2 := [.int 30, .ref 0]) rfl ?_
  refine r_newa X 0 .int (a0 := (30, .inl z0)) (N := 30) rfl rfl hkd0 (by decide +kernel) (fun _ => rfl) (fun _ => rfl) (by decide) (by decide) (by decide) ⟨clo_all rfl, rfl, rfl⟩ (by decide) (by rw [hR]; decide) (by rw [hR]; decide) ?_
  refine r_putF X rfl (kk := 3) (ci := 5) (by decide) rfl rfl rfl rfl rfl rfl (by decide +kernel) rfl (by decide) ?_
  refine AW.eq (pc' := 36) (ls' := [some (.ref 0)]) (st' := []) (AH' := [.inr (5, [.ref 1, .ref 2, .ref 3, .ref 4, .null, .int 0]), .inl (0, 30, .inl z0), .inl (0, 30, .inl z0), .inl (0, 30, .inl z0), .inl (0, 30, .inl z0)]) ?_ rfl rfl rfl rfl
  refine go_s 2 X (pc2 := 39) (st2 := [.int 30, .ref 0]) rfl ?_
  refine r_newa X 0 .int (a0 := (30, .inl z0)) (N := 30) rfl rfl hkd0 (by decide +kernel) (fun _ => rfl) (fun _ => rfl) (by decide) (by decide) (by decide) ⟨clo_all rfl, rfl, rfl⟩ (by decide) (by rw [hR]; decide) (by rw [hR]; decide) ?_
  refine r_putF X rfl (kk := 4) (ci := 5) (by decide) rfl rfl rfl rfl rfl rfl (by decide +kernel) rfl (by decide) ?_
  refine AW.eq (pc' := 44) (ls' := [some (.ref 0)]) (st' := []) (AH' := [.inr (5, [.ref 1, .ref 2, .ref 3, .ref 4, .ref 5, .int 0]), .inl (0, 30, .inl z0), .inl (0, 30, .inl z0), .inl (0, 30, .inl z0), .inl (0, 30, .inl z0), .inl (0, 30, .inl z0)]) ?_ rfl rfl rfl rfl
  refine go_s 2 X (pc2 := 46) (st2 := [.int 0, .ref 0]) rfl ?_
  refine go 1 X (pc2 := 49) (ls2 := [some (.ref 0)]) (st2 := []) (AH2 := [.inr (5, [.ref 1, .ref 2, .ref 3, .ref 4, .ref 5, .int 0]), .inl (0, 30, .inl z0), .inl (0, 30, .inl z0), .inl (0, 30, .inl z0), .inl (0, 30, .inl z0), .inl (0, 30, .inl z0)]) rfl ?_
  exact r_vret X rfl rfl ⟨rfl, rfl⟩ (by decide) (by decide)
theorem c_X2_init : Sem z_X2_init 1 1 8 [.ref 0] [.inr (2, [.null, .int 0])] (PST (.inl none) (WN nv0)) := by
  refine Sem.of zo_X2_init (by decide +kernel) (Nat.le_of_ble_eq_true rfl) fun κ X hE hR hN => ?_
  refine AW.eq (pc' := 0) (ls' := [some (.ref 0)]) (st' := []) (AH' := [.inr (2, [.null, .int 0])]) ?_ rfl rfl rfl rfl
  refine go_s 1 X (pc2 := 1) (st2 := [.ref 0]) rfl ?_
  refine r_obj X rfl (by decide +kernel) ob4 ob6 ⟨by rw [hR]; decide, by rw [hR]; decide⟩ ?_
  refine go_s 2 X (pc2 := 7) (st2 := [.int 8, .ref 0]) rfl ?_
  refine r_newa X 1 .long (a0 := (8, .inr (.inl z0L))) (N := 8) rfl rfl hkd1 (by decide +kernel) (fun _ => rfl) (fun _ => rfl) (by decide) (by decide) (by decide) ⟨clo_all rfl, rfl, rfl⟩ (by decide) (by rw [hR]; decide) (by rw [hR]; decide) ?_
  refine r_putF X rfl (kk := 0) (ci := 2) (by decide) rfl rfl rfl rfl rfl rfl (by decide +kernel) rfl (by decide) ?_
  refine AW.eq (pc' := 12) (ls' := [some (.ref 0)]) (st' := []) (AH' := [.inr (2, [.ref 1, .int 0]), .inl (1, 8, .inr (.inl z0L))]) ?_ rfl rfl rfl rfl
  refine go_s 2 X (pc2 := 14) (st2 := [.int 0, .ref 0]) rfl ?_
  refine go 1 X (pc2 := 17) (ls2 := [some (.ref 0)]) (st2 := []) (AH2 := [.inr (2, [.ref 1, .int 0]), .inl (1, 8, .inr (.inl z0L))]) rfl ?_
  exact r_vret X rfl rfl ⟨rfl, rfl⟩ (by decide) (by decide)
theorem c_X0_init : Sem z_X0_init 1 6 240 [.ref 0] [.inr (0, [.null, .null, .null, .null, .null, .int 0, .int 0, .null])] (PST (.inl none) (WH hv0)) := by
  refine Sem.of zo_X0_init (by decide +kernel) (Nat.le_of_ble_eq_true rfl) fun κ X hE hR hN => ?_
  refine AW.eq (pc' := 0) (ls' := [some (.ref 0)]) (st' := []) (AH' := [.inr (0, [.null, .null, .null, .null, .null, .int 0, .int 0, .null])]) ?_ rfl rfl rfl rfl
  refine go_s 1 X (pc2 := 1) (st2 := [.ref 0]) rfl ?_
  refine r_obj X rfl (by decide +kernel) ob4 ob6 ⟨by rw [hR]; decide, by rw [hR]; decide⟩ ?_
  refine go_s 2 X (pc2 := 7) (st2 := [.int 40, .ref 0]) rfl ?_
  refine r_newa X 0 .int (a0 := (40, .inl z0)) (N := 40) rfl rfl hkd0 (by decide +kernel) (fun _ => rfl) (fun _ => rfl) (by decide) (by decide) (by decide) ⟨clo_all rfl, rfl, rfl⟩ (by decide) (by rw [hR]; decide) (by rw [hR]; decide) ?_
  refine r_putF X rfl (kk := 0) (ci := 0) (by decide) rfl rfl rfl rfl rfl rfl (by decide +kernel) rfl (by decide) ?_
  refine AW.eq (pc' := 12) (ls' := [some (.ref 0)]) (st' := []) (AH' := [.inr (0, [.ref 1, .null, .null, .null, .null, .int 0, .int 0, .null]), .inl (0, 40, .inl z0)]) ?_ rfl rfl rfl rfl
  refine go_s 2 X (pc2 := 15) (st2 := [.int 40, .ref 0]) rfl ?_
  refine r_newa X 0 .int (a0 := (40, .inl z0)) (N := 40) rfl rfl hkd0 (by decide +kernel) (fun _ => rfl) (fun _ => rfl) (by decide) (by decide) (by decide) ⟨clo_all rfl, rfl, rfl⟩ (by decide) (by rw [hR]; decide) (by rw [hR]; decide) ?_
  refine r_putF X rfl (kk := 1) (ci := 0) (by decide) rfl rfl rfl rfl rfl rfl (by decide +kernel) rfl (by decide) ?_
  refine AW.eq (pc' := 20) (ls' := [some (.ref 0)]) (st' := []) (AH' := [.inr (0, [.ref 1, .ref 2, .null, .null, .null, .int 0, .int 0, .null]), .inl (0, 40, .inl z0), .inl (0, 40, .inl z0)]) ?_ rfl rfl rfl rfl
  refine go_s 2 X (pc2 := 23) (st2 := [.int 40, .ref 0]) rfl ?_
  refine r_newa X 0 .int (a0 := (40, .inl z0)) (N := 40) rfl rfl hkd0 (by decide +kernel) (fun _ => rfl) (fun _ => rfl) (by decide) (by decide) (by decide) ⟨clo_all rfl, rfl, rfl⟩ (by decide) (by rw [hR]; decide) (by rw [hR]; decide) ?_
  refine r_putF X rfl (kk := 2) (ci := 0) (by decide) rfl rfl rfl rfl rfl rfl (by decide +kernel) rfl (by decide) ?_
  refine AW.eq (pc' := 28) (ls' := [some (.ref 0)]) (st' := []) (AH' := [.inr (0, [.ref 1, .ref 2, .ref 3, .null, .null, .int 0, .int 0, .null]), .inl (0, 40, .inl z0), .inl (0, 40, .inl z0), .inl (0, 40, .inl z0)]) ?_ rfl rfl rfl rfl
  refine go_s 2 X (pc2 := 31) (st2 := [.int 40, .ref 0]) rfl ?_
  refine r_newa X 0 .int (a0 := (40, .inl z0)) (N := 40) rfl rfl hkd0 (by decide +kernel) (fun _ => rfl) (fun _ => rfl) (by decide) (by decide) (by decide) ⟨clo_all rfl, rfl, rfl⟩ (by decide) (by rw [hR]; decide) (by rw [hR]; decide) ?_
  refine r_putF X rfl (kk := 3) (ci := 0) (by decide) rfl rfl rfl rfl rfl rfl (by decide +kernel) rfl (by decide) ?_
  refine AW.eq (pc' := 36) (ls' := [some (.ref 0)]) (st' := []) (AH' := [.inr (0, [.ref 1, .ref 2, .ref 3, .ref 4, .null, .int 0, .int 0, .null]), .inl (0, 40, .inl z0), .inl (0, 40, .inl z0), .inl (0, 40, .inl z0), .inl (0, 40, .inl z0)]) ?_ rfl rfl rfl rfl
  refine go_s 2 X (pc2 := 39) (st2 := [.int 40, .ref 0]) rfl ?_
  refine r_newa X 0 .int (a0 := (40, .inl z0)) (N := 40) rfl rfl hkd0 (by decide +kernel) (fun _ => rfl) (fun _ => rfl) (by decide) (by decide) (by decide) ⟨clo_all rfl, rfl, rfl⟩ (by decide) (by rw [hR]; decide) (by rw [hR]; decide) ?_
  refine r_putF X rfl (kk := 4) (ci := 0) (by decide) rfl rfl rfl rfl rfl rfl (by decide +kernel) rfl (by decide) ?_
  refine AW.eq (pc' := 44) (ls' := [some (.ref 0)]) (st' := []) (AH' := [.inr (0, [.ref 1, .ref 2, .ref 3, .ref 4, .ref 5, .int 0, .int 0, .null]), .inl (0, 40, .inl z0), .inl (0, 40, .inl z0), .inl (0, 40, .inl z0), .inl (0, 40, .inl z0), .inl (0, 40, .inl z0)]) ?_ rfl rfl rfl rfl
  refine go_s 2 X (pc2 := 46) (st2 := [.int 0, .ref 0]) rfl ?_
  refine go 1 X (pc2 := 49) (ls2 := [some (.ref 0)]) (st2 := []) (AH2 := [.inr (0, [.ref 1, .ref 2, .ref 3, .ref 4, .ref 5, .int 0, .int 0, .null]), .inl (0, 40, .inl z0), .inl (0, 40, .inl z0), .inl (0, 40, .inl z0), .inl (0, 40, .inl z0), .inl (0, 40, .inl z0)]) rfl ?_
  refine go_s 2 X (pc2 := 51) (st2 := [.int 0, .ref 0]) rfl ?_
  refine go 1 X (pc2 := 54) (ls2 := [some (.ref 0)]) (st2 := []) (AH2 := [.inr (0, [.ref 1, .ref 2, .ref 3, .ref 4, .ref 5, .int 0, .int 0, .null]), .inl (0, 40, .inl z0), .inl (0, 40, .inl z0), .inl (0, 40, .inl z0), .inl (0, 40, .inl z0), .inl (0, 40, .inl z0)]) rfl ?_
  refine go_s 2 X (pc2 := 57) (st2 := [.int 40, .ref 0]) rfl ?_
  refine r_newa X 0 .int (a0 := (40, .inl z0)) (N := 40) rfl rfl hkd0 (by decide +kernel) (fun _ => rfl) (fun _ => rfl) (by decide) (by decide) (by decide) ⟨clo_all rfl, rfl, rfl⟩ (by decide) (by rw [hR]; decide) (by rw [hR]; decide) ?_
  refine r_putF X rfl (kk := 7) (ci := 0) (by decide) rfl rfl rfl rfl rfl rfl (by decide +kernel) rfl (by decide) ?_
  refine AW.eq (pc' := 62) (ls' := [some (.ref 0)]) (st' := []) (AH' := [.inr (0, [.ref 1, .ref 2, .ref 3, .ref 4, .ref 5, .int 0, .int 0, .ref 6]), .inl (0, 40, .inl z0), .inl (0, 40, .inl z0), .inl (0, 40, .inl z0), .inl (0, 40, .inl z0), .inl (0, 40, .inl z0), .inl (0, 40, .inl z0)]) ?_ rfl rfl rfl rfl
  exact r_vret X rfl rfl ⟨rfl, rfl⟩ (by decide) (by decide)
theorem c_X6_init : Sem z_X6_init 2 5 26 [.ref 0] [.inr (6, [.null, .null, .null])] (PST (.inl none) (WU uv0)) := by
  refine Sem.of zo_X6_init (by decide +kernel) (Nat.le_of_ble_eq_true rfl) fun κ X hE hR hN => ?_
  refine AW.eq (pc' := 0) (ls' := [some (.ref 0)]) (st' := []) (AH' := [.inr (6, [.null, .null, .null])]) ?_ rfl rfl rfl rfl
  refine go_s 1 X (pc2 := 1) (st2 := [.ref 0]) rfl ?_
  refine r_obj X rfl (by decide +kernel) ob4 ob6 ⟨by rw [hR]; decide, by rw [hR]; decide⟩ ?_
  refine go_s 1 X (pc2 := 5) (st2 := [.ref 0]) rfl ?_
  refine r_new X 2 (fs := [.null, .int 0]) rfl rfl rfl (by decide +kernel) (fun j hj => by match j, hj with | 0, _ => rfl | 1, _ => rfl | n + 2, h => exact absurd (show n + 2 < 2 from h) (by omega)) rfl ⟨clo_all rfl, rfl, rfl⟩ (by decide) (by rw [hR]; decide) (by rw [hR]; decide) ?_
  refine AW.eq (pc' := 8) (ls' := [some (.ref 0)]) (st' := [.ref 1, .ref 0]) (AH' := [.inr (6, [.null, .null, .null]), .inr (2, [.null, .int 0])]) ?_ rfl rfl rfl rfl
  refine go_s 1 X (pc2 := 9) (st2 := [.ref 1, .ref 1, .ref 0]) rfl ?_
  refine r_init X [1] [] (o := 0) (k9 := 1) c_X2_init ⟨rfl, rfl⟩ rfl k_X2_init l_X6_11 rfl (fit_of hR (by decide) (by decide) (by decide) (by decide)) (by decide) (by decide) rfl (fun _ h => by cases h) (by decide) (by decide) ⟨clo_all rfl, rfl, rfl⟩ (clo_all rfl) (clo_all rfl) ?_
  refine AW.eq (pc' := 12) (ls' := [some (.ref 0)]) (st' := [.ref 1, .ref 0]) (AH' := [.inr (6, [.null, .null, .null]), .inr (2, [.ref 2, .int 0]), .inl (1, 8, .inr (.inl z0L))]) ?_ rfl rfl rfl rfl
  refine r_putF X rfl (kk := 0) (ci := 6) (by decide) rfl rfl rfl rfl rfl rfl (by decide +kernel) rfl (by decide) ?_
  refine AW.eq (pc' := 15) (ls' := [some (.ref 0)]) (st' := []) (AH' := [.inr (6, [.ref 1, .null, .null]), .inr (2, [.ref 2, .int 0]), .inl (1, 8, .inr (.inl z0L))]) ?_ rfl rfl rfl rfl
  refine go_s 1 X (pc2 := 16) (st2 := [.ref 0]) rfl ?_
  refine r_new X 2 (fs := [.null, .int 0]) rfl rfl rfl (by decide +kernel) (fun j hj => by match j, hj with | 0, _ => rfl | 1, _ => rfl | n + 2, h => exact absurd (show n + 2 < 2 from h) (by omega)) rfl ⟨clo_all rfl, rfl, rfl⟩ (by decide) (by rw [hR]; decide) (by rw [hR]; decide) ?_
  refine AW.eq (pc' := 19) (ls' := [some (.ref 0)]) (st' := [.ref 3, .ref 0]) (AH' := [.inr (6, [.ref 1, .null, .null]), .inr (2, [.ref 2, .int 0]), .inl (1, 8, .inr (.inl z0L)), .inr (2, [.null, .int 0])]) ?_ rfl rfl rfl rfl
  refine go_s 1 X (pc2 := 20) (st2 := [.ref 3, .ref 3, .ref 0]) rfl ?_
  refine r_init X [3] [] (o := 0) (k9 := 1) c_X2_init ⟨rfl, rfl⟩ rfl k_X2_init l_X6_11 rfl (fit_of hR (by decide) (by decide) (by decide) (by decide)) (by decide) (by decide) rfl (fun _ h => by cases h) (by decide) (by decide) ⟨clo_all rfl, rfl, rfl⟩ (clo_all rfl) (clo_all rfl) ?_
  refine AW.eq (pc' := 23) (ls' := [some (.ref 0)]) (st' := [.ref 3, .ref 0]) (AH' := [.inr (6, [.ref 1, .null, .null]), .inr (2, [.ref 2, .int 0]), .inl (1, 8, .inr (.inl z0L)), .inr (2, [.ref 4, .int 0]), .inl (1, 8, .inr (.inl z0L))]) ?_ rfl rfl rfl rfl
  refine r_putF X rfl (kk := 1) (ci := 6) (by decide) rfl rfl rfl rfl rfl rfl (by decide +kernel) rfl (by decide) ?_
  refine AW.eq (pc' := 26) (ls' := [some (.ref 0)]) (st' := []) (AH' := [.inr (6, [.ref 1, .ref 3, .null]), .inr (2, [.ref 2, .int 0]), .inl (1, 8, .inr (.inl z0L)), .inr (2, [.ref 4, .int 0]), .inl (1, 8, .inr (.inl z0L))]) ?_ rfl rfl rfl rfl
  refine go_s 2 X (pc2 := 29) (st2 := [.int 6, .ref 0]) rfl ?_
  refine r_newa X 0 .int (a0 := (6, .inl z0)) (N := 6) rfl rfl hkd0 (by decide +kernel) (fun _ => rfl) (fun _ => rfl) (by decide) (by decide) (by decide) ⟨clo_all rfl, rfl, rfl⟩ (by decide) (by rw [hR]; decide) (by rw [hR]; decide) ?_
  refine r_putF X rfl (kk := 2) (ci := 6) (by decide) rfl rfl rfl rfl rfl rfl (by decide +kernel) rfl (by decide) ?_
  refine AW.eq (pc' := 34) (ls' := [some (.ref 0)]) (st' := []) (AH' := [.inr (6, [.ref 1, .ref 3, .ref 5]), .inr (2, [.ref 2, .int 0]), .inl (1, 8, .inr (.inl z0L)), .inr (2, [.ref 4, .int 0]), .inl (1, 8, .inr (.inl z0L)), .inl (0, 6, .inl z0)]) ?_ rfl rfl rfl rfl
  exact r_vret X rfl rfl ⟨rfl, rfl⟩ (by decide) (by decide)
theorem c_X7_init : Sem z_X7_init 2 14 426 [.ref 0] [.inr (7, [.null, .int 0, .null, .null, .null, .null, .null, .null, .null])] (PST (.inl none) (WS sv0)) := by
  refine Sem.of zo_X7_init (by decide +kernel) (Nat.le_of_ble_eq_true rfl) fun κ X hE hR hN => ?_
  refine AW.eq (pc' := 0) (ls' := [some (.ref 0)]) (st' := []) (AH' := [.inr (7, [.null, .int 0, .null, .null, .null, .null, .null, .null, .null])]) ?_ rfl rfl rfl rfl
  refine go_s 1 X (pc2 := 1) (st2 := [.ref 0]) rfl ?_
  refine r_obj X rfl (by decide +kernel) ob4 ob6 ⟨by rw [hR]; decide, by rw [hR]; decide⟩ ?_
  refine go_s 1 X (pc2 := 5) (st2 := [.ref 0]) rfl ?_
  refine r_new X 0 (fs := [.null, .null, .null, .null, .null, .int 0, .int 0, .null]) rfl rfl rfl (by decide +kernel) (fun j hj => by match j, hj with | 0, _ => rfl | 1, _ => rfl | 2, _ => rfl | 3, _ => rfl | 4, _ => rfl | 5, _ => rfl | 6, _ => rfl | 7, _ => rfl | n + 8, h => exact absurd (show n + 8 < 8 from h) (by omega)) rfl ⟨clo_all rfl, rfl, rfl⟩ (by decide) (by rw [hR]; decide) (by rw [hR]; decide) ?_
  refine AW.eq (pc' := 8) (ls' := [some (.ref 0)]) (st' := [.ref 1, .ref 0]) (AH' := [.inr (7, [.null, .int 0, .null, .null, .null, .null, .null, .null, .null]), .inr (0, [.null, .null, .null, .null, .null, .int 0, .int 0, .null])]) ?_ rfl rfl rfl rfl
  refine go_s 1 X (pc2 := 9) (st2 := [.ref 1, .ref 1, .ref 0]) rfl ?_
  refine r_init X [1] [] (o := 0) (k9 := 6) c_X0_init ⟨rfl, rfl⟩ rfl k_X0_init l_X7_11 rfl (fit_of hR (by decide) (by decide) (by decide) (by decide)) (by decide) (by decide) rfl (fun _ h => by cases h) (by decide) (by decide) ⟨clo_all rfl, rfl, rfl⟩ (clo_all rfl) (clo_all rfl) ?_
  refine AW.eq (pc' := 12) (ls' := [some (.ref 0)]) (st' := [.ref 1, .ref 0]) (AH' := [.inr (7, [.null, .int 0, .null, .null, .null, .null, .null, .null, .null]), .inr (0, [.ref 2, .ref 3, .ref 4, .ref 5, .ref 6, .int 0, .int 0, .ref 7]), .inl (0, 40, .inl z0), .inl (0, 40, .inl z0), .inl (0, 40, .inl z0), .inl (0, 40, .inl z0), .inl (0, 40, .inl z0), .inl (0, 40, .inl z0)]) ?_ rfl rfl rfl rfl
  refine r_putF X rfl (kk := 0) (ci := 7) (by decide) rfl rfl rfl rfl rfl rfl (by decide +kernel) rfl (by decide) ?_
  refine AW.eq (pc' := 15) (ls' := [some (.ref 0)]) (st' := []) (AH' := [.inr (7, [.ref 1, .int 0, .null, .null, .null, .null, .null, .null, .null]), .inr (0, [.ref 2, .ref 3, .ref 4, .ref 5, .ref 6, .int 0, .int 0, .ref 7]), .inl (0, 40, .inl z0), .inl (0, 40, .inl z0), .inl (0, 40, .inl z0), .inl (0, 40, .inl z0), .inl (0, 40, .inl z0), .inl (0, 40, .inl z0)]) ?_ rfl rfl rfl rfl
  refine go_s 2 X (pc2 := 17) (st2 := [.int 0, .ref 0]) rfl ?_
  refine go 1 X (pc2 := 20) (ls2 := [some (.ref 0)]) (st2 := []) (AH2 := [.inr (7, [.ref 1, .int 0, .null, .null, .null, .null, .null, .null, .null]), .inr (0, [.ref 2, .ref 3, .ref 4, .ref 5, .ref 6, .int 0, .int 0, .ref 7]), .inl (0, 40, .inl z0), .inl (0, 40, .inl z0), .inl (0, 40, .inl z0), .inl (0, 40, .inl z0), .inl (0, 40, .inl z0), .inl (0, 40, .inl z0)]) rfl ?_
  refine go_s 2 X (pc2 := 23) (st2 := [.int 40, .ref 0]) rfl ?_
  refine r_newa X 0 .int (a0 := (40, .inl z0)) (N := 40) rfl rfl hkd0 (by decide +kernel) (fun _ => rfl) (fun _ => rfl) (by decide) (by decide) (by decide) ⟨clo_all rfl, rfl, rfl⟩ (by decide) (by rw [hR]; decide) (by rw [hR]; decide) ?_
  refine r_putF X rfl (kk := 2) (ci := 7) (by decide) rfl rfl rfl rfl rfl rfl (by decide +kernel) rfl (by decide) ?_
  refine AW.eq (pc' := 28) (ls' := [some (.ref 0)]) (st' := []) (AH' := [.inr (7, [.ref 1, .int 0, .ref 8, .null, .null, .null, .null, .null, .null]), .inr (0, [.ref 2, .ref 3, .ref 4, .ref 5, .ref 6, .int 0, .int 0, .ref 7]), .inl (0, 40, .inl z0), .inl (0, 40, .inl z0), .inl (0, 40, .inl z0), .inl (0, 40, .inl z0), .inl (0, 40, .inl z0), .inl (0, 40, .inl z0), .inl (0, 40, .inl z0)]) ?_ rfl rfl rfl rfl
  refine go_s 2 X (pc2 := 31) (st2 := [.int 40, .ref 0]) rfl ?_
  refine r_newa X 0 .int (a0 := (40, .inl z0)) (N := 40) rfl rfl hkd0 (by decide +kernel) (fun _ => rfl) (fun _ => rfl) (by decide) (by decide) (by decide) ⟨clo_all rfl, rfl, rfl⟩ (by decide) (by rw [hR]; decide) (by rw [hR]; decide) ?_
  refine r_putF X rfl (kk := 3) (ci := 7) (by decide) rfl rfl rfl rfl rfl rfl (by decide +kernel) rfl (by decide) ?_
  refine AW.eq (pc' := 36) (ls' := [some (.ref 0)]) (st' := []) (AH' := [.inr (7, [.ref 1, .int 0, .ref 8, .ref 9, .null, .null, .null, .null, .null]), .inr (0, [.ref 2, .ref 3, .ref 4, .ref 5, .ref 6, .int 0, .int 0, .ref 7]), .inl (0, 40, .inl z0), .inl (0, 40, .inl z0), .inl (0, 40, .inl z0), .inl (0, 40, .inl z0), .inl (0, 40, .inl z0), .inl (0, 40, .inl z0), .inl (0, 40, .inl z0), .inl (0, 40, .inl z0)]) ?_ rfl rfl rfl rfl
  refine go_s 2 X (pc2 := 39) (st2 := [.int 40, .ref 0]) rfl ?_
  refine r_newa X 0 .int (a0 := (40, .inl z0)) (N := 40) rfl rfl hkd0 (by decide +kernel) (fun _ => rfl) (fun _ => rfl) (by decide) (by decide) (by decide) ⟨clo_all rfl, rfl, rfl⟩ (by decide) (by rw [hR]; decide) (by rw [hR]; decide) ?_
  refine r_putF X rfl (kk := 4) (ci := 7) (by decide) rfl rfl rfl rfl rfl rfl (by decide +kernel) rfl (by decide) ?_
  refine AW.eq (pc' := 44) (ls' := [some (.ref 0)]) (st' := []) (AH' := [.inr (7, [.ref 1, .int 0, .ref 8, .ref 9, .ref 10, .null, .null, .null, .null]), .inr (0, [.ref 2, .ref 3, .ref 4, .ref 5, .ref 6, .int 0, .int 0, .ref 7]), .inl (0, 40, .inl z0), .inl (0, 40, .inl z0), .inl (0, 40, .inl z0), .inl (0, 40, .inl z0), .inl (0, 40, .inl z0), .inl (0, 40, .inl z0), .inl (0, 40, .inl z0), .inl (0, 40, .inl z0), .inl (0, 40, .inl z0)]) ?_ rfl rfl rfl rfl
  refine go_s 2 X (pc2 := 47) (st2 := [.int 40, .ref 0]) rfl ?_
  refine r_newa X 0 .int (a0 := (40, .inl z0)) (N := 40) rfl rfl hkd0 (by decide +kernel) (fun _ => rfl) (fun _ => rfl) (by decide) (by decide) (by decide) ⟨clo_all rfl, rfl, rfl⟩ (by decide) (by rw [hR]; decide) (by rw [hR]; decide) ?_
  refine r_putF X rfl (kk := 5) (ci := 7) (by decide) rfl rfl rfl rfl rfl rfl (by decide +kernel) rfl (by decide) ?_
  refine AW.eq (pc' := 52) (ls' := [some (.ref 0)]) (st' := []) (AH' := [.inr (7, [.ref 1, .int 0, .ref 8, .ref 9, .ref 10, .ref 11, .null, .null, .null]), .inr (0, [.ref 2, .ref 3, .ref 4, .ref 5, .ref 6, .int 0, .int 0, .ref 7]), .inl (0, 40, .inl z0), .inl (0, 40, .inl z0), .inl (0, 40, .inl z0), .inl (0, 40, .inl z0), .inl (0, 40, .inl z0), .inl (0, 40, .inl z0), .inl (0, 40, .inl z0), .inl (0, 40, .inl z0), .inl (0, 40, .inl z0), .inl (0, 40, .inl z0)]) ?_ rfl rfl rfl rfl
  refine go_s 2 X (pc2 := 55) (st2 := [.int 6, .ref 0]) rfl ?_
  refine r_newa X 0 .int (a0 := (6, .inl z0)) (N := 6) rfl rfl hkd0 (by decide +kernel) (fun _ => rfl) (fun _ => rfl) (by decide) (by decide) (by decide) ⟨clo_all rfl, rfl, rfl⟩ (by decide) (by rw [hR]; decide) (by rw [hR]; decide) ?_
  refine r_putF X rfl (kk := 6) (ci := 7) (by decide) rfl rfl rfl rfl rfl rfl (by decide +kernel) rfl (by decide) ?_
  refine AW.eq (pc' := 60) (ls' := [some (.ref 0)]) (st' := []) (AH' := [.inr (7, [.ref 1, .int 0, .ref 8, .ref 9, .ref 10, .ref 11, .ref 12, .null, .null]), .inr (0, [.ref 2, .ref 3, .ref 4, .ref 5, .ref 6, .int 0, .int 0, .ref 7]), .inl (0, 40, .inl z0), .inl (0, 40, .inl z0), .inl (0, 40, .inl z0), .inl (0, 40, .inl z0), .inl (0, 40, .inl z0), .inl (0, 40, .inl z0), .inl (0, 40, .inl z0), .inl (0, 40, .inl z0), .inl (0, 40, .inl z0), .inl (0, 40, .inl z0), .inl (0, 6, .inl z0)]) ?_ rfl rfl rfl rfl
  refine go_s 2 X (pc2 := 63) (st2 := [.int 6, .ref 0]) rfl ?_
  refine r_newa X 0 .int (a0 := (6, .inl z0)) (N := 6) rfl rfl hkd0 (by decide +kernel) (fun _ => rfl) (fun _ => rfl) (by decide) (by decide) (by decide) ⟨clo_all rfl, rfl, rfl⟩ (by decide) (by rw [hR]; decide) (by rw [hR]; decide) ?_
  refine r_putF X rfl (kk := 7) (ci := 7) (by decide) rfl rfl rfl rfl rfl rfl (by decide +kernel) rfl (by decide) ?_
  refine AW.eq (pc' := 68) (ls' := [some (.ref 0)]) (st' := []) (AH' := [.inr (7, [.ref 1, .int 0, .ref 8, .ref 9, .ref 10, .ref 11, .ref 12, .ref 13, .null]), .inr (0, [.ref 2, .ref 3, .ref 4, .ref 5, .ref 6, .int 0, .int 0, .ref 7]), .inl (0, 40, .inl z0), .inl (0, 40, .inl z0), .inl (0, 40, .inl z0), .inl (0, 40, .inl z0), .inl (0, 40, .inl z0), .inl (0, 40, .inl z0), .inl (0, 40, .inl z0), .inl (0, 40, .inl z0), .inl (0, 40, .inl z0), .inl (0, 40, .inl z0), .inl (0, 6, .inl z0), .inl (0, 6, .inl z0)]) ?_ rfl rfl rfl rfl
  refine go_s 2 X (pc2 := 71) (st2 := [.int 6, .ref 0]) rfl ?_
  refine r_newa X 2 .boolean (a0 := (6, .inl z0)) (N := 6) rfl rfl hkd2 (by decide +kernel) (fun _ => rfl) (fun _ => rfl) (by decide) (by decide) (by decide) ⟨clo_all rfl, rfl, rfl⟩ (by decide) (by rw [hR]; decide) (by rw [hR]; decide) ?_
  refine r_putF X rfl (kk := 8) (ci := 7) (by decide) rfl rfl rfl rfl rfl rfl (by decide +kernel) rfl (by decide) ?_
  refine AW.eq (pc' := 76) (ls' := [some (.ref 0)]) (st' := []) (AH' := [.inr (7, [.ref 1, .int 0, .ref 8, .ref 9, .ref 10, .ref 11, .ref 12, .ref 13, .ref 14]), .inr (0, [.ref 2, .ref 3, .ref 4, .ref 5, .ref 6, .int 0, .int 0, .ref 7]), .inl (0, 40, .inl z0), .inl (0, 40, .inl z0), .inl (0, 40, .inl z0), .inl (0, 40, .inl z0), .inl (0, 40, .inl z0), .inl (0, 40, .inl z0), .inl (0, 40, .inl z0), .inl (0, 40, .inl z0), .inl (0, 40, .inl z0), .inl (0, 40, .inl z0), .inl (0, 6, .inl z0), .inl (0, 6, .inl z0), .inl (2, 6, .inl z0)]) ?_ rfl rfl rfl rfl
  exact r_vret X rfl rfl ⟨rfl, rfl⟩ (by decide) (by decide)
