/-! ===== 08: new cells ===== -/
def cloV (n : Nat) : Value → Bool
  | .ref k => Nat.blt k n || Nat.ble SB k
  | _ => true
def cloE (n : Nat) : AC → Prop
  | .inr (_, fs) => fs.all (cloV n) = true
  | .inl (_, (_, .inr (.inr (.inr (.inr f))))) => ∀ j q, f j = some q → q < n ∨ SB ≤ q
  | .inl (_, (_, .inl _)) => True
  | .inl (_, (_, .inr (.inl _))) => True
  | .inl (_, (_, .inr (.inr (.inl _)))) => True
  | .inl (_, (_, .inr (.inr (.inr (.inl _))))) => True
def nrf : Value → Bool
  | .ref _ => false
  | _ => true
def cloL (n : Nat) (ls : List (Option Value)) : Bool := ls.all fun o => match o with
  | some v => cloV n v
  | none => true
theorem cvV_cong {n : Nat} {ad ad' : Nat → Nat} (h : ∀ k, k < n ∨ SB ≤ k → ad' k = ad k) {v : Value} (hv : cloV n v = true) : cvV ad' v = cvV ad v := by
  cases v with
  | ref k =>
    simp only [cloV, Bool.or_eq_true] at hv
    have : k < n ∨ SB ≤ k := hv.imp (fun q => Nat.le_of_ble_eq_true q) (fun q => Nat.le_of_ble_eq_true q)
    show Value.ref (ad' k) = Value.ref (ad k)
    rw [h k this]
  | _ => rfl
theorem map_cong {n : Nat} {ad ad' : Nat → Nat} (h : ∀ k, k < n ∨ SB ≤ k → ad' k = ad k) {st : List Value} (hv : st.all (cloV n) = true) : st.map (cvV ad') = st.map (cvV ad) :=
  List.map_congr_left fun v hm => cvV_cong h (List.all_eq_true.mp hv v hm)
theorem cvE_cong {n : Nat} {cA : Nat → ClassId} {ad ad' : Nat → Nat} (h : ∀ k, k < n ∨ SB ≤ k → ad' k = ad k) {c : AC} (hc : cloE n c) : cvE cA ad' c = cvE cA ad c := by
  rcases c with ⟨k, m, a⟩ | ⟨ci, fs⟩
  · rcases a with g | g | g | g | g
    · rfl
    · rfl
    · rfl
    · rfl
    · show (Sum.inl (cA k, m, Sum.inr (Sum.inr (Sum.inr (Sum.inr fun j => (g j).map ad')))) : va_E) = Sum.inl (cA k, m, Sum.inr (Sum.inr (Sum.inr (Sum.inr fun j => (g j).map ad))))
      have e : (fun j => (g j).map ad') = fun j => (g j).map ad := by
        funext j
        cases hj : g j with
        | none => rfl
        | some q =>
          show some (ad' q) = some (ad q)
          rw [h q (hc j q hj)]
      rw [e]
  · show (Sum.inr (ci, fs.map (cvV ad')) : va_E) = Sum.inr (ci, fs.map (cvV ad))
    rw [map_cong h hc]
theorem cw_cong {n : Nat} {cA : Nat → ClassId} {ad ad' : Nat → Nat} {AH : List AC} (hn : AH.length ≤ n) (h : ∀ k, k < n ∨ SB ≤ k → ad' k = ad k) (hc : ∀ c ∈ AH, cloE n c) : cw cA ad' AH = cw cA ad AH := by
  apply List.ext_getElem?
  intro i
  cases hi : AH[i]? with
  | none =>
    have : AH.length ≤ i := by simpa using hi
    rw [List.getElem?_eq_none (by rw [cw_len]; exact this), List.getElem?_eq_none (by rw [cw_len]; exact this)]
  | some c =>
    have hl := (List.getElem?_eq_some_iff.mp hi).1
    rw [cw_at hi, cw_at hi, h i (Or.inl (by omega)), cvE_cong h (hc c (List.mem_of_getElem? hi))]
theorem LR.cong {n nL : Nat} {ad ad' : Nat → Nat} {ls : List (Option Value)} {lsA : Array Slot} (h : ∀ k, k < n ∨ SB ≤ k → ad' k = ad k) (hc : cloL n ls = true) (hL : LR nL ad ls lsA) : LR nL ad' ls lsA := by
  refine ⟨hL.1, hL.2.1, hL.2.2.1, fun i v hv => ?_⟩
  have h1 := List.all_eq_true.mp hc (some v) (List.mem_of_getElem? hv)
  rw [cvV_cong h h1]
  exact hL.2.2.2 i v hv
theorem cw_app {cA : Nat → ClassId} {ad : Nat → Nat} {AH : List AC} {c : AC} : cw cA ad (AH ++ [c]) = cw cA ad AH ++ [(ad AH.length, cvE cA ad c)] := by
  simp [cw, List.mapIdx_append]
def CLO (n : Nat) (ls : List (Option Value)) (st : List Value) (AH : List AC) : Prop := (∀ c ∈ AH, cloE n c) ∧ st.all (cloV n) = true ∧ cloL n ls = true
def adN (ad : Nat → Nat) (n q : Nat) : Nat → Nat := fun j => if j = n then q else ad j
theorem adN_old {ad : Nat → Nat} {n q k : Nat} (hn : n < SB) (h : k < n ∨ SB ≤ k) : adN ad n q k = ad k := if_neg (by omega)
section ALLOC
variable {κ : KX} {z : MZ} {Q : State → Prop} {pc : Nat} {ls : List (Option Value)} {st r : List Value} {AH : List AC} {nc ns : Nat}
/-- one cell more -/
theorem alloc_in {p : Program} {l : Launch} {e : Env} {R : Room} {s : State} {m : MethodId} {args : Array Value} {below : List Frame} {meth : Method} {c : Code} {D : va_G} {cA : Nat → ClassId} {A : Nat → Prop} {n0 : Nat} {ad0 ad : Nat → Nat} {c9 : AC} {q : Nat} {H1 : Heap} {locs : List Loc} {lsA : Array Slot}
    (hclo : CLO AH.length ls r AH) (hc9 : cvE cA (adN ad AH.length q) c9 = cvE cA ad c9) (hsb : AH.length < SB) (h1 : AG n0 ad0 ad) (h3 : n0 ≤ AH.length) (hL : LR c.maxLocals ad ls lsA)
    (hP : va_P D vwCl (cw cA ad AH ++ [(q, cvE cA ad c9)]) H1) (hD : va_D A (cw cA ad AH ++ [(q, cvE cA ad c9)])) (hS : va_S A s.heap H1 locs)
    (k : AW (p, l, e, R, s, m, args, below, meth, c, D, cA, A, n0, ad0) Q pc ls (.ref AH.length :: r) (AH ++ [c9]) nc ns) : W p l e R s m args below meth c H1 locs nc ns Q (F0 m pc lsA (.ref q :: r.map (cvV ad))) := by
  have ho : ∀ k, k < AH.length ∨ SB ≤ k → adN ad AH.length q k = ad k := fun k h => adN_old hsb h
  have e1 : cw cA (adN ad AH.length q) (AH ++ [c9]) = cw cA ad AH ++ [(q, cvE cA ad c9)] := by
    rw [cw_app, cw_cong (Nat.le_refl _) ho hclo.1, hc9]
    simp [adN]
  have K := k (adN ad AH.length q) H1 locs lsA (fun j hj => by rw [ho j (by omega)]; exact h1 j hj) (fun h => by simp at h; omega) (by simp; omega) (by rw [e1]; exact hP) (by rw [e1]; exact hD) hS (hL.cong ho hclo.2.2)
  have e2 : ((Value.ref AH.length :: r).map (cvV (adN ad AH.length q))) = .ref q :: r.map (cvV ad) := by
    rw [List.map_cons, map_cong ho hclo.2.1]
    show Value.ref (adN ad AH.length q AH.length) :: _ = _
    simp [adN]
  rw [e2] at K
  exact K
theorem r_new (X : CX κ z) {index : Nat} (ci : Nat) {r9 : vw_C} {tf : Nat → FieldType} {fs : List Value} (hd : fetch (zC z) pc = some (.new index, 3)) (hr9 : vwCl[ci]? = some r9) (htf : vwTy[ci]? = some tf) (hok : (inALL (.classLink (zY z).cls index r9.1) && (inALL (.instantiable r9.1 r9.2.2) && inALL (.initialized r9.1))) = true)
    (hfs : ∀ j, j < r9.2.2 → defaultValue (tf j) = vp_V fs j) (hno : fs.all nrf = true) (hclo : CLO AH.length ls st AH) (hsb : AH.length < SB) (hc : nc + 1 ≤ (κR κ).cells) (hs : ns + r9.2.2 ≤ (κR κ).slots) (k : AW κ Q (pc + 3) ls (.ref AH.length :: st) (AH ++ [.inr (ci, fs)]) (nc + 1) (ns + r9.2.2)) : AW κ Q pc ls st AH nc ns := by
  have hd := cxdec X hd
  obtain ⟨p, l, e, R, s, m, args, below, meth, c, D, cA, A, n0, ad0⟩ := κ
  obtain ⟨hx, hb, hml, hown, hts, hK, hG, hA, hlk, htr, hrt, hnm, hz, hf⟩ := X
  simp only [Bool.and_eq_true] at hok
  obtain ⟨o1, o2, o3⟩ := hok
  obtain ⟨tf', t1, t2, t3⟩ := vw_ty hr9
  cases htf.symm.trans t1
  intro ad H locs lsA h1 h2 h3 hP hD hS hL
  have hz9 : ∀ ad' : Nat → Nat, fs.map (cvV ad') = fs := fun ad' => by
    have : ∀ v ∈ fs, cvV ad' v = v := fun v hv => by
      have h9 := List.all_eq_true.mp hno v hv
      cases v with
      | ref a => cases h9
      | _ => rfl
    rw [List.map_congr_left this, List.map_id']
  refine va_new (ci := ci) (fs := fs) hx hb hts (vw_in hr9) tf t2 hown (hts _ (ALL_of o1)) (hts _ (ALL_of o2)) (hts _ (ALL_of o3)) hK hP hD hS hA hr9 hfs hc hs hd (fun q H1 hP1 hD1 hS1 => ?_)
  have e9 : ∀ ad' : Nat → Nat, cvE cA ad' (.inr (ci, fs)) = .inr (ci, fs) := fun ad' => by
    show (Sum.inr (ci, fs.map (cvV ad')) : va_E) = _
    rw [hz9]
  refine alloc_in (c9 := .inr (ci, fs)) hclo ((e9 _).trans (e9 _).symm) hsb h1 h3 hL ?_ ?_ hS1 k
  · rw [e9]; exact hP1
  · rw [e9]; exact hD1
theorem kind_eq {s : State} {D : va_G} {cA : Nat → ClassId} {kd : Nat} {c : ClassId} {ty : FieldType} (hty : (TYS cA)[kd]? = some (cA kd, ty)) (hK : va_K D vwCl (TYS cA) s) (hK1 : va_K D vwCl (TYS cA ++ [(c, ty)]) s) : c = cA kd := by
  have h1 := (hK.2 kd _ hty).2
  have h2 := (hK1.2 5 (c, ty) (by rfl)).2
  cases ty with
  | object C =>
    obtain ⟨k1, c1, a1, a2, a3, a4⟩ := h1
    obtain ⟨k2, c2, b1, b2, b3, b4⟩ := h2
    exact Option.some.inj (b4.symm.trans a4)
  | _ => exact Option.some.inj (h2.symm.trans h1)
theorem r_newa (X : CX κ z) {atype : ArrayType} (kd : Nat) (ty : FieldType) {a0 : vp_A} {n : Int32} {N : Nat} (hd : fetch (zC z) pc = some (.newarray atype, 2)) (hty : newarray.typeOf atype = ty) (hkd : ∀ cA : Nat → ClassId, (TYS cA)[kd]? = some (cA kd, ty)) (hac : inALL (.arrayClass ty) = true) (ha : ∀ cA : ClassId, vp_cell cA a0 = arrV cA N (fun _ => defaultValue ty)) (ha2 : ∀ ad : Nat → Nat, cvA ad a0 = a0) (hn : ¬ n < 0) (hN : n.toNatClampNeg = N) (hby : N * componentBytes ty ≤ 536870912)
    (hclo : CLO AH.length ls r AH) (hsb : AH.length < SB) (hc : nc + 1 ≤ (κR κ).cells) (hs : ns + N ≤ (κR κ).slots) (k : AW κ Q (pc + 2) ls (.ref AH.length :: r) (AH ++ [.inl (kd, a0)]) (nc + 1) (ns + N)) : AW κ Q pc ls (.int n :: r) AH nc ns := by
  have hd := cxdec X hd
  obtain ⟨p, l, e, R, s, m, args, below, meth, c, D, cA, A, n0, ad0⟩ := κ
  obtain ⟨hx, hb, hml, hown, hts, hK, hG, hA, hlk, htr, hrt, hnm, hz, hf⟩ := X
  intro ad H locs lsA h1 h2 h3 hP hD hS hL
  refine va_newa (atype := atype) hx hb (by rw [hty]; exact hts _ (ALL_of hac)) hty hK hP hD hS hA ha hn hN hby hc hs hd (fun q c9 H1 hK1 hP1 hD1 hS1 => ?_)
  have e8 := kind_eq (hkd cA) hK hK1
  subst e8
  have e9 : ∀ ad' : Nat → Nat, cvE cA ad' (.inl (kd, a0)) = .inl (cA kd, a0) := fun ad' => by
    show (Sum.inl (cA kd, cvA ad' a0) : va_E) = _
    rw [ha2]
  refine alloc_in (c9 := .inl (kd, a0)) hclo ((e9 _).trans (e9 _).symm) hsb h1 h3 hL ?_ ?_ hS1 k
  · rw [e9]; exact hP1
  · rw [e9]; exact hD1
theorem r_newq (X : CX κ z) {index : Nat} {n : Int32} {N : Nat} (hd : fetch (zC z) pc = some (.anewarray index, 3)) (hcl : inALL (.classLink (zY z).cls index "LeftistSpooler$State") = true) (hn : ¬ n < 0) (hN : n.toNatClampNeg = N) (hby : N * 4 ≤ 536870912)
    (hclo : CLO AH.length ls r AH) (hsb : AH.length < SB) (hc : nc + 1 ≤ (κR κ).cells) (hs : ns + N ≤ (κR κ).slots) (k : AW κ Q (pc + 3) ls (.ref AH.length :: r) (AH ++ [.inl (4, N, .inr (.inr (.inr (.inr fun _ => none))))]) (nc + 1) (ns + N)) : AW κ Q pc ls (.int n :: r) AH nc ns := by
  have hd := cxdec X hd
  obtain ⟨p, l, e, R, s, m, args, below, meth, c, D, cA, A, n0, ad0⟩ := κ
  obtain ⟨hx, hb, hml, hown, hts, hK, hG, hA, hlk, htr, hrt, hnm, hz, hf⟩ := X
  intro ad H locs lsA h1 h2 h3 hP hD hS hL
  refine va_newq hx hb hown (hts _ (ALL_of hcl)) hG.2.2.2.2.2.2.2.2.2.1 hK hP hD hS hA hn hN hby hc hs hd (fun q c9 H1 hK1 hP1 hD1 hS1 => ?_)
  have e8 := kind_eq (cA := cA) (kd := 4) rfl hK hK1
  subst e8
  refine alloc_in (c9 := .inl (4, N, .inr (.inr (.inr (.inr fun _ => none))))) hclo rfl hsb h1 h3 hL ?_ ?_ hS1 k
  · exact hP1
  · exact hD1
end ALLOC
