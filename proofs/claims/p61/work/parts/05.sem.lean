/-! ===== 05: contracts over abstract worlds; entry, returns, calls with the frame rule ===== -/
abbrev PO : Type := (Option Value ⊕ String) → List AC → Prop
def rmM (d mc ms : Nat) : Room := { frames := d + 8, cells := mc, slots := ms, locals := 40 * d + 240 }
def RC (D : va_G) (cA : Nat → ClassId) (A : Nat → Prop) (n0 : Nat) (ad0 : Nat → Nat) (P : PO) : Array Value → State → Outcome → State → Prop := fun _ st o t =>
  (∃ (v : Option Value) (AH : List AC) (ad : Nat → Nat), o = .returned (v.map (cvV ad)) ∧ P (.inl v) AH ∧ AG n0 ad0 ad ∧ (AH.length = n0 → ad = ad0) ∧ n0 ≤ AH.length ∧ va_P D vwCl (cw cA ad AH) t.heap ∧ va_D A (cw cA ad AH)) ∧ va_F A st t
def XR (D : va_G) (cA : Nat → ClassId) (A : Nat → Prop) (n0 : Nat) (ad0 : Nat → Nat) (P : PO) : String → State → State → Prop := fun E st t =>
  (∃ (AH : List AC) (ad : Nat → Nat), P (.inr E) AH ∧ AG n0 ad0 ad ∧ (AH.length = n0 → ad = ad0) ∧ n0 ≤ AH.length ∧ va_P D vwCl (cw cA ad AH) t.heap ∧ va_D A (cw cA ad AH)) ∧ va_F A st t
def PCn (D : va_G) (cA : Nat → ClassId) (ad : Nat → Nat) (As : List Value) (AH : List AC) (sz : Nat) : Array Value → State → Prop :=
  va_Pc (As.map (cvV ad)) (fun U => U.heap.size = sz ∧ va_P D vwCl (cw cA ad AH) U.heap ∧ va_K D vwCl (TYS cA) U ∧ va_D (fun _ => True) (cw cA ad AH) ∧ GL ad (va_A (cw cA ad AH) sz) U U.heap)
theorem PCn.blind {D : va_G} {cA : Nat → ClassId} {ad : Nat → Nat} {As : List Value} {AH : List AC} {sz : Nat} : FrameBlind (PCn D cA ad As AH sz) := by
  intro a U g mk h
  obtain ⟨h1, h2, h3, h4, h5, h6⟩ := h
  exact ⟨h1, h2, h3, va_K.moved (u := U) (U := U.calling g mk a) (Vm.Alike.refl U.vm) h4, h5, h6.calling⟩
def Sem (z : MZ) (d mc ms : Nat) (As : List Value) (AH : List AC) (P : PO) : Prop :=
  ∀ (l : Launch), l.stackTraces = false → ∀ (D : va_G) (cA : Nat → ClassId) (ad : Nat → Nat) (sz : Nat),
    vx_Met l (zY z) (wsM z) (rmM d mc ms) (PCn D cA ad As AH sz) (RC D cA (va_A (cw cA ad AH) sz) AH.length ad P) (XR D cA (va_A (cw cA ad AH) sz) AH.length ad P) mc ms (va_A (cw cA ad AH) sz)
/-- of a method with handlers -/
def SemX (z : MZ) (hh : List (Nat × Nat × Nat × Nat)) (d mc ms : Nat) (As : List Value) (AH : List AC) (P : PO) : Prop :=
  ∀ (l : Launch), l.stackTraces = false → ∀ (D : va_G) (cA : Nat → ClassId) (ad : Nat → Nat) (sz : Nat),
    vx_Met l (zY z) (wsMX z hh) (rmM d mc ms) (PCn D cA ad As AH sz) (RC D cA (va_A (cw cA ad AH) sz) AH.length ad P) (XR D cA (va_A (cw cA ad AH) sz) AH.length ad P) mc ms (va_A (cw cA ad AH) sz)
def QM (κ : KX) (P : PO) (mc ms : Nat) : State → Prop := match κ with
  | (p, l, e, R, s, m, args, below, meth, c, D, cA, A, n0, ad0) => vx_MQ below (RC D cA A n0 ad0 P) (XR D cA A n0 ad0 P) args s mc ms A
def CE : KX → Prop
  | (p, l, e, R, s, m, args, below, meth, c, D, cA, A, n0, ad0) => ∀ x ∈ c.exceptionTable.toList, False
def CH : KX → List (Nat × Nat × Nat × Nat) → Prop
  | (p, l, e, R, s, m, args, below, meth, c, D, cA, A, n0, ad0), hh => c.exceptionTable.toList = tableOf hh
def κR : KX → Room
  | (p, l, e, R, s, m, args, below, meth, c, D, cA, A, n0, ad0) => R
def κN : KX → Nat
  | (p, l, e, R, s, m, args, below, meth, c, D, cA, A, n0, ad0) => n0
def loc0 : List Value → Nat → List (Option Value)
  | [], n => List.replicate n none
  | v :: t, n => if v.category = 2 then some v :: none :: loc0 t (n - 2) else some v :: loc0 t (n - 1)
def slen : List Value → Nat
  | [] => 0
  | v :: t => (if v.category = 2 then 2 else 1) + slen t
theorem loc0_len : ∀ {As : List Value} {n : Nat}, slen As ≤ n → (loc0 As n).length = n
  | [], n, _ => by simp [loc0]
  | v :: t, n, h => by
    unfold slen at h
    unfold loc0
    split at h
    · rename_i hv
      rw [if_pos hv]
      simp only [List.length_cons]
      rw [loc0_len (by omega)]
      omega
    · rename_i hv
      rw [if_neg hv]
      simp only [List.length_cons]
      rw [loc0_len (by omega)]
      omega
theorem slen_sl (ad : Nat → Nat) : ∀ (As : List Value), (lg_sl (As.map (cvV ad))).length = slen As
  | [] => rfl
  | v :: t => by
    have ih := slen_sl ad t
    simp only [List.map_cons, lg_sl, List.flatMap_cons, List.length_append] at ih ⊢
    rw [cvV_cat]
    unfold slen
    rw [ih]
    split <;> simp
theorem loc0_at (ad : Nat → Nat) : ∀ {As : List Value} {n b i : Nat} {v : Value}, (loc0 As n)[i]? = some (some v) → (b + i, cvV ad v) ∈ lv_args b (As.map (cvV ad))
  | [], n, b, i, v, h => by
    simp only [loc0, List.getElem?_replicate] at h
    split at h <;> simp at h
  | w :: t, n, b, i, v, h => by
    unfold loc0 at h
    simp only [List.map_cons, lv_args, cvV_cat]
    split at h
    · rename_i hv
      rw [if_pos hv]
      match i, h with
      | 0, h =>
        have e : w = v := by simpa using h
        subst e
        exact List.mem_cons_self
      | 1, h => simp at h
      | i + 2, h =>
        have h2 := loc0_at ad (b := b + 2) (i := i) (As := t) (by simpa using h)
        rw [show b + (i + 2) = b + 2 + i by omega]
        exact List.mem_cons_of_mem _ h2
    · rename_i hv
      rw [if_neg hv]
      match i, h with
      | 0, h =>
        have e : w = v := by simpa using h
        subst e
        exact List.mem_cons_self
      | i + 1, h =>
        have h2 := loc0_at ad (b := b + 1) (i := i) (As := t) (by simpa using h)
        rw [show b + (i + 1) = b + 1 + i by omega]
        exact List.mem_cons_of_mem _ h2
theorem LR.entry (ad : Nat → Nat) {As : List Value} {n : Nat} (h : slen As ≤ n) : LR n ad (loc0 As n) ((lg_sl (As.map (cvV ad)) ++ List.replicate (n - (lg_sl (As.map (cvV ad))).length) Slot.unset).toArray) := by
  obtain ⟨h1, h2, h3⟩ := lv_entry (As.map (cvV ad)) (n := n) (by rw [slen_sl]; exact h)
  refine ⟨h1, loc0_len h, h2, fun i v hv => ?_⟩
  have := loc0_at ad (b := 0) hv
  rw [Nat.zero_add] at this
  exact h3 _ this
theorem Sem.of {z : MZ} {d mc ms : Nat} {As : List Value} {AH : List AC} {P : PO} (hz : ZOK z) (hpl : plainName (zY z).cls = true) (hAs : slen As ≤ zN z)
    (body : ∀ κ : KX, CX κ z → CE κ → κR κ = rmM d mc ms → κN κ = AH.length → AW κ (QM κ P mc ms) 0 (loc0 As (zN z)) [] AH 0 0) : Sem z d mc ms As AH P := by
  intro l hl D cA ad sz
  refine vx_ofW (cc := zB z) (maxL := zN z) (ret := zR z) hpl rfl ?_
  intro p e s m args below meth c s₁ B hml hE hv
  obtain ⟨rfl, hsz, hP, hK, hD0, hG⟩ := hv
  subst hsz
  have hts := atoms_spec (ws := wsM z) B.pre
  have k := body (p, l, e, (headSpec (wsM z) (rmM d mc ms)).room, s, m, (As.map (cvV ad)).toArray, below, meth, c, D, cA, va_A (cw cA ad AH) s.heap.size, AH.length, ad)
    ⟨B.exec, B.bytes, hml, findClass_of_methodNamed B.named, fun w hw => hts w (List.mem_cons_of_mem _ hw), hK, hG, fun q h => Or.inr h, B.notSynchronized, hl, B.returns, (name_of_methodNamed B.named B.method).1, hz⟩ hE rfl rfl
  have k2 := k ad s.heap [] ((lg_sl (As.map (cvV ad)) ++ List.replicate (zN z - (lg_sl (As.map (cvV ad))).length) Slot.unset).toArray) (fun _ _ => rfl) (fun _ => rfl) (Nat.le_refl _) hP hD0.self va_S.rf (by rw [hml]; exact LR.entry ad hAs)
  rw [lg_entry_eq]
  exact k2
theorem SemX.of {z : MZ} {hh : List (Nat × Nat × Nat × Nat)} {d mc ms : Nat} {As : List Value} {AH : List AC} {P : PO} (hz : ZOK z) (hpl : plainName (zY z).cls = true) (hAs : slen As ≤ zN z)
    (body : ∀ κ : KX, CX κ z → CH κ hh → κR κ = rmM d mc ms → κN κ = AH.length → AW κ (QM κ P mc ms) 0 (loc0 As (zN z)) [] AH 0 0) : SemX z hh d mc ms As AH P := by
  intro l hl D cA ad sz
  refine vx_ofWH (cc := zB z) (maxL := zN z) (ret := zR z) (hh := hh) hpl rfl ?_
  intro p e s m args below meth c s₁ B hml hv
  obtain ⟨rfl, hsz, hP, hK, hD0, hG⟩ := hv
  subst hsz
  have hts := atoms_spec (ws := wsMX z hh) B.pre
  have hE := vx_table (x := zY z) B (hts _ List.mem_cons_self)
  have k := body (p, l, e, (headSpec (wsMX z hh) (rmM d mc ms)).room, s, m, (As.map (cvV ad)).toArray, below, meth, c, D, cA, va_A (cw cA ad AH) s.heap.size, AH.length, ad)
    ⟨B.exec, B.bytes, hml, findClass_of_methodNamed B.named, fun w hw => hts w (List.mem_cons_of_mem _ hw), hK, hG, fun q h => Or.inr h, B.notSynchronized, hl, B.returns, (name_of_methodNamed B.named B.method).1, hz⟩ hE rfl rfl
  have k2 := k ad s.heap [] ((lg_sl (As.map (cvV ad)) ++ List.replicate (zN z - (lg_sl (As.map (cvV ad))).length) Slot.unset).toArray) (fun _ _ => rfl) (fun _ => rfl) (Nat.le_refl _) hP hD0.self va_S.rf (by rw [hml]; exact LR.entry ad hAs)
  rw [lg_entry_eq]
  exact k2
section RETS
variable {κ : KX} {z : MZ} {P : PO} {mc ms : Nat} {pc : Nat} {ls : List (Option Value)} {st r : List Value} {AH : List AC} {nc ns : Nat}
theorem rc_end {p : Program} {l : Launch} {e : Env} {R : Room} {s : State} {m : MethodId} {args : Array Value} {below : List Frame} {meth : Method} {c : Code} {D : va_G} {cA : Nat → ClassId} {A : Nat → Prop} {n0 : Nat} {ad0 ad : Nat → Nat} {H : Heap} {locs : List Loc} {v : Option Value} {w : Option Value}
    (hP0 : P (.inl v) AH) (hw : w = v.map (cvV ad)) (h1 : AG n0 ad0 ad) (h2 : AH.length = n0 → ad = ad0) (h3 : n0 ≤ AH.length) (hP : va_P D vwCl (cw cA ad AH) H) (hD : va_D A (cw cA ad AH)) (hS : va_S A s.heap H locs) (t : State) (ht : t.heap = H) : RC D cA A n0 ad0 P args s (.returned w) t :=
  ⟨⟨v, AH, ad, by rw [hw], hP0, h1, h2, h3, by rw [ht]; exact hP, hD⟩, hS.F ht⟩
theorem r_zret (X : CX κ z) {v : Int32} {ty : FieldType} (hd : fetch (zC z) pc = some (.ireturn, 1)) (hr : zR z = some ty) (hn : narrow ty (.int v) = .int v) (hP0 : P (.inl (some (.int v))) AH) (hc : nc ≤ mc) (hs : ns ≤ ms) : AW κ (QM κ P mc ms) pc ls [.int v] AH nc ns := by
  have hd := cxdec X hd
  obtain ⟨p, l, e, R, s, m, args, below, meth, c, D, cA, A, n0, ad0⟩ := κ
  obtain ⟨hx, hb, hml, hown, hts, hK, hG, hA, hlk, htr, hrt, hnm, hz, hf⟩ := X
  intro ad H locs lsA h1 h2 h3 hP hD hS hL
  refine W.widen hc hs (vx_ret ?_)
  exact W.zret hx hb (hrt.trans hr) hn (fun t ht _ => rc_end (p := p) (l := l) (e := e) (R := R) (m := m) (below := below) (meth := meth) (c := c) hP0 rfl h1 h2 h3 hP hD hS t ht) hS.2.2 hd hlk
theorem r_iret (X : CX κ z) {v : Int32} (hd : fetch (zC z) pc = some (.ireturn, 1)) (hr : zR z = some .int) (hP0 : P (.inl (some (.int v))) AH) (hc : nc ≤ mc) (hs : ns ≤ ms) : AW κ (QM κ P mc ms) pc ls [.int v] AH nc ns := r_zret X hd hr rfl hP0 hc hs
theorem r_lret (X : CX κ z) {v : Int64} (hd : fetch (zC z) pc = some (.lreturn, 1)) (hr : zR z = some .long) (hP0 : P (.inl (some (.long v))) AH) (hc : nc ≤ mc) (hs : ns ≤ ms) : AW κ (QM κ P mc ms) pc ls [.long v] AH nc ns := by
  have hd := cxdec X hd
  obtain ⟨p, l, e, R, s, m, args, below, meth, c, D, cA, A, n0, ad0⟩ := κ
  obtain ⟨hx, hb, hml, hown, hts, hK, hG, hA, hlk, htr, hrt, hnm, hz, hf⟩ := X
  intro ad H locs lsA h1 h2 h3 hP hD hS hL
  refine W.widen hc hs (vx_ret ?_)
  exact W.lret hx hb (hrt.trans hr) (fun t ht _ => rc_end (p := p) (l := l) (e := e) (R := R) (m := m) (below := below) (meth := meth) (c := c) hP0 rfl h1 h2 h3 hP hD hS t ht) hS.2.2 hd hlk
theorem r_dret (X : CX κ z) {v : UInt64} (hd : fetch (zC z) pc = some (.dreturn, 1)) (hr : zR z = some .double) (hP0 : P (.inl (some (.double v))) AH) (hc : nc ≤ mc) (hs : ns ≤ ms) : AW κ (QM κ P mc ms) pc ls [.double v] AH nc ns := by
  have hd := cxdec X hd
  obtain ⟨p, l, e, R, s, m, args, below, meth, c, D, cA, A, n0, ad0⟩ := κ
  obtain ⟨hx, hb, hml, hown, hts, hK, hG, hA, hlk, htr, hrt, hnm, hz, hf⟩ := X
  intro ad H locs lsA h1 h2 h3 hP hD hS hL
  refine W.widen hc hs (vx_ret ?_)
  exact W.dret hx hb (hrt.trans hr) (fun t ht _ => rc_end (p := p) (l := l) (e := e) (R := R) (m := m) (below := below) (meth := meth) (c := c) hP0 rfl h1 h2 h3 hP hD hS t ht) hS.2.2 hd hlk
theorem r_fret (X : CX κ z) {v : UInt32} (hd : fetch (zC z) pc = some (.freturn, 1)) (hr : zR z = some .float) (hP0 : P (.inl (some (.float v))) AH) (hc : nc ≤ mc) (hs : ns ≤ ms) : AW κ (QM κ P mc ms) pc ls [.float v] AH nc ns := by
  have hd := cxdec X hd
  obtain ⟨p, l, e, R, s, m, args, below, meth, c, D, cA, A, n0, ad0⟩ := κ
  obtain ⟨hx, hb, hml, hown, hts, hK, hG, hA, hlk, htr, hrt, hnm, hz, hf⟩ := X
  intro ad H locs lsA h1 h2 h3 hP hD hS hL
  refine W.widen hc hs (vx_ret ?_)
  exact W.fret hx hb (hrt.trans hr) (fun t ht _ => rc_end (p := p) (l := l) (e := e) (R := R) (m := m) (below := below) (meth := meth) (c := c) hP0 rfl h1 h2 h3 hP hD hS t ht) hS.2.2 hd hlk
theorem r_vret (X : CX κ z) (hd : fetch (zC z) pc = some (.return_, 1)) (hr : zR z = none) (hP0 : P (.inl none) AH) (hc : nc ≤ mc) (hs : ns ≤ ms) : AW κ (QM κ P mc ms) pc ls [] AH nc ns := by
  have hd := cxdec X hd
  obtain ⟨p, l, e, R, s, m, args, below, meth, c, D, cA, A, n0, ad0⟩ := κ
  obtain ⟨hx, hb, hml, hown, hts, hK, hG, hA, hlk, htr, hrt, hnm, hz, hf⟩ := X
  intro ad H locs lsA h1 h2 h3 hP hD hS hL
  refine W.widen hc hs (vx_ret ?_)
  exact W.vret hx hb (hrt.trans hr) (fun t ht _ => rc_end (p := p) (l := l) (e := e) (R := R) (m := m) (below := below) (meth := meth) (c := c) hP0 rfl h1 h2 h3 hP hD hS t ht) hS.2.2 hd hlk
end RETS
