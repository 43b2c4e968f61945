/-! ===== 06: calls: the frame rule over abstract worlds ===== -/
def iof (ι δ : List Nat) (n : Nat) : Nat → Nat := fun k => bif Nat.blt k ι.length then ι.getD k 0 else bif Nat.blt k SB then n + (k - ι.length) else bif Nat.blt k SD then k else δ.getD (k - SD) k
def putB : List AC → List Nat → List AC → List AC
  | AH, i :: ι, c :: cs => putB (AH.set i c) ι cs
  | AH, _, _ => AH
abbrev rnE (f : Nat → Nat) : AC → AC := cvE id f
theorem putB_len : ∀ {ι : List Nat} {AH cs : List AC}, (putB AH ι cs).length = AH.length
  | [], AH, cs => by cases cs <;> rfl
  | i :: ι, AH, [] => rfl
  | i :: ι, AH, c :: cs => by
    unfold putB
    rw [putB_len, List.length_set]
theorem putB_out {j : Nat} : ∀ {ι : List Nat} {AH cs : List AC}, j ∉ ι → (putB AH ι cs)[j]? = AH[j]?
  | [], AH, cs, _ => by cases cs <;> rfl
  | i :: ι, AH, [], _ => rfl
  | i :: ι, AH, c :: cs, h => by
    unfold putB
    rw [putB_out (fun q => h (List.mem_cons_of_mem _ q)), List.getElem?_set_ne (fun e => h (by rw [e]; exact List.mem_cons_self))]
theorem putB_in : ∀ {ι : List Nat} {AH cs : List AC} {k j : Nat} {c : AC}, va_nd ι = true → ι[k]? = some j → j < AH.length → cs[k]? = some c → (putB AH ι cs)[j]? = some c
  | [], AH, cs, k, j, c, _, h, _, _ => by simp at h
  | i :: ι, AH, [], k, j, c, _, _, _, h => by simp at h
  | i :: ι, AH, c0 :: cs, k, j, c, hn, h1, h2, h3 => by
    simp only [va_nd, Bool.and_eq_true, decide_eq_true_eq] at hn
    unfold putB
    cases k with
    | zero =>
      have e1 : i = j := by simpa using h1
      have e2 : c0 = c := by simpa using h3
      subst e1; subst e2
      rw [putB_out hn.1, List.getElem?_set_self h2]
    | succ k => exact putB_in hn.2 (by simpa using h1) (by rw [List.length_set]; exact h2) (by simpa using h3)
theorem cvV_comp {ad f : Nat → Nat} (v : Value) : cvV ad (cvV f v) = cvV (fun k => ad (f k)) v := by cases v <;> rfl
theorem cvE_comp {cA : Nat → ClassId} {ad f : Nat → Nat} (c : AC) : cvE cA ad (rnE f c) = cvE cA (fun k => ad (f k)) c := by
  rcases c with ⟨k, n, a⟩ | ⟨ci, fs⟩
  · rcases a with g | g | g | g | g
    · rfl
    · rfl
    · rfl
    · rfl
    · show (Sum.inl (cA k, n, Sum.inr (Sum.inr (Sum.inr (Sum.inr fun j => ((g j).map f).map ad)))) : va_E) = Sum.inl (cA k, n, Sum.inr (Sum.inr (Sum.inr (Sum.inr fun j => (g j).map fun k => ad (f k)))))
      simp [Option.map_map, Function.comp_def]
  · show (Sum.inr (ci, (fs.map (cvV f)).map (cvV ad)) : va_E) = Sum.inr (ci, fs.map (cvV fun k => ad (f k)))
    simp [List.map_map, Function.comp_def, cvV_comp]
theorem va_D_len {A : Nat → Prop} {cA : Nat → ClassId} {ad : Nat → Nat} {AH AH2 : List AC} (h : va_D A (cw cA ad AH)) (hl : AH2.length = AH.length) : va_D A (cw cA ad AH2) := by
  have key : ∀ (i : Nat) (q : Nat × va_E), (cw cA ad AH2)[i]? = some q → ∃ q', (cw cA ad AH)[i]? = some q' ∧ q'.1 = q.1 := by
    intro i q hq
    have hi : i < AH2.length := by
      have := (List.getElem?_eq_some_iff.mp hq).1
      rwa [cw_len] at this
    refine ⟨_, cw_at (List.getElem?_eq_getElem (hl ▸ hi)), ?_⟩
    have h2 := cw_at (cA := cA) (ad := ad) (List.getElem?_eq_getElem hi)
    rw [h2] at hq
    cases hq
    rfl
  refine ⟨fun i j p q hi hj e => ?_, fun k q hk => ?_⟩
  · obtain ⟨p', g1, g2⟩ := key i p hi
    obtain ⟨q', g3, g4⟩ := key j q hj
    exact h.1 i j p' q' g1 g3 (by rw [g2, g4]; exact e)
  · obtain ⟨q', g1, g2⟩ := key k q hk
    rw [← g2]
    exact h.2 k q' g1
theorem cw_inv {cA : Nat → ClassId} {ad : Nat → Nat} {AH : List AC} {k : Nat} {q : Nat × va_E} (h : (cw cA ad AH)[k]? = some q) : ∃ c, AH[k]? = some c ∧ q = (ad k, cvE cA ad c) := by
  cases hc : AH[k]? with
  | none =>
    have : (cw cA ad AH).length ≤ k := by rw [cw_len]; simpa using hc
    rw [List.getElem?_eq_none this] at h
    cases h
  | some c =>
    rw [cw_at hc] at h
    cases h
    exact ⟨c, rfl, rfl⟩
/-- the small world in the big one -/
def PK (ι δ : List Nat) (AH AHs : List AC) : Prop := va_nd ι = true ∧ ι.map (fun i => AH[i]?) = AHs.map (fun c => some (rnE (iof ι δ AH.length) c))
theorem PK.len {ι δ : List Nat} {AH AHs : List AC} (h : PK ι δ AH AHs) : ι.length = AHs.length := by
  have := congrArg List.length h.2
  simpa using this
theorem PK.at {ι δ : List Nat} {AH AHs : List AC} (h : PK ι δ AH AHs) {k : Nat} {c : AC} (hc : AHs[k]? = some c) : ∃ j, ι[k]? = some j ∧ iof ι δ AH.length k = j ∧ AH[j]? = some (rnE (iof ι δ AH.length) c) := by
  have hk : k < ι.length := by rw [h.len]; exact (List.getElem?_eq_some_iff.mp hc).1
  have h1 := congrArg (fun l => l[k]?) h.2
  simp only [List.getElem?_map, hc, List.getElem?_eq_getElem hk, Option.map_some] at h1
  refine ⟨ι[k], List.getElem?_eq_getElem hk, ?_, Option.some.inj h1⟩
  unfold iof
  rw [show Nat.blt k ι.length = true from by simpa [Nat.blt_eq] using hk]
  simp [hk]
theorem blt_no {a b : Nat} (h : ¬ a < b) : Nat.blt a b = false := Bool.eq_false_iff.mpr (fun e => h (Nat.le_of_ble_eq_true e))
theorem iof_sb {ι δ : List Nat} {n k : Nat} (h : SB ≤ k) (h2 : k < SD) (hn : ι.length ≤ SB) : iof ι δ n k = k := by
  unfold iof
  rw [show Nat.blt k ι.length = false from blt_no (by omega), show Nat.blt k SB = false from blt_no (by omega), show Nat.blt k SD = true from Nat.ble_eq_true_of_le h2]
  rfl
section PRE
variable {s : State} {D : va_G} {cA : Nat → ClassId} {A : Nat → Prop} {n0 : Nat} {ad0 ad : Nat → Nat} {AH AHs : List AC} {ι δ : List Nat} {H : Heap} {locs : List Loc}
theorem pk_free (hk : PK ι δ AH AHs) (hD : va_D A (cw cA ad AH)) (hS : va_S A s.heap H locs) (hA : ∀ q, s.heap.size ≤ q → A q) : ∀ q, va_A (cw cA (fun k => ad (iof ι δ AH.length k)) AHs) H.size q → A q := by
  intro q h
  rcases h with ⟨k, e, h⟩ | h
  · obtain ⟨c, g1, g2⟩ := cw_inv h
    obtain ⟨j, g3, g4, g5⟩ := hk.at g1
    have g6 := hD.2 j _ (cw_at g5)
    cases g2
    rw [g4]
    exact g6
  · exact hA q (Nat.le_trans hS.1 h)
theorem pk_P (hk : PK ι δ AH AHs) (hP : va_P D vwCl (cw cA ad AH) H) : va_P D vwCl (cw cA (fun k => ad (iof ι δ AH.length k)) AHs) H := by
  intro k q hq
  obtain ⟨c, g1, rfl⟩ := cw_inv hq
  obtain ⟨j, g3, g4, g5⟩ := hk.at g1
  have h2 := hP j _ (cw_at g5)
  rw [cvE_comp] at h2
  rw [g4]
  exact h2
theorem pk_D (hk : PK ι δ AH AHs) (hD : va_D A (cw cA ad AH)) : va_D (fun _ => True) (cw cA (fun k => ad (iof ι δ AH.length k)) AHs) := by
  refine ⟨fun i j p q hi hj e => ?_, fun _ _ _ => trivial⟩
  obtain ⟨c, g1, rfl⟩ := cw_inv hi
  obtain ⟨c', g1', rfl⟩ := cw_inv hj
  obtain ⟨x, g3, g4, g5⟩ := hk.at g1
  obtain ⟨y, g3', g4', g5'⟩ := hk.at g1'
  dsimp only at e
  rw [g4, g4'] at e
  have hxy := hD.1 x y _ _ (cw_at g5) (cw_at g5') e
  subst hxy
  exact va_nd_inj ι hk.1 i j x g3 g3'
theorem pk_pre (hk : PK ι δ AH AHs) (hsb : ι.length ≤ SB) (h1 : AG n0 ad0 ad) (hP : va_P D vwCl (cw cA ad AH) H) (hD : va_D A (cw cA ad AH)) (hS : va_S A s.heap H locs) (hA : ∀ q, s.heap.size ≤ q → A q) (hK : va_K D vwCl (TYS cA) s) (hG : GL ad0 A s s.heap) (As : List Value) (U : State) (hU : U.heap = H) (hW : s.WarmedH U.vm) :
    PCn D cA (fun k => ad (iof ι δ AH.length k)) As AHs H.size ((As.map (cvV fun k => ad (iof ι δ AH.length k))).toArray) U := by
  refine ⟨rfl, by rw [hU], by rw [hU]; exact pk_P hk hP, va_K.moved hW.alike hK, pk_D hk hD, ?_⟩
  rw [hU]
  exact hG.use hW (fun a h1 h2 => hS.2.1 a h1 h2) (pk_free hk hD hS hA) (fun k hk9 hk8 => by
    rw [iof_sb hk9 hk8 hsb]
    exact h1 k (Or.inr hk9))
/-- behind the call: the big world -/
theorem pk_back {AHs2 : List AC} {H1 : Heap} (hk : PK ι δ AH AHs) (hl : AHs2.length = AHs.length) (hP : va_P D vwCl (cw cA ad AH) H) (hD : va_D A (cw cA ad AH)) (hkeep : ∀ q : Nat, q < H.size → ¬ va_A (cw cA (fun k => ad (iof ι δ AH.length k)) AHs) H.size q → H1[q]? = H[q]?) (hP1 : va_P D vwCl (cw cA (fun k => ad (iof ι δ AH.length k)) AHs2) H1) :
    va_P D vwCl (cw cA ad (putB AH ι (AHs2.map (rnE (iof ι δ AH.length))))) H1 := by
  intro j q hq
  obtain ⟨c, g1, rfl⟩ := cw_inv hq
  by_cases hj : j ∈ ι
  · obtain ⟨k, hkj⟩ := List.getElem?_of_mem hj
    have hkl : k < AHs2.length := by rw [hl, ← hk.len]; exact (List.getElem?_eq_some_iff.mp hkj).1
    have hkl2 : k < AHs.length := by rw [← hl]; exact hkl
    obtain ⟨j', g3, g4, g5⟩ := hk.at (List.getElem?_eq_getElem hkl2)
    cases hkj.symm.trans g3
    have hjl : j < AH.length := (List.getElem?_eq_some_iff.mp g5).1
    have h3 : (AHs2.map (rnE (iof ι δ AH.length)))[k]? = some (rnE (iof ι δ AH.length) AHs2[k]) := by
      rw [List.getElem?_map, List.getElem?_eq_getElem hkl]
      rfl
    rw [putB_in hk.1 hkj hjl h3] at g1
    cases g1
    have h4 := hP1 k _ (cw_at (List.getElem?_eq_getElem hkl))
    rw [g4] at h4
    rw [cvE_comp]
    exact h4
  · rw [putB_out hj] at g1
    have h5 := hP j _ (cw_at g1)
    have h6 := h5.lt
    refine h5.kept (hkeep _ h6 fun h => ?_)
    rcases h with ⟨k, e, h⟩ | h
    · obtain ⟨c', g2, g7⟩ := cw_inv h
      obtain ⟨x, g3, g4, g5⟩ := hk.at g2
      have e1 : ad j = ad x := by
        have := congrArg Prod.fst g7
        dsimp only at this
        rw [g4] at this
        exact this
      have := hD.1 j x _ _ (cw_at g1) (cw_at g5) e1
      subst this
      exact hj (List.mem_of_getElem? g3)
    · exact absurd h6 (by dsimp only at h ⊢; omega)
end PRE
/-- a throwing state -/
def AX : KX → (State → Prop) → String → Nat → List (Option Value) → List Value → List AC → Nat → Nat → Prop
  | (p, l, e, R, s, m, args, below, meth, c, D, cA, A, n0, ad0), Q, E, pc, ls, st, AH, nc, ns =>
    ∀ (ad : Nat → Nat) (H : Heap) (locs : List Loc) (lsA : Array Slot) (ce : Cell) (q : Addr), AG n0 ad0 ad → (AH.length = n0 → ad = ad0) → n0 ≤ AH.length → va_P D vwCl (cw cA ad AH) H → va_D A (cw cA ad AH) → va_S A s.heap H locs → LR c.maxLocals ad ls lsA → H[q]? = some ce → ce.vm = .none → s.vm.findClass E = some ce.cls →
      vx_W p l e R s m args below meth c H locs nc ns Q (F0 m pc lsA (st.map (cvV ad))) q
theorem after_call {p : Program} {l : Launch} {e : Env} {R : Room} {s : State} {m : MethodId} {args : Array Value} {below : List Frame} {meth : Method} {c : Code} {D : va_G} {cA : Nat → ClassId} {A : Nat → Prop} {n0 : Nat} {ad0 ad : Nat → Nat} {Q : State → Prop} {pc : Nat} {ls : List (Option Value)} {rest : List Value} {AH AHs : List AC} {ι δ : List Nat} {nc ns mc ms : Nat} {P : PO} {H : Heap} {locs : List Loc} {lsA : Array Slot} {st0 : List Value} {a : Array Value}
    (hA : ∀ q, s.heap.size ≤ q → A q) (h1 : AG n0 ad0 ad) (h2 : AH.length = n0 → ad = ad0) (h3 : n0 ≤ AH.length) (hP : va_P D vwCl (cw cA ad AH) H) (hD : va_D A (cw cA ad AH)) (hS : va_S A s.heap H locs) (hL : LR c.maxLocals ad ls lsA)
    (hk : PK ι δ AH AHs) (hlen : ∀ r AH2, P r AH2 → AH2.length = AHs.length)
    (hr : vx_Run p l e R s m args below meth c H locs nc ns mc ms (F0 m pc lsA st0) (rest.map (cvV ad)) (RC D cA (va_A (cw cA (fun k => ad (iof ι δ AH.length k)) AHs) H.size) AHs.length (fun k => ad (iof ι δ AH.length k)) P a) (XR D cA (va_A (cw cA (fun k => ad (iof ι δ AH.length k)) AHs) H.size) AHs.length (fun k => ad (iof ι δ AH.length k)) P) (va_A (cw cA (fun k => ad (iof ι δ AH.length k)) AHs) H.size))
    (kk : ∀ v AHs2, P (.inl v) AHs2 → AW (p, l, e, R, s, m, args, below, meth, c, D, cA, A, n0, ad0) Q (pc + 3) ls ((v.map (cvV (iof ι δ AH.length))).toList ++ rest) (putB AH ι (AHs2.map (rnE (iof ι δ AH.length)))) (nc + mc) (ns + ms))
    (kx : ∀ E AHs2, P (.inr E) AHs2 → AX (p, l, e, R, s, m, args, below, meth, c, D, cA, A, n0, ad0) Q E pc ls rest (putB AH ι (AHs2.map (rnE (iof ι δ AH.length)))) (nc + mc) (ns + ms)) :
    W p l e R s m args below meth c H locs nc ns Q (F0 m pc lsA st0) := by
  have hF := pk_free hk hD hS hA
  intro T hT X
  rcases hr T hT X with ⟨v, st₀, t, T', L, g0, X', hL', e1, e2, ⟨⟨v', AHs', ads', ho, hp, ag, agl, nle, wP, wD⟩, hFr⟩, st⟩ | ⟨q, st₀, t, T', L, E, ce, g0, X', hL', e1, e2, ⟨⟨AHs', ads', hp, ag, agl, nle, wP, wD⟩, hFr⟩, hce, hcv, hcl, st⟩
  · obtain ⟨k1, k2, k3⟩ := vx_keep g0 e1 hS (fun q _ h => hF q h) hF hL' hFr
    have e3 := agl (hlen _ _ hp)
    subst e3
    rw [← e1] at wP
    have hP2 := pk_back hk (hlen _ _ hp) hP hD k2 wP
    have hl2 : (putB AH ι (AHs'.map (rnE (iof ι δ AH.length)))).length = AH.length := putB_len
    have K := kk v' AHs' hp ad T'.heap (locs ++ L) lsA h1 (by rw [hl2]; exact h2) (by rw [hl2]; exact h3) hP2 (va_D_len hD hl2) k3 hL
    cases ho
    have e4 : ((v'.map (cvV (iof ι δ AH.length))).toList ++ rest).map (cvV ad) = (v'.map (cvV fun k => ad (iof ι δ AH.length k))).toList ++ rest.map (cvV ad) := by
      cases v' with
      | none => rfl
      | some w =>
        show cvV ad (cvV (iof ι δ AH.length) w) :: rest.map (cvV ad) = cvV (fun k => ad (iof ι δ AH.length k)) w :: rest.map (cvV ad)
        rw [cvV_comp]
    rw [e4] at K
    obtain ⟨t2, a1, b1⟩ := K T' rfl X'
    exact ⟨t2, st t2 a1, b1⟩
  · obtain ⟨k1, k2, k3⟩ := vx_keep g0 e1 hS (fun q _ h => hF q h) hF hL' hFr
    have e3 := agl (hlen _ _ hp)
    subst e3
    rw [← e1] at wP
    have hP2 := pk_back hk (hlen _ _ hp) hP hD k2 wP
    have hl2 : (putB AH ι (AHs'.map (rnE (iof ι δ AH.length)))).length = AH.length := putB_len
    obtain ⟨t2, a1, b1⟩ := kx E AHs' hp ad T'.heap (locs ++ L) lsA ce q h1 (by rw [hl2]; exact h2) (by rw [hl2]; exact h3) hP2 (va_D_len hD hl2) k3 hL (by rw [e1]; exact hce) hcv hcl T' rfl X'
    exact ⟨t2, st.trans a1, b1⟩
-- what a callee brings
def LKC (z : MZ) (n : Nat) : Prop := Cond.code (zY z) (zB z) (zN z) (zR z) ∈ ALL ∧ inALL (.initialized (zY z).cls) = true ∧ ((zY z).cls ≠ "java/lang/invoke/MethodHandle" ∧ (zY z).cls ≠ "java/lang/invoke/VarHandle" ∧ (parseMethodDescriptor (zY z).desc).map (fun d => d.parameters.length) = some n)
def LKV (z : MZ) (n : Nat) : Prop := LKC z n ∧ inALL (.instanceMethod (zY z)) = true ∧ inALL (.selects (zY z).cls (zY z) (zY z)) = true
def LKS (z : MZ) (n : Nat) : Prop := LKC z n ∧ inALL (.static (zY z)) = true
def LKI (z : MZ) (n : Nat) : Prop := LKC z n ∧ (zY z).name = "<init>" ∧ zR z = none ∧ inALL (.instanceMethod (zY z)) = true
def LKA (own : String) (idx : Nat) (z : MZ) : Prop := inALL (.methodLink own idx (zY z)) = true ∨ (own, idx, zY z) ∈ nestTab
def FitR (R : Room) (z : MZ) (d mc ms nc ns : Nat) : Prop := ((rmM d mc ms).frames + 1 ≤ R.frames ∧ 8 + (zN z + 11) + (rmM d mc ms).locals ≤ R.locals) ∧ nc + mc ≤ R.cells ∧ ns + ms ≤ R.slots
theorem fit_of {R : Room} {z : MZ} {d0 d mc0 ms0 mc ms nc ns : Nat} (h : R = rmM d0 mc0 ms0) (hd : d < d0) (hz : zN z ≤ 21) (h1 : nc + mc ≤ mc0) (h2 : ns + ms ≤ ms0) : FitR R z d mc ms nc ns := by
  subst h
  refine ⟨⟨?_, ?_⟩, h1, h2⟩
  · show d + 8 + 1 ≤ d0 + 8
    omega
  · show 8 + (zN z + 11) + (40 * d + 240) ≤ 40 * d0 + 240
    omega
def csum (st : List Value) : Nat := (st.map fun v => v.category).sum
theorem csum_map (ad : Nat → Nat) (st : List Value) : ((st.map (cvV ad)).map fun v => v.category).sum = csum st := by
  unfold csum
  rw [List.map_map]
  congr 1
  apply List.map_congr_left
  intro v _
  exact cvV_cat ad v
section CALLS
variable {κ : KX} {z y : MZ} {Q : State → Prop} {pc : Nat} {ls : List (Option Value)} {st rest : List Value} {AH AHs : List AC} {nc ns d mc ms : Nat} {P : PO} {As : List Value}
theorem r_callV (X : CX κ z) (ι δ : List Nat) {o ci index n : Nat} {fs : List Value} {r9 : vw_C} (hM : Sem y d mc ms (.ref o :: As) AHs P) (hk : PK ι δ AH AHs) (hd : fetch (zC z) pc = some (.invokevirtual index, 3)) (hy : LKV y n) (hl : LKA (zY z).cls index y) (hn : As.length = n) (ho : AHs[o]? = some (.inr (ci, fs))) (hr9 : vwCl[ci]? = some r9) (hcl : r9.1 = (zY y).cls)
    (hst : st = (As.map (cvV (iof ι δ AH.length))).reverse ++ cvV (iof ι δ AH.length) (.ref o) :: rest) (hfit : FitR (κR κ) y d mc ms nc ns) (hsum : csum rest ≤ 8) (hsb : ι.length ≤ SB) (hlen : ∀ r AH2, P r AH2 → AH2.length = AHs.length)
    (kk : ∀ v AHs2, P (.inl v) AHs2 → AW κ Q (pc + 3) ls ((v.map (cvV (iof ι δ AH.length))).toList ++ rest) (putB AH ι (AHs2.map (rnE (iof ι δ AH.length)))) (nc + mc) (ns + ms))
    (kx : ∀ E AHs2, P (.inr E) AHs2 → AX κ Q E pc ls rest (putB AH ι (AHs2.map (rnE (iof ι δ AH.length)))) (nc + mc) (ns + ms)) : AW κ Q pc ls st AH nc ns := by
  have hd := cxdec X hd
  subst hst
  obtain ⟨p, l, e, R, s, m, args, below, meth, c, D, cA, A, n0, ad0⟩ := κ
  obtain ⟨hx, hb, hml, hown, hts, hK, hG, hA, hlk, htr, hrt, hnm, hz, hf⟩ := X
  obtain ⟨⟨y1, y2, y3⟩, y4, y5⟩ := hy
  obtain ⟨hR, hC⟩ := hfit
  intro ad H locs lsA h1 h2 h3 hP hD hS hL
  have hstk : (((As.map (cvV (iof ι δ AH.length))).reverse ++ cvV (iof ι δ AH.length) (.ref o) :: rest).map (cvV ad)) = (As.map (cvV fun k => ad (iof ι δ AH.length k))).reverse ++ .ref (ad (iof ι δ AH.length o)) :: rest.map (cvV ad) := by
    simp only [List.map_append, List.map_reverse, List.map_map, List.map_cons]
    congr 1
    congr 1
    apply List.map_congr_left
    intro v _
    exact cvV_comp v
  rw [hstk]
  have hpk := pk_P hk hP
  have hrecv : ∃ cell : Cell, H[ad (iof ι δ AH.length o)]? = some cell ∧ cell.vm.isStatics = false ∧ s.vm.findClass (zY y).cls = some cell.cls := by
    rw [← hcl]
    exact va_recv hK hpk hr9 (cw_at ho)
  have hpre : PreV s H (zY y).cls (ad (iof ι δ AH.length o)) (PCn D cA (fun k => ad (iof ι δ AH.length k)) (.ref o :: As) AHs H.size) (As.map (cvV fun k => ad (iof ι δ AH.length k))) :=
    ⟨PCn.blind, hrecv, fun U hU hW => pk_pre hk hsb h1 hP hD hS hA hK hG (.ref o :: As) U hU hW⟩
  have hroom : 2 * (F0 m pc lsA ((As.map (cvV fun k => ad (iof ι δ AH.length k))).reverse ++ .ref (ad (iof ι δ AH.length o)) :: rest.map (cvV ad))).monitorRoom + ((rest.map (cvV ad)).map fun v => v.category).sum ≤ 8 := lv_room (by rw [csum_map]; exact hsum)
  refine after_call hA h1 h2 h3 hP hD hS hL hk hlen (a := (Value.ref (ad (iof ι δ AH.length o)) :: As.map (cvV fun k => ad (iof ι δ AH.length k))).toArray) ?_ kk kx
  rcases hl with hl | hl
  · exact vx_runV ⟨hx, hb, hml, hown, hts⟩ (hM l htr D cA (fun k => ad (iof ι δ AH.length k)) H.size) ⟨callB_of n hts (wsM_good y1) rfl rfl rfl (hts _ (ALL_of y2)) (hts _ (ALL_of hl)) y3 hR, hts _ (ALL_of y4), hts _ (ALL_of y5)⟩ hpre rfl (by rw [List.length_map]; exact hn) (hL.1.trans hml) rfl hroom hd hC
  · exact vx_runVN ⟨hx, hb, hml, hown, hts⟩ (hM l htr D cA (fun k => ad (iof ι δ AH.length k)) H.size) ⟨va_cnB n hts (wsM_good y1) rfl rfl rfl (hG.2.2.2.2.2.2.1 _ hl) (hts _ (ALL_of y2)) y3 hR, hts _ (ALL_of y4), hts _ (ALL_of y5)⟩ hpre rfl (by rw [List.length_map]; exact hn) (hL.1.trans hml) rfl hroom hd hC
theorem stk_S {ad f : Nat → Nat} : ((As.map (cvV f)).reverse ++ rest).map (cvV ad) = (As.map (cvV fun k => ad (f k))).reverse ++ rest.map (cvV ad) := by
  simp only [List.map_append, List.map_reverse, List.map_map]
  congr 1
  congr 1
  apply List.map_congr_left
  intro v _
  exact cvV_comp v
theorem r_callS (X : CX κ z) (ι δ : List Nat) {index n : Nat} (hM : Sem y d mc ms As AHs P) (hk : PK ι δ AH AHs) (hd : fetch (zC z) pc = some (.invokestatic index, 3)) (hy : LKS y n) (hl : LKA (zY z).cls index y) (hn : As.length = n)
    (hst : st = (As.map (cvV (iof ι δ AH.length))).reverse ++ rest) (hfit : FitR (κR κ) y d mc ms nc ns) (hsum : csum rest ≤ 8) (hsb : ι.length ≤ SB) (hlen : ∀ r AH2, P r AH2 → AH2.length = AHs.length)
    (kk : ∀ v AHs2, P (.inl v) AHs2 → AW κ Q (pc + 3) ls ((v.map (cvV (iof ι δ AH.length))).toList ++ rest) (putB AH ι (AHs2.map (rnE (iof ι δ AH.length)))) (nc + mc) (ns + ms))
    (kx : ∀ E AHs2, P (.inr E) AHs2 → AX κ Q E pc ls rest (putB AH ι (AHs2.map (rnE (iof ι δ AH.length)))) (nc + mc) (ns + ms)) : AW κ Q pc ls st AH nc ns := by
  have hd := cxdec X hd
  subst hst
  obtain ⟨p, l, e, R, s, m, args, below, meth, c, D, cA, A, n0, ad0⟩ := κ
  obtain ⟨hx, hb, hml, hown, hts, hK, hG, hA, hlk, htr, hrt, hnm, hz, hf⟩ := X
  obtain ⟨⟨y1, y2, y3⟩, y4⟩ := hy
  obtain ⟨hR, hC⟩ := hfit
  intro ad H locs lsA h1 h2 h3 hP hD hS hL
  rw [stk_S]
  have hpre : PreS s H (PCn D cA (fun k => ad (iof ι δ AH.length k)) As AHs H.size) (As.map (cvV fun k => ad (iof ι δ AH.length k))) :=
    ⟨PCn.blind, fun U hU hW => pk_pre hk hsb h1 hP hD hS hA hK hG As U hU hW⟩
  have hroom : 2 * (F0 m pc lsA ((As.map (cvV fun k => ad (iof ι δ AH.length k))).reverse ++ rest.map (cvV ad))).monitorRoom + ((rest.map (cvV ad)).map fun v => v.category).sum ≤ 8 := lv_room (by rw [csum_map]; exact hsum)
  refine after_call hA h1 h2 h3 hP hD hS hL hk hlen (a := (As.map (cvV fun k => ad (iof ι δ AH.length k))).toArray) ?_ kk kx
  rcases hl with hl | hl
  · exact vx_runS ⟨hx, hb, hml, hown, hts⟩ (hM l htr D cA (fun k => ad (iof ι δ AH.length k)) H.size) ⟨callB_of n hts (wsM_good y1) rfl rfl rfl (hts _ (ALL_of y2)) (hts _ (ALL_of hl)) y3 hR, hts _ (ALL_of y4)⟩ hpre rfl (by rw [List.length_map]; exact hn) (hL.1.trans hml) rfl hroom hd hC
  · exact vx_runSN ⟨hx, hb, hml, hown, hts⟩ (hM l htr D cA (fun k => ad (iof ι δ AH.length k)) H.size) ⟨va_cnB n hts (wsM_good y1) rfl rfl rfl (hG.2.2.2.2.2.2.1 _ hl) (hts _ (ALL_of y2)) y3 hR, hts _ (ALL_of y4), trivial⟩ hpre rfl (by rw [List.length_map]; exact hn) (hL.1.trans hml) rfl hroom hd hC
/-- a static method with handlers -/
theorem r_callSX (X : CX κ z) (ι δ : List Nat) {index n : Nat} {hh : List (Nat × Nat × Nat × Nat)} (hM : SemX y hh d mc ms As AHs P) (hk : PK ι δ AH AHs) (hd : fetch (zC z) pc = some (.invokestatic index, 3)) (hy : Cond.codeWith (zY y) (zB y) (zN y) (zR y) hh ∈ ALL ∧ inALL (.initialized (zY y).cls) = true ∧ ((zY y).cls ≠ "java/lang/invoke/MethodHandle" ∧ (zY y).cls ≠ "java/lang/invoke/VarHandle" ∧ (parseMethodDescriptor (zY y).desc).map (fun d => d.parameters.length) = some n) ∧ inALL (.static (zY y)) = true) (hl : inALL (.methodLink (zY z).cls index (zY y)) = true) (hn : As.length = n)
    (hst : st = (As.map (cvV (iof ι δ AH.length))).reverse ++ rest) (hfit : FitR (κR κ) y d mc ms nc ns) (hsum : csum rest ≤ 8) (hsb : ι.length ≤ SB) (hlen : ∀ r AH2, P r AH2 → AH2.length = AHs.length)
    (kk : ∀ v AHs2, P (.inl v) AHs2 → AW κ Q (pc + 3) ls ((v.map (cvV (iof ι δ AH.length))).toList ++ rest) (putB AH ι (AHs2.map (rnE (iof ι δ AH.length)))) (nc + mc) (ns + ms))
    (kx : ∀ E AHs2, P (.inr E) AHs2 → AX κ Q E pc ls rest (putB AH ι (AHs2.map (rnE (iof ι δ AH.length)))) (nc + mc) (ns + ms)) : AW κ Q pc ls st AH nc ns := by
  have hd := cxdec X hd
  subst hst
  obtain ⟨p, l, e, R, s, m, args, below, meth, c, D, cA, A, n0, ad0⟩ := κ
  obtain ⟨hx, hb, hml, hown, hts, hK, hG, hA, hlk, htr, hrt, hnm, hz, hf⟩ := X
  obtain ⟨y1, y2, y3, y4⟩ := hy
  obtain ⟨hR, hC⟩ := hfit
  intro ad H locs lsA h1 h2 h3 hP hD hS hL
  rw [stk_S]
  have hpre : PreS s H (PCn D cA (fun k => ad (iof ι δ AH.length k)) As AHs H.size) (As.map (cvV fun k => ad (iof ι δ AH.length k))) :=
    ⟨PCn.blind, fun U hU hW => pk_pre hk hsb h1 hP hD hS hA hK hG As U hU hW⟩
  have hroom : 2 * (F0 m pc lsA ((As.map (cvV fun k => ad (iof ι δ AH.length k))).reverse ++ rest.map (cvV ad))).monitorRoom + ((rest.map (cvV ad)).map fun v => v.category).sum ≤ 8 := lv_room (by rw [csum_map]; exact hsum)
  refine after_call hA h1 h2 h3 hP hD hS hL hk hlen (a := (As.map (cvV fun k => ad (iof ι δ AH.length k))).toArray) ?_ kk kx
  have hgood : GoodIn ALL (va_wsS (zY z).cls index (zY y) (wsMX y hh)) := by
    intro w hw
    rcases List.mem_append.mp hw with hw | hw
    · have : w ∈ ALL := by
        simp only [List.mem_cons, List.not_mem_nil, or_false] at hw
        rcases hw with rfl | rfl | rfl
        · exact ALL_of hl
        · exact ALL_of y4
        · exact ALL_of y2
      exact ⟨this, ALL_good _ this⟩
    · exact wsMX_good y1 w hw
  exact vx_runSX ⟨hx, hb, hml, hown, hts⟩ (hM l htr D cA (fun k => ad (iof ι δ AH.length k)) H.size) (vx_cwSW n hts hgood rfl rfl rfl y3 hR) hpre rfl (by rw [List.length_map]; exact hn) (hL.1.trans hml) rfl hroom hd hC
end CALLS
