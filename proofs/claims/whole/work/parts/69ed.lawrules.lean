/-! ===== 69ed: rules for the law: its script, its calls ===== -/
def SCX : KX → Nat → (Nat → Int32) → Prop
  | (p, l, e, R, s, m, args, below, meth, c, D, cA, A, n0, ad0), L, xs => va_X (ad0 (SB + 201)) L xs s s.heap ∧ ad0 (SB + 201) < s.heap.size ∧ ¬ A (ad0 (SB + 201))
def isI : Value → Bool
  | .int _ => true
  | _ => false
theorem map_isI {f : Nat → Nat} : ∀ {As : List Value}, As.all isI = true → As.map (cvV f) = As
  | [], _ => rfl
  | v :: t, h => by
    simp only [List.all_cons, Bool.and_eq_true] at h
    rw [List.map_cons, map_isI h.2]
    cases v with
    | int x => rfl
    | _ => exact absurd h.1 Bool.false_ne_true
theorem lka_law {idx : Nat} {y : MZ} (h : LKA RL idx y) : inALL (.methodLink RL idx (zY y)) = true := by
  rcases h with h | h
  · exact h
  · have h2 : ∀ q ∈ nestTab, q.1 ≠ RL := by decide +kernel
    exact absurd rfl (h2 _ h)
section LAW
variable {κ : KX} {z y : MZ} {Q : State → Prop} {pc : Nat} {ls : List (Option Value)} {st rest : List Value} {AH AHs : List AC} {nc ns d mc ms : Nat} {As : List Value} {L : Nat} {xs : Nat → Int32}
theorem AW.widen {nc' ns' : Nat} (h1 : nc ≤ nc') (h2 : ns ≤ ns') (k : AW κ Q pc ls st AH nc' ns') : AW κ Q pc ls st AH nc ns := by
  obtain ⟨p, l, e, R, s, m, args, below, meth, c, D, cA, A, n0, ad0⟩ := κ
  intro ad H locs lsA g1 g2 g3 hP hD hS hL
  exact W.widen h1 h2 (k ad H locs lsA g1 g2 g3 hP hD hS hL)
theorem r_sld (X : CX κ z) (SX : SCX κ L xs) {i : Int32} (hd : fetch (zC z) pc = some (.iaload, 1)) (hin : vp_in i L) (k : AW κ Q (pc + 1) ls (.int (xs i.toNatClampNeg) :: rest) AH nc ns) : AW κ Q pc ls (.int i :: .ref (SB + 201) :: rest) AH nc ns := by
  have hd := cxdec X hd
  obtain ⟨p, l, e, R, s, m, args, below, meth, c, D, cA, A, n0, ad0⟩ := κ
  obtain ⟨hx, hb, hml, hown, hts, hK, hG, hA, hlk, htr, hrt, hnm, hz, hf⟩ := X
  obtain ⟨s1, s2, s3⟩ := SX
  intro ad H locs lsA h1 h2 h3 hP hD hS hL
  have e1 : ad (SB + 201) = ad0 (SB + 201) := h1 _ (Or.inr (Nat.le_add_right _ _))
  show W p l e R s m args below meth c H locs nc ns Q (F0 m pc lsA (.int i :: .ref (ad (SB + 201)) :: rest.map (cvV ad)))
  rw [e1]
  exact va_sld hx hb s1 s2 s3 hS hin hd (k ad H locs lsA h1 h2 h3 hP hD hS hL)
theorem r_slenA (X : CX κ z) (SX : SCX κ L xs) (hd : fetch (zC z) pc = some (.arraylength, 1)) (k : AW κ Q (pc + 1) ls (.int (Int32.ofNat L) :: rest) AH nc ns) : AW κ Q pc ls (.ref (SB + 201) :: rest) AH nc ns := by
  have hd := cxdec X hd
  obtain ⟨p, l, e, R, s, m, args, below, meth, c, D, cA, A, n0, ad0⟩ := κ
  obtain ⟨hx, hb, hml, hown, hts, hK, hG, hA, hlk, htr, hrt, hnm, hz, hf⟩ := X
  obtain ⟨s1, s2, s3⟩ := SX
  intro ad H locs lsA h1 h2 h3 hP hD hS hL
  have e1 : ad (SB + 201) = ad0 (SB + 201) := h1 _ (Or.inr (Nat.le_add_right _ _))
  show W p l e R s m args below meth c H locs nc ns Q (F0 m pc lsA (.ref (ad (SB + 201)) :: rest.map (cvV ad)))
  rw [e1]
  exact va_slen hx hb s1 s2 s3 hS hd (k ad H locs lsA h1 h2 h3 hP hD hS hL)
theorem r_arg (X : CX κ z) (SX : SCX κ L xs) {i c9 : Int32} {pc2 : Nat} (hr : run z 4 (pc, ls, rest, AH) = some (pc2, ls, .int (i + c9) :: .ref (SB + 201) :: rest, AH)) (hd : fetch (zC z) pc2 = some (.iaload, 1)) (hin : vp_in (i + c9) L) (k : AW κ Q (pc2 + 1) ls (.int (xs (i + c9).toNatClampNeg) :: rest) AH nc ns) : AW κ Q pc ls rest AH nc ns := go_s 4 X hr (r_sld X SX hd hin k)
theorem fitL (hR : κR κ = room_1) (hd : d ≤ 1000) (hz : zN y ≤ 21) (h1 : nc + mc ≤ 601024) (h2 : ns + ms ≤ 7293034) : FitR (κR κ) y d mc ms nc ns := by
  rw [hR]
  refine ⟨⟨?_, ?_⟩, h1, h2⟩
  · show d + 8 + 1 ≤ 2048
    omega
  · show 8 + (zN y + 11) + (40 * d + 240) ≤ 84000
    omega
/-- a call of a method of the class or of the reference: ints in, no reference out -/
theorem lcV (X : CX κ z) (ι δ : List Nat) {o' ci index n : Nat} {fs : List Value} {r9 : vw_C} {x : Value} {W2 AH2 : List AC} (hM : Sem y d mc ms (.ref 0 :: As) AHs (PST (.inl (some x)) W2)) (hk : PK ι δ AH AHs) (h0 : iof ι δ AH.length 0 = o') (hsb : ι.length ≤ SB) (hput : putB AH ι (W2.map (rnE (iof ι δ AH.length))) = AH2) (hd : fetch (zC z) pc = some (.invokevirtual index, 3)) (hy : LKV y n) (hl : LKA RL index y) (hz : (zY z).cls = RL) (hn : As.length = n) (hAs : As.all isI = true) (hst : st = As.reverse ++ .ref o' :: rest) (ho : AHs[0]? = some (.inr (ci, fs))) (hr9 : vwCl[ci]? = some r9) (hcl : r9.1 = (zY y).cls) (hx : nrf x = true) (hlen : W2.length = AHs.length) (hfit : FitR (κR κ) y d mc ms nc ns) (hsum : csum rest ≤ 8)
    (k : AW κ Q (pc + 3) ls (x :: rest) AH2 (nc + mc) (ns + ms)) : AW κ Q pc ls st AH nc ns := by
  refine q_callV X ι δ (o := 0) hM hk hd hy (by rw [hz]; exact hl) hn ho hr9 hcl ?_ hfit hsum hsb hlen hput ?_ k
  · rw [map_isI hAs, hst]
    show As.reverse ++ .ref o' :: rest = As.reverse ++ .ref (iof ι δ AH.length 0) :: rest
    rw [h0]
  · cases x with
    | ref a => cases hx
    | _ => rfl
/-- a call of one of the law's own methods, with handlers -/
theorem lcS (X : CX κ z) (ι δ : List Nat) {index n q : Nat} {hh : List (Nat × Nat × Nat × Nat)} {t : Int32} {W2 AH2 : List AC} (As : List Value) (hM : SemX y hh d mc ms (.ref 0 :: (As ++ [.ref q])) AHs (PST (.inl (some (.int t))) W2)) (hk : PK ι δ AH AHs) (h0 : iof ι δ AH.length 0 = 0) (hq : iof ι δ AH.length q = 201) (hsb : ι.length ≤ SB) (hput : putB AH ι (W2.map (rnE (iof ι δ AH.length))) = AH2) (hd : fetch (zC z) pc = some (.invokestatic index, 3)) (hy : Cond.codeWith (zY y) (zB y) (zN y) (zR y) hh ∈ ALL ∧ inALL (.initialized (zY y).cls) = true ∧ ((zY y).cls ≠ "java/lang/invoke/MethodHandle" ∧ (zY y).cls ≠ "java/lang/invoke/VarHandle" ∧ (parseMethodDescriptor (zY y).desc).map (fun d => d.parameters.length) = some n) ∧ inALL (.static (zY y)) = true) (hl : LKA RL index y) (hz : (zY z).cls = RL) (hn : As.length + 2 = n) (hAs : As.all isI = true) (hst : st = .ref 201 :: (As.reverse ++ .ref 0 :: rest)) (hlen : W2.length = AHs.length) (hfit : FitR (κR κ) y d mc ms nc ns) (hsum : csum rest ≤ 8)
    (k : AW κ Q (pc + 3) ls (.int t :: rest) AH2 (nc + mc) (ns + ms)) : AW κ Q pc ls st AH nc ns := by
  subst hput
  refine r_callSX X ι δ hM hk hd hy (by rw [hz]; exact lka_law hl) (by simp only [List.length_cons, List.length_append, List.length_nil]; omega) ?_ hfit hsum hsb (fun _ _ e => (congrArg List.length e.2).trans hlen) (fun v9 A9 e => ?_) (fun E9 A9 e => ?_)
  · rw [List.map_cons, List.map_append, map_isI hAs, List.reverse_cons, List.reverse_append, hst]
    show _ = (.ref (iof ι δ AH.length q) :: [] ++ As.reverse ++ [.ref (iof ι δ AH.length 0)]) ++ rest
    rw [h0, hq]
    simp
  · obtain ⟨e1, rfl⟩ := e
    cases e1
    exact k
  · have e1 := e.1
    cases e1
abbrev L0 (i : Int32) : List (Option Value) := [some (.ref (SB + 201)), some (.ref 0), some (.ref 190), some (.ref 201), some (.int i), none, none, none, none]
def KONT (κ : KX) (Q : State → Prop) (i : Int32) (nc ns : Nat) : Prop := ∀ (b : Bool) (jf : Nat → Int32) (hs : Int32) (R : RV) (T : TV) (O : OV) (Y : YV) (S C K : SV) (U D : UV) (v : MV) (A : Nat → Int64), ALL' hs R O Y S C K U v → AW κ Q 3130 (L0 i) [] (LW b jf hs R T O Y S C K U D v A) (nc + 4) (ns + 24)
theorem lw_fin {a1 a2 a3 a4 a5 q5 q6 q7 q8 : Option Value} (k : AW κ Q pc [a1, a2, a3, a4, a5, none, none, none, none] [] AH nc ns) : AW κ Q pc [a1, a2, a3, a4, a5, q5, q6, q7, q8] [] AH nc ns := by
  refine AW.forget (ls' := [a1, a2, a3, a4, a5, none, none, none, none]) rfl (fun i v h => ?_) k
  match i, h with
  | 0, h => exact h
  | 1, h => exact h
  | 2, h => exact h
  | 3, h => exact h
  | 4, h => exact h
  | 5, h => cases h
  | 6, h => cases h
  | 7, h => cases h
  | 8, h => cases h
  | j + 9, h => cases h
theorem kfin {i : Int32} (hk : KONT κ Q i nc ns) {b : Bool} {jf : Nat → Int32} {hs : Int32} {R : RV} {T : TV} {O : OV} {Y : YV} {S C K : SV} {U D : UV} {v : MV} {A : Nat → Int64} (hA : ALL' hs R O Y S C K U v) {nc' ns' : Nat} (h1 : nc' ≤ nc + 4) (h2 : ns' ≤ ns + 24) {q5 q6 q7 q8 : Option Value} : AW κ Q 3130 [some (.ref (SB + 201)), some (.ref 0), some (.ref 190), some (.ref 201), some (.int i), q5, q6, q7, q8] [] (LW b jf hs R T O Y S C K U D v A) nc' ns' :=
  lw_fin (AW.widen h1 h2 (hk b jf hs R T O Y S C K U D v A hA))
end LAW
theorem lg_self (x : Int64) : lg_cmp x x = 0 := by
  unfold lg_cmp
  simp
theorem in01 : vp_in 0 1 := by
  unfold vp_in
  decide
/-- the six ints of one call lie in the script -/
def SI (L : Nat) (i : Int32) : Prop := vp_in i L ∧ vp_in (i + 1) L ∧ vp_in (i + 2) L ∧ vp_in (i + 3) L ∧ vp_in (i + 4) L ∧ vp_in (i + 5) L
theorem f2d_n64 {x : UInt32} (h : x &&& 0x7fffffff ≤ 0x7f800000) : vf_n64 (FP.f2d x) := by
  have hx : FP.Core.decode FP.Core.b32 x.toNat ≠ .nan := by
    refine dec32 ?_
    rw [UInt32.le_iff_toNat_le, UInt32.toNat_and] at h
    have e1 : (0x7fffffff : UInt32).toNat = 2 ^ 31 - 1 := by decide +kernel
    have e2 : (0x7f800000 : UInt32).toNat = 2139095040 := by decide +kernel
    rw [e1, e2, Nat.and_two_pow_sub_one_eq_mod] at h
    exact h
  have hn : FP.Core.fIsNaN x = false := by
    show decide (FP.Core.decode FP.Core.b32 x.toNat = .nan) = false
    exact decide_eq_false hx
  have hg : gD FP.Core.b64 (FP.Core.round FP.Core.b64 (FP.Core.decode FP.Core.b32 x.toNat)) := by
    cases ea : FP.Core.decode FP.Core.b32 x.toNat with
    | nan => exact absurd ea hx
    | inf s => exact True.intro
    | fin s c q => exact gD_rr (by rw [k64d, k64e]; decide) (by rw [k64a, k64c]; decide) _ _ _ _
  obtain ⟨h1, h2⟩ := enc64 hg
  show FP.f2d x &&& 0x7fffffffffffffff ≤ 0x7ff0000000000000
  have e0 : FP.f2d x = UInt64.ofNat (FP.Core.encode FP.Core.b64 (FP.Core.round FP.Core.b64 (FP.Core.decode FP.Core.b32 x.toNat))) := by
    unfold FP.f2d
    rw [hn]
    rfl
  rw [e0, UInt64.le_iff_toNat_le, UInt64.toNat_and, toN64 h1]
  have e1 : (0x7fffffffffffffff : UInt64).toNat = 2 ^ 63 - 1 := by decide +kernel
  have e2 : (0x7ff0000000000000 : UInt64).toNat = 9218868437227405312 := by decide +kernel
  rw [e1, e2, Nat.and_two_pow_sub_one_eq_mod]
  exact h2
