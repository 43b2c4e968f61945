/-! ===== 47: the output, on both sides ===== -/
def dig (i : Nat) : List Nat := if i < 10 then [48 + i % 10] else [48 + i / 10, 48 + i % 10]
def txt : Tr → List Nat
  | .leaf _ => []
  | .branch i l r => match l with
    | .leaf _ => dig i
    | .branch j a b => dig i ++ (40 :: (txt (.branch j a b) ++ (44 :: (txt r ++ [41]))))
theorem txt_1 {i : Nat} {u : Unit} {r : Tr} : txt (.branch i (.leaf u) r) = dig i := by rw [txt]
theorem txt_2 {i j : Nat} {a b r : Tr} : txt (.branch i (.branch j a b) r) = dig i ++ (40 :: (txt (.branch j a b) ++ (44 :: (txt r ++ [41])))) := by rw [txt]
theorem dig_len {i : Nat} : (dig i).length ≤ 2 := by
  unfold dig
  split <;> simp
theorem txt_len : ∀ {t : Tr}, (txt t).length ≤ 5 * (nds t).length := by
  intro t
  induction t with
  | leaf u => exact Nat.le_refl _
  | branch i l r ihl ihr =>
    have hd := @dig_len i
    cases l with
    | leaf u =>
      rw [txt_1]
      simp only [nds, List.length_cons, List.length_append]
      omega
    | branch j a b =>
      rw [txt_2]
      simp only [List.length_cons, List.length_append, List.length_nil] at ihl ⊢
      rw [show (nds (Lean.RArray.branch i (Lean.RArray.branch j a b) r)).length = 1 + (nds (Lean.RArray.branch j a b)).length + (nds r).length by simp [nds]; omega]
      omega
/-- the bytes L stand in the row B, n is their number -/
def ORp (L : List Nat) (B : Nat → Int32) (n : Int32) : Prop := n = nI L.length ∧ ∀ j c, L[j]? = some c → B j = nI c
theorem ORp.add {L : List Nat} {B : Nat → Int32} {n : Int32} {c : Nat} (h : ORp L B n) : ORp (L ++ [c]) (upd B L.length (nI c)) (n + 1) := by
  refine ⟨by rw [h.1, nI_1, List.length_append]; rfl, fun j d hj => ?_⟩
  by_cases e : j = L.length
  · subst e
    rw [upd_eq]
    have : c = d := by simpa using hj
    rw [this]
  · rw [upd_ne e]
    have hl := (List.getElem?_eq_some_iff.mp hj).1
    rw [List.length_append] at hl
    simp only [List.length_cons, List.length_nil] at hl
    rw [List.getElem?_append_left (by omega)] at hj
    exact h.2 j d hj
theorem add_ok {L : List Nat} {B : Nat → Int32} {n : Int32} {c : Nat} (h : ORp L B n) (hl : L.length < 200) : f_X3_add (B, n) (nI c) = some ((), (upd B L.length (nI c), n + 1)) := by
  have e := h.1
  subst e
  unfold f_X3_add
  show (if nI L.length < 0 then _ else if 200 ≤ nI L.length then _ else if oob (nI L.length) 200 then _ else some ((), (upd B (Int32.toNatClampNeg (nI L.length)) (nI c), nI L.length + 1))) = _
  rw [if_neg (nI_pos (by omega)), if_neg (show ¬ (200 : Int32) ≤ nI L.length from nI_ge (b := 200) hl (by decide)), if_neg (nI_in hl (by decide)), nI_clamp (by omega)]
theorem dig_n : ∀ i, i < 40 → (48 : Int32) + (nI i - nI i / 10 * 10) = nI (48 + i % 10) ∧ (48 : Int32) + nI i / 10 = nI (48 + i / 10) := by decide +kernel
theorem addNumber_ok {L : List Nat} {B : Nat → Int32} {n : Int32} {i : Nat} (h : ORp L B n) (hi : i < 40) (hl : L.length + (dig i).length ≤ 200) : ∃ B' n', f_X3_addNumber (B, n) (nI i) = some ((), (B', n')) ∧ ORp (L ++ dig i) B' n' := by
  obtain ⟨e1, e2⟩ := dig_n i hi
  unfold f_X3_addNumber dig at *
  by_cases c : i < 10
  · rw [if_pos c] at hl ⊢
    simp only [List.length_cons, List.length_nil] at hl
    rw [if_pos (show nI i < 10 from nI_lt (b := 10) c (by decide)), if_neg (by decide), e1, add_ok h (by omega), bnd2_some]
    exact ⟨_, _, rfl, h.add⟩
  · rw [if_neg c] at hl ⊢
    simp only [List.length_cons, List.length_nil] at hl
    rw [if_neg (show ¬ nI i < 10 from nI_nlt (b := 10) (by omega) (by omega)), if_neg (by decide), e2, add_ok h (by omega), bnd2_some, if_neg (by decide), e1, add_ok h.add (by rw [List.length_append]; simp only [List.length_cons, List.length_nil]; omega), bnd2_some]
    refine ⟨_, _, rfl, ?_⟩
    have := (h.add (c := 48 + i / 10)).add (c := 48 + i % 10)
    rwa [List.append_assoc] at this
theorem wt_ok {h : HV} : ∀ {t : Tr} {n b : Nat} {L : List Nat} {B : Nat → Int32} {x : Int32}, sub (gH h) t → htT t < n → b + htT t ≤ 41 → ORp L B x → L.length + (txt t).length ≤ 200 →
    ∃ B' x', f_X8_writeTree n (h, (B, x)) (hv t) (nI b) = some ((), (h, (B', x'))) ∧ ORp (L ++ txt t) B' x' := by
  intro t
  induction t with
  | leaf u =>
    intro n b L B x _ hn _ hO _
    obtain ⟨n, rfl⟩ : ∃ m, n = m + 1 := ⟨n - 1, by omega⟩
    rw [f_X8_writeTree, show hv (.leaf u : Tr) = -1 from rfl, isNode_m, Option.bind_some, if_pos rfl]
    refine ⟨B, x, rfl, ?_⟩
    rw [show txt (.leaf u : Tr) = [] from rfl, List.append_nil]
    exact hO
  | branch i l r ihl ihr =>
    intro n b L B x hs hn hb hO hl
    obtain ⟨n, rfl⟩ : ∃ m, n = m + 1 := ⟨n - 1, by omega⟩
    obtain ⟨i40, gl, gr, -, -, -, sl, sr⟩ := hs
    have hh : htT (Lean.RArray.branch i l r) = 1 + max (htT l) (htT r) := rfl
    rw [hh] at hn hb
    have hbb : b < 2 ^ 31 := by omega
    rw [f_X8_writeTree, show hv (Lean.RArray.branch i l r : Tr) = nI i from rfl, isNode_n i40, Option.bind_some, if_neg n10, if_pos (show nI b ≤ 40 from nI_le (b := 40) (by omega) (by decide))]
    cases l with
    | leaf u =>
      rw [txt_1] at hl ⊢
      obtain ⟨B1, x1, a1, a2⟩ := addNumber_ok hO i40 hl
      rw [show f_X3_addNumber (P_HV_OVB (h, (B, x))) (nI i) = _ from a1, bnd2_some]
      simp only [if_neg (o40 i40), c40 i40]
      rw [if_pos (show HVLf (P_HV_OVA (h, (B, x))) i = -1 from gl)]
      exact ⟨B1, x1, rfl, a2⟩
    | branch j la lb =>
      rw [txt_2] at hl ⊢
      simp only [List.length_append, List.length_cons, List.length_nil] at hl
      obtain ⟨B1, x1, a1, a2⟩ := addNumber_ok hO i40 (by omega)
      rw [show f_X3_addNumber (P_HV_OVB (h, (B, x))) (nI i) = _ from a1, bnd2_some]
      simp only [if_neg (o40 i40), c40 i40]
      have j40 : j < 40 := sl.1
      rw [if_neg (show ¬ HVLf (P_HV_OVA (h, (B, x))) i = -1 from fun e => nI_m j40 (by rw [← e]; exact gl.symm))]
      have l2 : (L ++ dig i).length < 200 := by rw [List.length_append]; omega
      rw [show f_X3_add (B1, x1) 40 = _ from add_ok (c := 40) a2 l2, bnd2_some]
      have a3 := a2.add (c := 40)
      obtain ⟨B2, x2, b1, b2⟩ := ihl (n := n) (b := b + 1) sl (by omega) (by omega) a3 (by simp only [List.length_append, List.length_cons, List.length_nil]; omega)
      rw [show HVLf (P_HV_OVA (h, (B, x))) i = hv (.branch j la lb) from gl, nI_1, show f_X8_writeTree n (P_HV_OVA (h, (B, x)), (upd B1 (L ++ dig i).length (nI 40), x1 + 1)) (hv (.branch j la lb)) (nI (b + 1)) = _ from b1, bnd2_some]
      rw [show f_X3_add (P_HV_OVB (h, (B2, x2))) 44 = _ from add_ok (c := 44) b2 (by simp only [List.length_append, List.length_cons, List.length_nil]; omega), bnd2_some]
      have b3 := b2.add (c := 44)
      obtain ⟨B3, x3, c1, c2⟩ := ihr (n := n) (b := b + 1) sr (by omega) (by omega) b3 (by simp only [List.length_append, List.length_cons, List.length_nil]; omega)
      rw [show HVRt (P_HV_OVA (h, (B2, x2))) i = hv r from gr]
      rw [show f_X8_writeTree n (P_HV_OVA (h, (B2, x2)), _) (hv r) (nI (b + 1)) = _ from c1, bnd2_some]
      rw [show f_X3_add (P_HV_OVB (h, (B3, x3))) 41 = _ from add_ok (c := 41) c2 (by simp only [List.length_append, List.length_cons, List.length_nil]; omega), bnd2_some]
      refine ⟨_, _, rfl, ?_⟩
      have c3 := c2.add (c := 41)
      rw [show L ++ dig i ++ [40] ++ txt (Lean.RArray.branch j la lb) ++ [44] ++ txt r ++ [41] = L ++ (dig i ++ 40 :: (txt (Lean.RArray.branch j la lb) ++ 44 :: (txt r ++ [41]))) by simp only [List.append_assoc, List.cons_append, List.nil_append]] at c3
      exact c3
/-! the reference -/
def mo (v : MV) (B : Nat → Int32) (n : Int32) : MV := (MVSt v, MVAs v, MVSv v, MVPt v, MVPc v, MVIs v, MVTh v, MVSp v, MVSl v, MVBf v, MVLn v, MVEc v, MVEo v, MVSa v, MVEn v, MVTk v, MVVa v, MVFa v, MVFo v, MVSm v, MVSc v, MVOr v, B, n)
theorem nar_n : ∀ c, c < 128 → vp_nar .byte (Int8.toInt32 (Int32.toInt8 (nI c))) = nI c := by decide +kernel
theorem mo_l {v : MV} {B : Nat → Int32} {n : Int32} : MVOl (mo v B n) = n := rfl
theorem mo_u {v : MV} {B : Nat → Int32} {n : Int32} : MVOu (mo v B n) = B := rfl
theorem mo_s {v : MV} {B B' : Nat → Int32} {n n' : Int32} : MV_sOl (MV_sOu (mo v B n) B') n' = mo v B' n' := rfl
theorem write_ok {v : MV} {L : List Nat} {B : Nat → Int32} {n : Int32} {c : Nat} (h : ORp L B n) (hl : L.length < 240) (hc : c < 128) : f_X9_write (mo v B n) (nI c) = some ((), mo v (upd B L.length (nI c)) (n + 1)) := by
  have e := h.1
  subst e
  unfold f_X9_write
  rw [mo_l, mo_u, if_neg (nI_in hl (by decide)), nI_clamp (by omega), nar_n c hc, mo_s]
theorem writeNumber_ok {v : MV} {L : List Nat} {B : Nat → Int32} {n : Int32} {i : Nat} (h : ORp L B n) (hi : i < 40) (hl : L.length + (dig i).length ≤ 200) : ∃ B' n', f_X9_writeNumber (mo v B n) (nI i) = some ((), mo v B' n') ∧ ORp (L ++ dig i) B' n' := by
  obtain ⟨e1, e2⟩ := dig_n i hi
  unfold f_X9_writeNumber dig at *
  by_cases c : i < 10
  · rw [if_pos c] at hl ⊢
    simp only [List.length_cons, List.length_nil] at hl
    rw [if_pos (show nI i ≤ 9 from nI_le (b := 9) (by omega) (by decide)), if_neg (by decide), e1, write_ok h (by omega) (by omega), bnd2_some]
    exact ⟨_, _, rfl, h.add⟩
  · rw [if_neg c] at hl ⊢
    simp only [List.length_cons, List.length_nil] at hl
    rw [if_neg (show ¬ nI i ≤ 9 from nI_ge (a := 9) (by omega) (by omega)), if_neg (by decide), e2, write_ok h (by omega) (by omega), bnd2_some, if_neg (by decide), e1, write_ok h.add (by rw [List.length_append]; simp only [List.length_cons, List.length_nil]; omega) (by omega), bnd2_some]
    refine ⟨_, _, rfl, ?_⟩
    have := (h.add (c := 48 + i / 10)).add (c := 48 + i % 10)
    rwa [List.append_assoc] at this
theorem mwt_ok {v : MV} : ∀ {t : Tr} {n : Nat} {L : List Nat} {B : Nat → Int32} {x : Int32}, sub (gM (MVSt v)) t → htT t < n → ORp L B x → L.length + (txt t).length ≤ 200 →
    ∃ B' x', f_X9_writeFrom n (mo v B x) (hv t) = some ((), mo v B' x') ∧ ORp (L ++ txt t) B' x' := by
  intro t
  induction t with
  | leaf u =>
    intro n L B x _ hn hO _
    obtain ⟨n, rfl⟩ : ∃ m, n = m + 1 := ⟨n - 1, by omega⟩
    rw [f_X9_writeFrom, show hv (.leaf u : Tr) = -1 from rfl, if_pos rfl]
    refine ⟨B, x, rfl, ?_⟩
    rw [show txt (.leaf u : Tr) = [] from rfl, List.append_nil]
    exact hO
  | branch i l r ihl ihr =>
    intro n L B x hs hn hO hl
    obtain ⟨n, rfl⟩ : ∃ m, n = m + 1 := ⟨n - 1, by omega⟩
    obtain ⟨i40, gl, gr, -, -, -, sl, sr⟩ := hs
    have hh : htT (Lean.RArray.branch i l r) = 1 + max (htT l) (htT r) := rfl
    rw [hh] at hn
    rw [f_X9_writeFrom, show hv (Lean.RArray.branch i l r : Tr) = nI i from rfl, if_neg (nI_m i40)]
    cases l with
    | leaf u =>
      rw [txt_1] at hl ⊢
      obtain ⟨B1, x1, a1, a2⟩ := writeNumber_ok (v := v) hO i40 hl
      rw [a1, bnd2_some, get_5 i40, Option.bind_some, if_pos (show jf (MVSt (mo v B1 x1)) 5 i = -1 from gl)]
      exact ⟨B1, x1, rfl, a2⟩
    | branch j la lb =>
      rw [txt_2] at hl ⊢
      simp only [List.length_append, List.length_cons, List.length_nil] at hl
      obtain ⟨B1, x1, a1, a2⟩ := writeNumber_ok (v := v) hO i40 (by omega)
      have j40 : j < 40 := sl.1
      rw [a1, bnd2_some, get_5 i40, Option.bind_some, if_neg (show ¬ jf (MVSt (mo v B1 x1)) 5 i = -1 from fun e => nI_m j40 (by rw [← e]; exact gl.symm))]
      have l2 : (L ++ dig i).length < 240 := by rw [List.length_append]; omega
      rw [show f_X9_write (mo v B1 x1) 40 = _ from write_ok (c := 40) a2 l2 (by decide), bnd2_some, get_5 i40, Option.bind_some]
      have a3 := a2.add (c := 40)
      obtain ⟨B2, x2, b1, b2⟩ := ihl (n := n) sl (by omega) a3 (by simp only [List.length_append, List.length_cons, List.length_nil]; omega)
      rw [show jf (MVSt (mo v (upd B1 (L ++ dig i).length (nI 40)) (x1 + 1))) 5 i = hv (.branch j la lb) from gl, b1, bnd2_some]
      rw [show f_X9_write (mo v B2 x2) 44 = _ from write_ok (c := 44) b2 (by simp only [List.length_append, List.length_cons, List.length_nil]; omega) (by decide), bnd2_some, get_6 i40, Option.bind_some]
      have b3 := b2.add (c := 44)
      obtain ⟨B3, x3, c1, c2⟩ := ihr (n := n) sr (by omega) b3 (by simp only [List.length_append, List.length_cons, List.length_nil]; omega)
      rw [show jf (MVSt (mo v (upd B2 _ (nI 44)) (x2 + 1))) 6 i = hv r from gr, c1, bnd2_some]
      rw [show f_X9_write (mo v B3 x3) 41 = _ from write_ok (c := 41) c2 (by simp only [List.length_append, List.length_cons, List.length_nil]; omega) (by decide), bnd2_some]
      refine ⟨_, _, rfl, ?_⟩
      have c3 := c2.add (c := 41)
      rw [show L ++ dig i ++ [40] ++ txt (Lean.RArray.branch j la lb) ++ [44] ++ txt r ++ [41] = L ++ (dig i ++ 40 :: (txt (Lean.RArray.branch j la lb) ++ 44 :: (txt r ++ [41]))) by simp only [List.append_assoc, List.cons_append, List.nil_append]] at c3
      exact c3
/-- the output is alike -/
def OR (O : OV) (v : MV) : Prop := ∃ L : List Nat, L.length ≤ 200 ∧ ORp L (OVBy O) (OVLn O) ∧ ORp L (MVOu v) (MVOl v)
theorem OR_0 {O : OV} {v : MV} (h : OVLn O = 0) (h2 : MVOl v = 0) : OR O v := ⟨[], by simp, ⟨h, fun j c hj => by simp at hj⟩, ⟨h2, fun j c hj => by simp at hj⟩⟩
theorem O_writeHeap {u : GU} {g : GS} {hs : Int32} {O : OV} {S : SV} {U : UV} {v : MV} (hI : GI u g) (hC : CS g S) (hM : MS u g (MVSt v)) (hu : NVCt (UVQs U) = nI (uQ u)) (hO : OR O v) (a : Int32) :
    ∃ rc O' x B n th, f_X8_writeHeap (hs, O, S, U) a = some (rc, (hs, O', S, U)) ∧ f_X9_writeHeap v a = some (x, mo (MV_sTh v th) B n) ∧ agr [IOB] rc x th ∧ OR O' (mo (MV_sTh v th) B n) := by
  have hQ := hI.2.1.2
  unfold f_X8_writeHeap f_X9_writeHeap
  rcases rng a (n := uQ u) (by omega) with ⟨q, hq, rfl, hqr⟩ | ⟨b1, b2⟩
  · have hq6 : q < 6 := by omega
    have hA := hC.2.2.2.2.1 q
    have hB := hM.2.2.2.2.1 q
    have hn := (hI.2.2.1 q).1
    have h40 := len40 hA.1 hn
    have hht := @ht_len (aF g q)
    have htl := @txt_len (aF g q)
    rw [show f_X8_checkQueue (LosuHs (hs, O, S, U), LosuU (hs, O, S, U)) (nI q) = _ from checkQueue_in (hs := hs) hu hQ hq, bndT_l, mcheckQueue_in hM hqr, bnd2_some, if_neg n10]
    simp only [if_neg (o6 hq6), c6 hq6]
    have o1 : ORp [] (OVBy O) 0 := ⟨rfl, fun j c hj => by simp at hj⟩
    have o2 : ORp [] (MVOu v) 0 := ⟨rfl, fun j c hj => by simp at hj⟩
    obtain ⟨B1, x1, e1, e2⟩ := wt_ok (n := 50) (b := 1) hA.1 (by omega) (by omega) o1 (by simp only [List.length_nil]; omega)
    obtain ⟨B2, x2, f1, f2⟩ := mwt_ok (v := MV_sTh v 0) (n := 50) hB.1 (by omega) o2 (by simp only [List.length_nil]; omega)
    rw [List.nil_append] at e2 f2
    refine ⟨.inl x1, (B1, x1), x1, B2, x2, 0, ?_, ?_, agr_v, txt (aF g q), by omega, e2, f2⟩
    · rw [show f_X8_writeTree 50 (SVH (LosuS (hs, O, S, U)), OV_sLn (LosuO (hs, O, S, U)) 0) (SVRo (LosuS (hs, O, S, U)) q) 1 = some ((), (SVH S, (B1, x1))) from by rw [show SVRo (LosuS (hs, O, S, U)) q = hv (aF g q) from (hC.2.2.2.1 q hq6).1]; exact e1, bnd2_some]
      rfl
    · rw [rootOf_ok hq6, Option.bind_some, show MVSt (MV_sOl (MV_sTh v 0) 0) (10 + 11 * q + 9) = hv (aF g q) from (hM.2.2.2.1 q hq).1, show f_X9_writeFrom 50 (MV_sOl (MV_sTh v 0) 0) (hv (aF g q)) = _ from f1, bnd2_some]
      show some (x2, _) = _
      rw [f2.1, e2.1]
  · rw [show f_X8_checkQueue (LosuHs (hs, O, S, U), LosuU (hs, O, S, U)) a = _ from checkQueue_out (hs := hs) hu b1, bndT_r, mcheckQueue_out hM b2, bnd2_some, if_pos rfl]
    exact ⟨.inr IOB, O, 0, MVOu v, MVOl v, 1, rfl, rfl, agr_1, hO⟩
theorem Q_outputByte {hs : Int32} {O : OV} {v : MV} (hO : OR O v) (a : Int32) : ∃ r, f_X8_outputByte (hs, O) a = some r ∧ f_X9_outputByte v a = some (r, MV_sTh v 0) := by
  obtain ⟨L, hL, h1, h2⟩ := hO
  unfold f_X8_outputByte f_X9_outputByte f_X3_at
  rw [show OVLn (LoO (hs, O)) = nI L.length from h1.1, h2.1, show (0 : Int64) = (0 : Int32).toInt64 from rfl, within_ok, Option.bind_some]
  rcases rng a (n := L.length) (by omega) with ⟨i, hi, rfl, hr⟩ | ⟨b1, b2⟩
  · have hLi := List.getElem?_eq_getElem hi
    rw [if_neg (nI_pos (by omega)), if_neg (nI_ge hi (by omega)), if_neg (show ¬ (200 : Int32) ≤ nI i from nI_ge (b := 200) (by omega) (by decide)), if_neg (nI_in (N := 200) (by omega) (by decide)), if_pos hr, if_neg n10, if_neg (nI_in (N := 240) (by omega) (by decide)), nI_clamp (by omega), Option.bind_some, show OVBy (LoO (hs, O)) i = _ from h1.2 i _ hLi, h2.2 i _ hLi]
    exact ⟨_, rfl, rfl⟩
  · rw [if_neg b2, if_pos rfl]
    refine ⟨-1, ?_, rfl⟩
    by_cases c : a < 0
    · rw [if_pos c]; rfl
    · rw [if_neg c, if_pos (b1.resolve_left c)]; rfl
