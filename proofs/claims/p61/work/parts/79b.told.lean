/-! ===== 79b: a text told in pieces of twenty ===== -/
theorem shl8 (x : Int32) : x <<< ((8 : Int32) &&& 31) = Int32.ofBitVec (x.toBitVec <<< 8) := rfl
theorem pk1 {x c : Nat} (hx : x < 2 ^ 23) (hc : c < 256) : (nI x <<< ((8 : Int32) &&& 31)) ||| nI c = nI (x * 256 + c) := by
  rw [shl8]
  apply Int32.toBitVec_inj.mp
  apply BitVec.eq_of_toNat_eq
  show ((BitVec.ofNat 32 x <<< 8) ||| BitVec.ofNat 32 c).toNat = (BitVec.ofNat 32 (x * 256 + c)).toNat
  rw [BitVec.toNat_or, BitVec.toNat_shiftLeft, BitVec.toNat_ofNat, BitVec.toNat_ofNat, BitVec.toNat_ofNat, Nat.mod_eq_of_lt (show x < 2 ^ 32 by omega), Nat.mod_eq_of_lt (show c < 2 ^ 32 by omega), Nat.shiftLeft_eq, Nat.mod_eq_of_lt (show x * 2 ^ 8 < 2 ^ 32 by omega), Nat.mod_eq_of_lt (show x * 256 + c < 2 ^ 32 by omega), Nat.mul_comm x, ← Nat.two_pow_add_eq_or_of_lt (show c < 2 ^ 8 by omega)]
theorem byt_n {N s : Nat} (h : N < 2 ^ 32) : byt (nI N).toBitVec s = N / 2 ^ s % 256 := by
  unfold byt
  show (((BitVec.ofNat 32 N) >>> s).setWidth 8).toNat = _
  rw [BitVec.toNat_setWidth, BitVec.toNat_ushiftRight, BitVec.toNat_ofNat, Nat.mod_eq_of_lt h, Nat.shiftRight_eq_div_pow]
def pk4 (a b c d : Int32) : Int32 := (((((((0 <<< ((8 : Int32) &&& 31)) ||| a) <<< ((8 : Int32) &&& 31)) ||| b) <<< ((8 : Int32) &&& 31)) ||| c) <<< ((8 : Int32) &&& 31)) ||| d
theorem byts_pk {a b c d : Nat} (ha : a < 128) (hb : b < 128) (hc : c < 128) (hd : d < 128) : byts (pk4 (nI a) (nI b) (nI c) (nI d)) = [a, b, c, d] := by
  have e : pk4 (nI a) (nI b) (nI c) (nI d) = nI (((a * 256 + b) * 256 + c) * 256 + d) := by
    unfold pk4
    rw [show (0 : Int32) <<< ((8 : Int32) &&& 31) = nI 0 <<< ((8 : Int32) &&& 31) from rfl, pk1 (x := 0) (by decide) (by omega), Nat.zero_mul, Nat.zero_add, pk1 (by omega) (by omega), pk1 (by omega) (by omega), pk1 (by omega) (by omega)]
  rw [e]
  unfold byts
  rw [byt_n (by omega), byt_n (by omega), byt_n (by omega), byt_n (by omega)]
  have h1 : (((a * 256 + b) * 256 + c) * 256 + d) / 2 ^ 24 % 256 = a := by omega
  have h2 : (((a * 256 + b) * 256 + c) * 256 + d) / 2 ^ 16 % 256 = b := by omega
  have h3 : (((a * 256 + b) * 256 + c) * 256 + d) / 2 ^ 8 % 256 = c := by omega
  have h4 : (((a * 256 + b) * 256 + c) * 256 + d) / 2 ^ 0 % 256 = d := by omega
  rw [h1, h2, h3, h4]
/-- the words behind i steps -/
def fw (ch : Nat → Int32) : Nat → Nat → Int32
  | 0 => z0
  | i + 1 => upd (fw ch i) (i / 4) ((fw ch i (i / 4) <<< ((8 : Int32) &&& 31)) ||| ch i)
theorem fw20 (ch : Nat → Int32) : fw ch 20 0 = pk4 (ch 0) (ch 1) (ch 2) (ch 3) ∧ fw ch 20 1 = pk4 (ch 4) (ch 5) (ch 6) (ch 7) ∧ fw ch 20 2 = pk4 (ch 8) (ch 9) (ch 10) (ch 11) ∧ fw ch 20 3 = pk4 (ch 12) (ch 13) (ch 14) (ch 15) ∧ fw ch 20 4 = pk4 (ch 16) (ch 17) (ch 18) (ch 19) := ⟨rfl, rfl, rfl, rfl, rfl⟩
theorem app_k {hs : Int32} {R : RV} {T : List Nat} (h3 : RVLn R = nI T.length) (h4 : TXc T (RVTx R)) (hc : T.length ≤ 580) (a b c d e : Int32) : ∃ R', f_X8_appendInput (hs, R) a b c d e = some (nI (T ++ byts a ++ byts b ++ byts c ++ byts d ++ byts e).length, (hs, R')) ∧ RVLn R' = nI (T ++ byts a ++ byts b ++ byts c ++ byts d ++ byts e).length ∧ TXc (T ++ byts a ++ byts b ++ byts c ++ byts d ++ byts e) (RVTx R') := by
  have L4 : ∀ x, (byts x).length = 4 := fun x => rfl
  obtain ⟨X1, p1, q1⟩ := four_ok (R := R) a h3 h4 (by omega)
  obtain ⟨X2, p2, q2⟩ := four_ok (R := R) b rfl q1 (by rw [List.length_append, L4]; omega)
  obtain ⟨X3, p3, q3⟩ := four_ok (R := R) c rfl q2 (by simp only [List.length_append, L4]; omega)
  obtain ⟨X4, p4, q4⟩ := four_ok (R := R) d rfl q3 (by simp only [List.length_append, L4]; omega)
  obtain ⟨X5, p5, q5⟩ := four_ok (R := R) e rfl q4 (by simp only [List.length_append, L4]; omega)
  refine ⟨ri R X5 (nI (T ++ byts a ++ byts b ++ byts c ++ byts d ++ byts e).length), ?_, rfl, q5⟩
  unfold f_X8_appendInput
  rw [show RVLn (LrR (hs, R)) = nI T.length from h3, if_pos (show nI T.length ≤ 580 from nI_le (b := 580) hc (by decide))]
  rw [show f_X4_appendFourBytes (LrR (hs, R)) a = _ from p1, bnd2_some, p2, bnd2_some, p3, bnd2_some, p4, bnd2_some, p5, bnd2_some]
  rfl
/-- the first n characters, blanks behind the text -/
def PT (T : List Nat) (n : Nat) : List Nat := (List.range n).map fun p => T.getD p 32
theorem PT_len {T : List Nat} {n : Nat} : (PT T n).length = n := by unfold PT; rw [List.length_map, List.length_range]
theorem PT_4 {T : List Nat} {k : Nat} : PT T (k + 4) = PT T k ++ [T.getD k 32, T.getD (k + 1) 32, T.getD (k + 2) 32, T.getD (k + 3) 32] := by
  unfold PT
  rw [List.range_succ, List.range_succ, List.range_succ, List.range_succ]
  simp only [List.map_append, List.map_cons, List.map_nil, List.append_assoc, List.cons_append, List.nil_append]
def chT (T : List Nat) (k i : Nat) : Int32 := nI (T.getD (k + i) 32)
theorem PT_20 {T : List Nat} (hT : ∀ p, T.getD p 32 < 128) {k : Nat} : PT T k ++ byts (fw (chT T k) 20 0) ++ byts (fw (chT T k) 20 1) ++ byts (fw (chT T k) 20 2) ++ byts (fw (chT T k) 20 3) ++ byts (fw (chT T k) 20 4) = PT T (k + 20) := by
  obtain ⟨e0, e1, e2, e3, e4⟩ := fw20 (chT T k)
  have h := fun i => hT (k + i)
  rw [e0, e1, e2, e3, e4]
  unfold chT
  rw [byts_pk (h 0) (h 1) (h 2) (h 3), byts_pk (h 4) (h 5) (h 6) (h 7), byts_pk (h 8) (h 9) (h 10) (h 11), byts_pk (h 12) (h 13) (h 14) (h 15), byts_pk (h 16) (h 17) (h 18) (h 19)]
  rw [show k + 20 = k + 4 + 4 + 4 + 4 + 4 from rfl, PT_4, PT_4, PT_4, PT_4, PT_4]
  rfl
/-- the reader has the first n characters -/
def RT20 (T : List Nat) (n : Nat) (R : RV) : Prop := RVLn R = nI n ∧ TXc (PT T n) (RVTx R)
theorem told_k {hs : Int32} {R : RV} {T : List Nat} {k : Nat} (hT : ∀ p, T.getD p 32 < 128) (h : RT20 T k R) (hk : k ≤ 580) : ∃ R', f_X8_appendInput (hs, R) (fw (chT T k) 20 0) (fw (chT T k) 20 1) (fw (chT T k) 20 2) (fw (chT T k) 20 3) (fw (chT T k) 20 4) = some (nI (k + 20), (hs, R')) ∧ RT20 T (k + 20) R' := by
  obtain ⟨R', e1, e2, e3⟩ := app_k (hs := hs) (T := PT T k) (by rw [PT_len]; exact h.1) h.2 (by rw [PT_len]; exact hk) (fw (chT T k) 20 0) (fw (chT T k) 20 1) (fw (chT T k) 20 2) (fw (chT T k) 20 3) (fw (chT T k) 20 4)
  rw [PT_20 hT, PT_len] at e1 e2
  rw [PT_20 hT] at e3
  exact ⟨R', e1, e2, e3⟩
theorem trunc_k {hs : Int32} {R : RV} {T : List Nat} {n : Nat} (h : RT20 T n R) (hn : T.length ≤ n) (h6 : n ≤ 600) : ∃ R', f_X8_truncateInput (hs, R) (nI T.length) = some (1, (hs, R')) ∧ RVLn R' = nI T.length ∧ TXc T (RVTx R') := by
  refine ⟨RV_sLn R (nI T.length), ?_, rfl, fun j c hj => ?_⟩
  · unfold f_X8_truncateInput
    rw [if_neg (nI_pos (by omega)), show RVLn (LrR (hs, R)) = nI n from h.1, if_pos (nI_le hn (by omega))]
    rfl
  · have hl := (List.getElem?_eq_some_iff.mp hj).1
    refine h.2 j c ?_
    unfold PT
    rw [List.getElem?_map, List.getElem?_range (by omega)]
    show some (T.getD j 32) = some c
    rw [List.getD, hj]
    rfl
