/-! ===== 48: the input buffer, on both sides ===== -/
/-- a byte as the reference keeps it -/
def sB (b : Nat) : Int32 := if b < 128 then nI b else nI b - 256
theorem b8c : ∀ k, k < 256 → Int32.ofBitVec ((BitVec.ofNat 8 k).setWidth 32) = nI k := by decide +kernel
theorem b8s : ∀ k, k < 256 → Int32.ofBitVec ((BitVec.ofNat 8 k).signExtend 32) = sB k := by decide +kernel
theorem b8n : ∀ k, k < 256 → vp_nar .byte (sB k) = sB k := by decide +kernel
def byt (A : BitVec 32) (s : Nat) : Nat := ((A >>> s).setWidth 8).toNat
theorem byt_lt {A : BitVec 32} {s : Nat} : byt A s < 256 := ((A >>> s).setWidth 8).isLt
theorem cl_b (A : BitVec 32) (s : Nat) : Int32.ofBitVec ((A >>> s) &&& 255#32) = nI (byt A s) := by
  have h : (A >>> s) &&& 255#32 = ((A >>> s).setWidth 8).setWidth 32 := by
    apply BitVec.eq_of_toNat_eq
    rw [BitVec.toNat_and, BitVec.toNat_setWidth, BitVec.toNat_setWidth, show (255#32).toNat = 2 ^ 8 - 1 from rfl, Nat.and_two_pow_sub_one_eq_mod]
    omega
  rw [h]
  have := b8c _ (byt_lt (A := A) (s := s))
  rwa [byt, BitVec.ofNat_toNat, BitVec.setWidth_eq] at this
theorem rf_b (A : BitVec 32) (s : Nat) (hs : s ≤ 24) : vp_nar .byte (Int32.ofBitVec (((A.sshiftRight s).signExtend 8).signExtend 32)) = sB (byt A s) := by
  have h : (A.sshiftRight s).signExtend 8 = (A >>> s).setWidth 8 := by
    apply BitVec.eq_of_getLsbD_eq
    intro i hi
    rw [BitVec.getLsbD_signExtend, BitVec.getLsbD_setWidth, BitVec.getLsbD_sshiftRight, BitVec.getLsbD_ushiftRight]
    have h1 : i < 32 := by omega
    have h2 : ¬ 32 ≤ i := by omega
    have h3 : s + i < 32 := by omega
    simp [hi, h1, h2, h3]
  have e := b8s _ (byt_lt (A := A) (s := s))
  rw [byt, BitVec.ofNat_toNat, BitVec.setWidth_eq] at e
  rw [h, e]
  exact b8n _ byt_lt
theorem c24 (a : Int32) : (Int32.toUInt32 a >>> (Int32.toUInt32 24 &&& Int32.toUInt32 31)).toInt32 &&& 255 = nI (byt a.toBitVec 24) := cl_b a.toBitVec 24
theorem c16 (a : Int32) : (Int32.toUInt32 a >>> (Int32.toUInt32 16 &&& Int32.toUInt32 31)).toInt32 &&& 255 = nI (byt a.toBitVec 16) := cl_b a.toBitVec 16
theorem c8 (a : Int32) : (Int32.toUInt32 a >>> (Int32.toUInt32 8 &&& Int32.toUInt32 31)).toInt32 &&& 255 = nI (byt a.toBitVec 8) := cl_b a.toBitVec 8
theorem c0 (a : Int32) : a &&& 255 = nI (byt a.toBitVec 0) := by
  have := cl_b a.toBitVec 0
  rwa [show a.toBitVec >>> 0 = a.toBitVec from BitVec.ushiftRight_zero ..] at this
theorem r24 (a : Int32) : vp_nar .byte (Int8.toInt32 (Int32.toInt8 (a >>> ((8 * 3) &&& 31)))) = sB (byt a.toBitVec 24) := rf_b a.toBitVec 24 (by decide)
theorem r16 (a : Int32) : vp_nar .byte (Int8.toInt32 (Int32.toInt8 (a >>> ((8 * 2) &&& 31)))) = sB (byt a.toBitVec 16) := rf_b a.toBitVec 16 (by decide)
theorem r8 (a : Int32) : vp_nar .byte (Int8.toInt32 (Int32.toInt8 (a >>> ((8 * 1) &&& 31)))) = sB (byt a.toBitVec 8) := rf_b a.toBitVec 8 (by decide)
theorem r0 (a : Int32) : vp_nar .byte (Int8.toInt32 (Int32.toInt8 (a >>> ((8 * 0) &&& 31)))) = sB (byt a.toBitVec 0) := rf_b a.toBitVec 0 (by decide)
def byts (a : Int32) : List Nat := [byt a.toBitVec 24, byt a.toBitVec 16, byt a.toBitVec 8, byt a.toBitVec 0]
/-- the reader, the reference with another buffer -/
def ri (R : RV) (X : Nat → Int32) (n : Int32) : RV := (X, n, RVEn R, RVNx R, RVTk R, RVAt R, RVWd R, RVVa R, RVEk R, RVEa R)
def vi (v : MV) (B : Nat → Int32) (n : Int32) : MV := (MVSt v, MVAs v, MVSv v, MVPt v, MVPc v, MVIs v, MVTh v, MVSp v, MVSl v, B, n, MVEc v, MVEo v, MVSa v, MVEn v, MVTk v, MVVa v, MVFa v, MVFo v, MVSm v, MVSc v, MVOr v, MVOu v, MVOl v)
/-- the text T in a row -/
def TXc (T : List Nat) (X : Nat → Int32) : Prop := ∀ j c, T[j]? = some c → X j = nI c
def TXr (T : List Nat) (B : Nat → Int32) : Prop := ∀ j c, T[j]? = some c → B j = sB c
theorem TX_add {f : Nat → Int32} {T : List Nat} {X : Nat → Int32} {b : Nat} (h : ∀ j c, T[j]? = some c → X j = f c) : ∀ j c, (T ++ [b])[j]? = some c → upd X T.length (f b) j = f c := by
  intro j c hj
  by_cases e : j = T.length
  · subst e
    rw [upd_eq]
    have : b = c := by simpa using hj
    rw [this]
  · rw [upd_ne e]
    have hl := (List.getElem?_eq_some_iff.mp hj).1
    rw [List.length_append] at hl
    simp only [List.length_cons, List.length_nil] at hl
    rw [List.getElem?_append_left (by omega)] at hj
    exact h j c hj
theorem TXc.add {T : List Nat} {X : Nat → Int32} {b : Nat} (h : TXc T X) : TXc (T ++ [b]) (upd X T.length (nI b)) := TX_add h
theorem TXr.add {T : List Nat} {X : Nat → Int32} {b : Nat} (h : TXr T X) : TXr (T ++ [b]) (upd X T.length (sB b)) := TX_add h
theorem appendByte_ok {R : RV} {X : Nat → Int32} {m : Nat} {x : Int32} (hm : m < 600) : f_X4_appendByte (ri R X (nI m)) x = some ((), ri R (upd X m (x &&& 255)) (nI (m + 1))) := by
  unfold f_X4_appendByte
  rw [show RVLn (ri R X (nI m)) = nI m from rfl, show RVTx (ri R X (nI m)) = X from rfl, if_neg (nI_pos (by omega)), if_neg (show ¬ (600 : Int32) ≤ nI m from nI_ge (b := 600) hm (by decide)), if_neg (nI_in hm (by decide)), nI_clamp (by omega), nI_1]
  rfl
theorem four_ok {R : RV} {X : Nat → Int32} {T : List Nat} {n : Int32} (a : Int32) (hn : n = nI T.length) (hX : TXc T X) (hl : T.length + 4 ≤ 600) : ∃ X', f_X4_appendFourBytes (ri R X n) a = some ((), ri R X' (nI (T ++ byts a).length)) ∧ TXc (T ++ byts a) X' := by
  subst hn
  refine ⟨upd (upd (upd (upd X T.length (nI (byt a.toBitVec 24))) (T.length + 1) (nI (byt a.toBitVec 16))) (T.length + 2) (nI (byt a.toBitVec 8))) (T.length + 3) (nI (byt a.toBitVec 0)), ?_, ?_⟩
  · unfold f_X4_appendFourBytes
    rw [appendByte_ok (by omega), bnd2_some, appendByte_ok (by omega), bnd2_some, appendByte_ok (by omega), bnd2_some, appendByte_ok (by omega), bnd2_some, c24, c16, c8, c0]
    rw [show (T ++ byts a).length = T.length + 1 + 1 + 1 + 1 by simp [byts]]
  · have h1 := (((hX.add (b := byt a.toBitVec 24)).add (b := byt a.toBitVec 16)).add (b := byt a.toBitVec 8)).add (b := byt a.toBitVec 0)
    rw [show T ++ [byt a.toBitVec 24] ++ [byt a.toBitVec 16] ++ [byt a.toBitVec 8] ++ [byt a.toBitVec 0] = T ++ byts a by simp [byts]] at h1
    simpa using h1
theorem wordStep {v : MV} {B : Nat → Int32} {m n : Nat} {a l2 x l3 : Int32} (hm : m < 600) (h0 : ¬ l2 < 0) (hx : vp_nar .byte (Int8.toInt32 (Int32.toInt8 (a >>> ((8 * l2) &&& 31)))) = x) (h3 : l2 + (-1) = l3) : f_X9_appendWord_h2 (n + 1) a l2 (vi v B (nI m)) = f_X9_appendWord_h2 n a l3 (vi v (upd B m x) (nI (m + 1))) := by
  rw [f_X9_appendWord_h2, show MVLn (vi v B (nI m)) = nI m from rfl, show MVBf (vi v B (nI m)) = B from rfl, if_neg h0, if_neg (nI_in hm (by decide)), nI_clamp (by omega), hx, h3, nI_1]
  rfl
theorem word_ok {v : MV} {B : Nat → Int32} {T : List Nat} {n : Int32} (a : Int32) (hn : n = nI T.length) (hB : TXr T B) (hl : T.length + 4 ≤ 600) : ∃ B', f_X9_appendWord (vi v B n) a = some ((), vi v B' (nI (T ++ byts a).length)) ∧ TXr (T ++ byts a) B' := by
  subst hn
  refine ⟨upd (upd (upd (upd B T.length (sB (byt a.toBitVec 24))) (T.length + 1) (sB (byt a.toBitVec 16))) (T.length + 2) (sB (byt a.toBitVec 8))) (T.length + 3) (sB (byt a.toBitVec 0)), ?_, ?_⟩
  · unfold f_X9_appendWord
    rw [show FU = 4995 + 1 + 1 + 1 + 1 + 1 from rfl, wordStep (l3 := 2) (by omega) (by decide) (r24 a) (by decide), wordStep (l3 := 1) (by omega) (by decide) (r16 a) (by decide), wordStep (l3 := 0) (by omega) (by decide) (r8 a) (by decide), wordStep (l3 := -1) (by omega) (by decide) (r0 a) (by decide), f_X9_appendWord_h2, if_pos (by decide)]
    rw [show (T ++ byts a).length = T.length + 1 + 1 + 1 + 1 by simp [byts]]
  · have h1 := (((hB.add (b := byt a.toBitVec 24)).add (b := byt a.toBitVec 16)).add (b := byt a.toBitVec 8)).add (b := byt a.toBitVec 0)
    rw [show T ++ [byt a.toBitVec 24] ++ [byt a.toBitVec 16] ++ [byt a.toBitVec 8] ++ [byt a.toBitVec 0] = T ++ byts a by simp [byts]] at h1
    simpa using h1
/-- the buffers are alike -/
def IN (T : List Nat) (R : RV) (v : MV) : Prop := T.length ≤ 600 ∧ (∀ c ∈ T, c < 256) ∧ RVLn R = nI T.length ∧ TXc T (RVTx R) ∧ MVLn v = nI T.length ∧ TXr T (MVBf v)
theorem byts_lt {a : Int32} : ∀ c ∈ byts a, c < 256 := by
  intro c hc
  simp only [byts, List.mem_cons, List.not_mem_nil, or_false] at hc
  rcases hc with rfl | rfl | rfl | rfl <;> exact byt_lt
theorem O_appendInput {hs : Int32} {R : RV} {v : MV} {T : List Nat} (h : IN T R v) (a b c d e : Int32) : ∃ r X n B m T', f_X8_appendInput (hs, R) a b c d e = some (r, (hs, ri R X n)) ∧ f_X9_appendInput v a b c d e = some (r, vi (MV_sTh v 0) B m) ∧ IN T' (ri R X n) (vi (MV_sTh v 0) B m) := by
  obtain ⟨h1, h2, h3, h4, h5, h6⟩ := id h
  unfold f_X8_appendInput f_X9_appendInput
  by_cases hc : T.length ≤ 580
  · rw [show RVLn (LrR (hs, R)) = nI T.length from h3, h5, if_pos (show nI T.length ≤ 580 from nI_le (b := 580) hc (by decide)), if_pos (show nI T.length ≤ 580 from nI_le (b := 580) hc (by decide))]
    have L4 : ∀ x, (byts x).length = 4 := fun x => rfl
    obtain ⟨X1, p1, q1⟩ := four_ok (R := R) a h3 h4 (by omega)
    obtain ⟨X2, p2, q2⟩ := four_ok (R := R) b rfl q1 (by rw [List.length_append, L4]; omega)
    obtain ⟨X3, p3, q3⟩ := four_ok (R := R) c rfl q2 (by simp only [List.length_append, L4]; omega)
    obtain ⟨X4, p4, q4⟩ := four_ok (R := R) d rfl q3 (by simp only [List.length_append, L4]; omega)
    obtain ⟨X5, p5, q5⟩ := four_ok (R := R) e rfl q4 (by simp only [List.length_append, L4]; omega)
    obtain ⟨B1, s1, t1⟩ := word_ok (v := MV_sTh v 0) a h5 h6 (by omega)
    obtain ⟨B2, s2, t2⟩ := word_ok (v := MV_sTh v 0) b rfl t1 (by rw [List.length_append, L4]; omega)
    obtain ⟨B3, s3, t3⟩ := word_ok (v := MV_sTh v 0) c rfl t2 (by simp only [List.length_append, L4]; omega)
    obtain ⟨B4, s4, t4⟩ := word_ok (v := MV_sTh v 0) d rfl t3 (by simp only [List.length_append, L4]; omega)
    obtain ⟨B5, s5, t5⟩ := word_ok (v := MV_sTh v 0) e rfl t4 (by simp only [List.length_append, L4]; omega)
    refine ⟨nI (T ++ byts a ++ byts b ++ byts c ++ byts d ++ byts e).length, X5, nI (T ++ byts a ++ byts b ++ byts c ++ byts d ++ byts e).length, B5, nI (T ++ byts a ++ byts b ++ byts c ++ byts d ++ byts e).length, T ++ byts a ++ byts b ++ byts c ++ byts d ++ byts e, ?_, ?_, by simp only [List.length_append, L4]; omega, fun x hx => ?_, rfl, q5, rfl, t5⟩
    · rw [show f_X4_appendFourBytes (LrR (hs, R)) a = _ from p1, bnd2_some, p2, bnd2_some, p3, bnd2_some, p4, bnd2_some, p5, bnd2_some]
      rfl
    · rw [show f_X9_appendWord (MV_sTh v 0) a = _ from s1, bnd2_some, s2, bnd2_some, s3, bnd2_some, s4, bnd2_some, s5, bnd2_some]
      rfl
    · simp only [List.mem_append] at hx
      rcases hx with ((((hx | hx) | hx) | hx) | hx) | hx
      · exact h2 x hx
      · exact byts_lt x hx
      · exact byts_lt x hx
      · exact byts_lt x hx
      · exact byts_lt x hx
      · exact byts_lt x hx
  · rw [show RVLn (LrR (hs, R)) = nI T.length from h3, h5, if_neg (show ¬ nI T.length ≤ 580 from nI_ge (a := 580) (by omega) (by omega)), if_neg (show ¬ nI T.length ≤ 580 from nI_ge (a := 580) (by omega) (by omega))]
    exact ⟨-1, RVTx R, RVLn R, MVBf v, MVLn v, T, rfl, rfl, h⟩
theorem TX_take {f : Nat → Int32} {T : List Nat} {X : Nat → Int32} {m : Nat} (h : ∀ j c, T[j]? = some c → X j = f c) : ∀ j c, (T.take m)[j]? = some c → X j = f c := fun j c hj => h j c (take_at hj).2
theorem O_truncateInput {hs : Int32} {R : RV} {v : MV} {T : List Nat} (h : IN T R v) (a : Int32) : ∃ r X n B m T', f_X8_truncateInput (hs, R) a = some (r, (hs, ri R X n)) ∧ f_X9_truncateInput v a = some (r, vi (MV_sTh v 0) B m) ∧ IN T' (ri R X n) (vi (MV_sTh v 0) B m) := by
  obtain ⟨h1, h2, h3, h4, h5, h6⟩ := id h
  unfold f_X8_truncateInput f_X9_truncateInput
  rw [show RVLn (LrR (hs, R)) = nI T.length from h3, h5, show (0 : Int64) = (0 : Int32).toInt64 from rfl, within_ok, Option.bind_some]
  rcases rng a (n := T.length + 1) (by omega) with ⟨i, hi, rfl, hr⟩ | ⟨b1, b2⟩
  · rw [nI_pred] at hr
    rw [if_neg (nI_pos (by omega)), if_pos (nI_le (by omega) (by omega)), if_pos hr, if_neg n10]
    refine ⟨1, RVTx R, nI i, MVBf v, nI i, T.take i, rfl, rfl, ?_⟩
    have hl : (T.take i).length = i := by rw [List.length_take]; omega
    exact ⟨by omega, fun c hc => h2 c (List.mem_of_mem_take hc), by rw [hl]; rfl, TX_take h4, by rw [hl]; rfl, TX_take h6⟩
  · rw [nI_pred] at b2
    rw [if_neg b2, if_pos rfl]
    refine ⟨0, RVTx R, RVLn R, MVBf v, MVLn v, T, ?_, rfl, h⟩
    by_cases c : a < 0
    · rw [if_pos c]; rfl
    · rw [if_neg c, if_neg (fun h9 => b2 ⟨i32nlt.mp c, h9⟩)]; rfl
