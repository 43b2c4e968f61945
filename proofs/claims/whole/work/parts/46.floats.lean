/-! ===== 46: the two quotients: they are numbers; mean rank, printed part ===== -/
def gD (f : FP.Core.Fmt) : FP.Core.Datum → Prop
  | .nan => False
  | .inf _ => True
  | .fin _ c q => c < 2 ^ f.p ∧ q ≤ f.qmax
theorem gD_rr {f : FP.Core.Fmt} (h1 : f.qmin ≤ f.qmax) (h2 : f.tails < 2 ^ f.p) (s : Bool) (n d : Nat) (e : Int) : gD f (FP.Core.roundRatio f s n d e) := by
  unfold FP.Core.roundRatio
  split
  · exact ⟨Nat.two_pow_pos _, h1⟩
  · unfold FP.Core.roundAt FP.Core.settle
    split
    · rename_i h
      unfold FP.Core.bound
      split
      · rename_i hq
        exact ⟨h, hq⟩
      · exact True.intro
    · unfold FP.Core.bound
      split
      · rename_i hq
        exact ⟨h2, hq⟩
      · exact True.intro
theorem k64a : FP.Core.b64.tails = 4503599627370496 := by decide +kernel
theorem k64b : FP.Core.b64.exps = 2048 := by decide +kernel
theorem k64c : 2 ^ FP.Core.b64.p = 9007199254740992 := by decide +kernel
theorem k64d : FP.Core.b64.qmax = 971 := by decide +kernel
theorem k64e : FP.Core.b64.qmin = -1074 := by decide +kernel
theorem k32a : FP.Core.b32.tails = 8388608 := by decide +kernel
theorem k32b : FP.Core.b32.exps = 256 := by decide +kernel
theorem k32c : 2 ^ FP.Core.b32.p = 16777216 := by decide +kernel
theorem k32d : FP.Core.b32.qmax = 104 := by decide +kernel
theorem k32e : FP.Core.b32.qmin = -149 := by decide +kernel
theorem enc64 {d : FP.Core.Datum} (h : gD FP.Core.b64 d) : FP.Core.encode FP.Core.b64 d < 18446744073709551616 ∧ FP.Core.encode FP.Core.b64 d % 9223372036854775808 ≤ 9218868437227405312 := by
  cases d with
  | nan => exact h.elim
  | inf s => cases s <;> exact ⟨by decide +kernel, by decide +kernel⟩
  | fin s c q =>
    obtain ⟨h1, h2⟩ := h
    rw [k64c] at h1
    rw [k64d] at h2
    rw [show FP.Core.encode FP.Core.b64 (.fin s c q) = if c < FP.Core.b64.tails then FP.Core.assemble FP.Core.b64 s 0 c else FP.Core.assemble FP.Core.b64 s ((q - FP.Core.b64.qmin).toNat + 1) (c - FP.Core.b64.tails) from rfl]
    unfold FP.Core.assemble
    rw [k64a, k64b, k64e]
    have hs : s.toNat = 0 ∨ s.toNat = 1 := by cases s <;> simp [Bool.toNat]
    split
    · rcases hs with e | e <;> rw [e] <;> omega
    · have hE : (q - -1074).toNat ≤ 2045 := by omega
      generalize (q - -1074).toNat = E at hE ⊢
      rcases hs with e | e <;> rw [e] <;> omega
theorem enc32 {d : FP.Core.Datum} (h : gD FP.Core.b32 d) : FP.Core.encode FP.Core.b32 d < 4294967296 ∧ FP.Core.encode FP.Core.b32 d % 2147483648 ≤ 2139095040 := by
  cases d with
  | nan => exact h.elim
  | inf s => cases s <;> exact ⟨by decide +kernel, by decide +kernel⟩
  | fin s c q =>
    obtain ⟨h1, h2⟩ := h
    rw [k32c] at h1
    rw [k32d] at h2
    rw [show FP.Core.encode FP.Core.b32 (.fin s c q) = if c < FP.Core.b32.tails then FP.Core.assemble FP.Core.b32 s 0 c else FP.Core.assemble FP.Core.b32 s ((q - FP.Core.b32.qmin).toNat + 1) (c - FP.Core.b32.tails) from rfl]
    unfold FP.Core.assemble
    rw [k32a, k32b, k32e]
    have hs : s.toNat = 0 ∨ s.toNat = 1 := by cases s <;> simp [Bool.toNat]
    split
    · rcases hs with e | e <;> rw [e] <;> omega
    · have hE : (q - -149).toNat ≤ 253 := by omega
      generalize (q - -149).toNat = E at hE ⊢
      rcases hs with e | e <;> rw [e] <;> omega
theorem dec64 {n : Nat} (h : n % 9223372036854775808 ≤ 9218868437227405312) : FP.Core.decode FP.Core.b64 n ≠ .nan := by
  intro h9
  unfold FP.Core.decode at h9
  split at h9
  · rename_i h1
    split at h9
    · cases h9
    · rename_i h2
      unfold FP.Core.fieldE at h1
      unfold FP.Core.fieldT at h2
      rw [k64a, k64b] at h1
      rw [k64a] at h2
      omega
  · split at h9 <;> cases h9
theorem dec32 {n : Nat} (h : n % 2147483648 ≤ 2139095040) : FP.Core.decode FP.Core.b32 n ≠ .nan := by
  intro h9
  unfold FP.Core.decode at h9
  split at h9
  · rename_i h1
    split at h9
    · cases h9
    · rename_i h2
      unfold FP.Core.fieldE at h1
      unfold FP.Core.fieldT at h2
      rw [k32a, k32b] at h1
      rw [k32a] at h2
      omega
  · split at h9 <;> cases h9
theorem toN64 {n : Nat} (h : n < 18446744073709551616) : (UInt64.ofNat n).toNat = n := by
  rw [UInt64.toNat_ofNat']
  exact Nat.mod_eq_of_lt h
theorem toN32 {n : Nat} (h : n < 4294967296) : (UInt32.ofNat n).toNat = n := by
  rw [UInt32.toNat_ofNat']
  exact Nat.mod_eq_of_lt h
def finD : FP.Core.Datum → Bool
  | .fin _ d _ => !(d == 0)
  | _ => false
theorem finD_ex {x : FP.Core.Datum} (h : finD x = true) : ∃ t d r, x = .fin t d r ∧ d ≠ 0 := by
  cases x with
  | nan => cases h
  | inf s => cases h
  | fin t d r => exact ⟨t, d, r, rfl, by simpa [finD] using h⟩
theorem i2d_nn (x : Int32) : FP.Core.decode FP.Core.b64 (FP.i2d x).toNat ≠ .nan := by
  have hg : gD FP.Core.b64 (FP.Core.round FP.Core.b64 (FP.Core.ofInt x.toInt)) := gD_rr (by rw [k64d, k64e]; decide) (by rw [k64a, k64c]; decide) _ _ _ _
  obtain ⟨h1, h2⟩ := enc64 hg
  refine dec64 ?_
  rw [show (FP.i2d x).toNat = _ from toN64 h1]
  exact h2
theorem i2f_nn (x : Int32) : FP.Core.decode FP.Core.b32 (FP.i2f x).toNat ≠ .nan := by
  have hg : gD FP.Core.b32 (FP.Core.round FP.Core.b32 (FP.Core.ofInt x.toInt)) := gD_rr (by rw [k32d, k32e]; decide) (by rw [k32a, k32c]; decide) _ _ _ _
  obtain ⟨h1, h2⟩ := enc32 hg
  refine dec32 ?_
  rw [show (FP.i2f x).toNat = _ from toN32 h1]
  exact h2
theorem ddiv_nn (x y : Int32) (hb : finD (FP.Core.decode FP.Core.b64 (FP.i2d y).toNat) = true) : (FP.ddiv (FP.i2d x) (FP.i2d y)) &&& 0x7fffffffffffffff ≤ 0x7ff0000000000000 := by
  have hg : gD FP.Core.b64 (FP.Core.quotient FP.Core.b64 (FP.Core.decode FP.Core.b64 (FP.i2d x).toNat) (FP.Core.decode FP.Core.b64 (FP.i2d y).toNat)) := by
    obtain ⟨t, d, r, e, hd⟩ := finD_ex hb
    rw [e]
    cases ea : FP.Core.decode FP.Core.b64 (FP.i2d x).toNat with
    | nan => exact absurd ea (i2d_nn x)
    | inf s => exact True.intro
    | fin s c q =>
      show gD FP.Core.b64 (if d = 0 then _ else FP.Core.roundRatio FP.Core.b64 (s != t) c d (q - r))
      rw [if_neg hd]
      exact gD_rr (by rw [k64d, k64e]; decide) (by rw [k64a, k64c]; decide) _ _ _ _
  obtain ⟨h1, h2⟩ := enc64 hg
  rw [UInt64.le_iff_toNat_le, UInt64.toNat_and, show (FP.ddiv (FP.i2d x) (FP.i2d y)).toNat = _ from toN64 h1]
  have e1 : (0x7fffffffffffffff : UInt64).toNat = 2 ^ 63 - 1 := by decide +kernel
  have e2 : (0x7ff0000000000000 : UInt64).toNat = 9218868437227405312 := by decide +kernel
  rw [e1, e2, Nat.and_two_pow_sub_one_eq_mod]
  exact h2
theorem fdiv_nn (x y : Int32) (hb : finD (FP.Core.decode FP.Core.b32 (FP.i2f y).toNat) = true) : (FP.fdiv (FP.i2f x) (FP.i2f y)) &&& 0x7fffffff ≤ 0x7f800000 := by
  have hg : gD FP.Core.b32 (FP.Core.quotient FP.Core.b32 (FP.Core.decode FP.Core.b32 (FP.i2f x).toNat) (FP.Core.decode FP.Core.b32 (FP.i2f y).toNat)) := by
    obtain ⟨t, d, r, e, hd⟩ := finD_ex hb
    rw [e]
    cases ea : FP.Core.decode FP.Core.b32 (FP.i2f x).toNat with
    | nan => exact absurd ea (i2f_nn x)
    | inf s => exact True.intro
    | fin s c q =>
      show gD FP.Core.b32 (if d = 0 then _ else FP.Core.roundRatio FP.Core.b32 (s != t) c d (q - r))
      rw [if_neg hd]
      exact gD_rr (by rw [k32d, k32e]; decide) (by rw [k32a, k32c]; decide) _ _ _ _
  obtain ⟨h1, h2⟩ := enc32 hg
  rw [UInt32.le_iff_toNat_le, UInt32.toNat_and, show (FP.fdiv (FP.i2f x) (FP.i2f y)).toNat = _ from toN32 h1]
  have e1 : (0x7fffffff : UInt32).toNat = 2 ^ 31 - 1 := by decide +kernel
  have e2 : (0x7f800000 : UInt32).toNat = 2139095040 := by decide +kernel
  rw [e1, e2, Nat.and_two_pow_sub_one_eq_mod]
  exact h2
theorem y64 : ∀ y, y < 41 → y ≠ 0 → finD (FP.Core.decode FP.Core.b64 (FP.i2d (nI y)).toNat) = true := by decide +kernel
set_option maxRecDepth 100000 in
theorem y32 : ((List.range 3961).all fun y => (y == 0) || finD (FP.Core.decode FP.Core.b32 (FP.i2f (nI y)).toNat)) = true := by decide +kernel
theorem y32' {y : Nat} (h : y < 3961) (h0 : y ≠ 0) : finD (FP.Core.decode FP.Core.b32 (FP.i2f (nI y)).toNat) = true := by
  have := List.all_eq_true.mp y32 y (List.mem_range.mpr h)
  simpa [h0] using this
/-! sums -/
theorem gWt_c {g : GS} : gWt g = nI (cnt (fun k => decide (aFt g k = 0)) (aJ g)) := by
  unfold gWt
  rw [← sm_cnt]
  exact sm_congr (fun k _ => by by_cases h : aFt g k = 0 <;> simp [h])
theorem gAll_b {u : GU} {g : GS} (hI : GI u g) : ∃ n, gAll g = nI n ∧ n < 3961 := by
  have key : ∀ k, k ≤ aJ g → ∃ n, sm (aPg g) k = nI n ∧ n ≤ 99 * k := by
    intro k
    induction k with
    | zero => intro _; exact ⟨0, rfl, Nat.le_refl _⟩
    | succ k ih =>
      intro hk
      obtain ⟨n, h1, h2⟩ := ih (by omega)
      obtain ⟨p, e, -, h4⟩ := (hI.2.2.2.2.1 k (by omega)).2.2.2
      refine ⟨n + p, ?_, by omega⟩
      rw [sm, h1, e]
      exact nI_add n p
  obtain ⟨n, h1, h2⟩ := key (aJ g) (Nat.le_refl _)
  have := hI.1
  exact ⟨n, h1, by omega⟩
theorem sm_tail {f : Nat → Int32} {m : Nat} (h : ∀ k, m ≤ k → f k = 0) : ∀ n, m ≤ n → sm f n = sm f m := by
  intro n
  induction n with
  | zero => intro hn; rw [show m = 0 by omega]
  | succ n ih =>
    intro hn
    by_cases e : m = n + 1
    · rw [e]
    · rw [sm, ih (by omega), h n (by omega), Int32.add_zero]
section FQ
variable {u : GU} {g : GS} {hs : Int32} {S : SV} {v : MV}
theorem sumOfRanks_ok (hI : GI u g) (hC : CS g S) : f_X7_sumOfRanks S = some (sm (HVRk (SVH S)) (aJ g)) := by
  have hJ := hI.1
  refine loop_sm (L := fun n a k => f_X7_sumOfRanks_h4 n a k S) (E := some) (FUbig hI) (fun n a k hk => ?_) (fun n a => ?_)
  · show f_X7_sumOfRanks_h4 (n + 1) a (nI k) S = f_X7_sumOfRanks_h4 n (a + HVRk (SVH S) k) (nI (k + 1)) S
    have k40 : k < 40 := by omega
    rw [f_X7_sumOfRanks_h4, hC.1, if_neg (nI_ge hk (by omega)), if_neg (l40 k40), rankOf_n k40, Option.bind_some, nI_1]
  · show f_X7_sumOfRanks_h4 (n + 1) a (nI (aJ g)) S = some a
    rw [f_X7_sumOfRanks_h4, hC.1, if_pos (nI_le (Nat.le_refl _) (by omega))]
theorem rk_alike (hI : GI u g) (hC : CS g S) (hM : MS u g (MVSt v)) {k : Nat} (hk : k < aJ g) : (if aFt g k = 0 then jf (MVSt v) 8 k else 0) = HVRk (SVH S) k := by
  by_cases hf : aFt g k = 0
  · rw [if_pos hf]
    exact (links hI hC hM hk).2.2.2.symm
  · rw [if_neg hf]
    exact ((hC.2.1 k hk).2.2.2.2.2 hf).2.2.2.symm
theorem Q_meanRank (hI : GI u g) (hC : CS g S) (hM : MS u g (MVSt v)) : ∃ r, f_X8_meanRank (hs, S) = some r ∧ f_X9_meanRank v = some (r, MV_sTh v 0) ∧ (r &&& 0x7fffffffffffffff ≤ 0x7ff0000000000000) := by
  have hJ := hI.1
  have hc : cnt (fun k => decide (aFt g k = 0)) (aJ g) ≤ aJ g := cnt_n
  have h9 : f_X9_meanRank v = (if gWt g = 0 then some (FP.dconst0, MV_sTh v 0) else if ¬ ((FP.ddiv (FP.i2d (sm (HVRk (SVH S)) (aJ g))) (FP.i2d (gWt g))) &&& 0x7fffffffffffffff ≤ 0x7ff0000000000000) then none else some (FP.ddiv (FP.i2d (sm (HVRk (SVH S)) (aJ g))) (FP.i2d (gWt g)), MV_sTh v 0)) := by
    refine loop_sm (L := fun n a k => f_X9_meanRank_h9 n a k (MV_sTh v 0)) (f := HVRk (SVH S)) (E := fun a => if gWt g = 0 then some (FP.dconst0, MV_sTh v 0) else if ¬ ((FP.ddiv (FP.i2d a) (FP.i2d (gWt g))) &&& 0x7fffffffffffffff ≤ 0x7ff0000000000000) then none else some (FP.ddiv (FP.i2d a) (FP.i2d (gWt g)), MV_sTh v 0)) (FUbig hI) (fun n a k hk => ?_) (fun n a => ?_)
    · show f_X9_meanRank_h9 (n + 1) a (nI k) (MV_sTh v 0) = f_X9_meanRank_h9 n (a + HVRk (SVH S) k) (nI (k + 1)) (MV_sTh v 0)
      rw [f_X9_meanRank_h9]
      simp only [if_neg o2, cl2]
      rw [show MVSt (MV_sTh v 0) 2 = _ from hM.1.2.2, if_neg (nI_ge hk (by omega)), mwaits_ok (v := MV_sTh v 0) hI hM hk, Option.bind_some, nI_1, ← rk_alike hI hC hM hk]
      by_cases hf : aFt g k = 0
      · rw [if_pos hf, if_neg n10, get_8 (show k < 40 by omega), Option.bind_some, if_pos hf]
        rfl
      · rw [if_neg hf, if_pos rfl, if_neg hf]
    · show f_X9_meanRank_h9 (n + 1) a (nI (aJ g)) (MV_sTh v 0) = _
      rw [f_X9_meanRank_h9]
      simp only [if_neg o2, cl2]
      rw [show MVSt (MV_sTh v 0) 2 = _ from hM.1.2.2, if_pos (nI_le (Nat.le_refl _) (by omega)), mwaitingCount_ok (v := MV_sTh v 0) hI hM, Option.bind_some]
  unfold f_X8_meanRank
  rw [h9, show f_X7_waitingJobs (LsS (hs, S)) = _ from waitingJobs_ok hI hC, Option.bind_some]
  by_cases c : gWt g = 0
  · rw [if_pos c, if_pos c]
    exact ⟨_, rfl, rfl, by decide +kernel⟩
  · have hn := gWt_c (g := g)
    have hnn : (FP.ddiv (FP.i2d (sm (HVRk (SVH S)) (aJ g))) (FP.i2d (gWt g))) &&& 0x7fffffffffffffff ≤ 0x7ff0000000000000 := by
      refine ddiv_nn _ _ ?_
      rw [hn]
      refine y64 _ (by omega) (fun e => c ?_)
      rw [hn, e]; rfl
    rw [if_neg c, if_neg c, show f_X7_sumOfRanks (LsS (hs, S)) = _ from sumOfRanks_ok hI hC, Option.bind_some, if_neg (fun h => h hnn), if_neg (fun h => h hnn)]
    exact ⟨_, rfl, rfl, hnn⟩
theorem allPrinted_ok (hI : GI u g) (hC : CS g S) : f_X7_pagesOfAllPrinted S = some (sm (aPd g) (uQ u)) := by
  have hQ := hI.2.1.2
  rw [← sm_tail hI.2.2.2.2.2 6 hQ]
  refine loop_sm (L := fun n a k => f_X7_pagesOfAllPrinted_h4 n a k S) (E := some) (J := 6) (by have : FU = 5000 := rfl; omega) (fun n a k hk => ?_) (fun n a => ?_)
  · show f_X7_pagesOfAllPrinted_h4 (n + 1) a (nI k) S = f_X7_pagesOfAllPrinted_h4 n (a + aPd g k) (nI (k + 1)) S
    rw [f_X7_pagesOfAllPrinted_h4, if_neg (show ¬ (6 : Int32) ≤ nI k from nI_ge (b := 6) hk (by decide))]
    simp only [if_neg (o6 hk), c6 hk]
    rw [nI_1, (hC.2.2.2.1 k hk).2.1]
  · show f_X7_pagesOfAllPrinted_h4 (n + 1) a (nI 6) S = some a
    rw [f_X7_pagesOfAllPrinted_h4, if_pos (show (6 : Int32) ≤ nI 6 by decide)]
theorem Q_printedPart (hI : GI u g) (hC : CS g S) (hM : MS u g (MVSt v)) : ∃ r, f_X8_printedPart (hs, S) = some r ∧ f_X9_printedPart v = some (r, MV_sTh v 0) ∧ (r &&& 0x7fffffff ≤ 0x7f800000) := by
  have hJ := hI.1
  have hQ := hI.2.1.2
  have hFU : FU = 5000 := rfl
  have h44 : ∀ x, f_X9_printedPart_h44 FU x 0 0 (MV_sTh v 0) = (if gAll g = 0 then some (FP.fconst0, MV_sTh v 0) else if ¬ ((FP.fdiv (FP.i2f x) (FP.i2f (gAll g))) &&& 0x7fffffff ≤ 0x7f800000) then none else some (FP.fdiv (FP.i2f x) (FP.i2f (gAll g)), MV_sTh v 0)) := by
    intro x
    refine loop_sm (L := fun n a k => f_X9_printedPart_h44 n x a k (MV_sTh v 0)) (f := aPg g) (E := fun a => if a = 0 then some (FP.fconst0, MV_sTh v 0) else if ¬ ((FP.fdiv (FP.i2f x) (FP.i2f a)) &&& 0x7fffffff ≤ 0x7f800000) then none else some (FP.fdiv (FP.i2f x) (FP.i2f a), MV_sTh v 0)) (FUbig hI) (fun n a k hk => ?_) (fun n a => ?_)
    · show f_X9_printedPart_h44 (n + 1) x a (nI k) (MV_sTh v 0) = f_X9_printedPart_h44 n x (a + aPg g k) (nI (k + 1)) (MV_sTh v 0)
      rw [f_X9_printedPart_h44]
      simp only [if_neg o2, cl2]
      rw [show MVSt (MV_sTh v 0) 2 = _ from hM.1.2.2, if_neg (nI_ge hk (by omega)), get_2 (show k < 40 by omega), Option.bind_some, show jf (MVSt (MV_sTh v 0)) 2 k = _ from (hM.2.1 k hk).2.2.1, nI_1]
    · show f_X9_printedPart_h44 (n + 1) x a (nI (aJ g)) (MV_sTh v 0) = _
      rw [f_X9_printedPart_h44]
      simp only [if_neg o2, cl2]
      rw [show MVSt (MV_sTh v 0) 2 = _ from hM.1.2.2, if_pos (nI_le (Nat.le_refl _) (by omega))]
  have h9 : f_X9_printedPart v = f_X9_printedPart_h44 FU (sm (aPd g) (uQ u)) 0 0 (MV_sTh v 0) := by
    refine loop_sm (L := fun n a k => f_X9_printedPart_h9 n a k (MV_sTh v 0)) (f := aPd g) (J := uQ u) (E := fun a => f_X9_printedPart_h44 FU a 0 0 (MV_sTh v 0)) (by omega) (fun n a k hk => ?_) (fun n a => ?_)
    · show f_X9_printedPart_h9 (n + 1) a (nI k) (MV_sTh v 0) = f_X9_printedPart_h9 n (a + aPd g k) (nI (k + 1)) (MV_sTh v 0)
      have hx : 10 + 11 * k + 10 < 500 := by omega
      rw [f_X9_printedPart_h9]
      unfold f_X9_q
      simp only [if_neg o0, cl0]
      rw [show MVSt (MV_sTh v 0) 0 = _ from hM.1.1, if_neg (nI_ge hk (by omega)), Option.bind_some, qadr, show nI (10 + 11 * k) + (10 : Int32) = nI (10 + 11 * k + 10) from nI_add _ 10]
      simp only [if_neg (o500 hx), c500 hx]
      rw [show MVSt (MV_sTh v 0) (10 + 11 * k + 10) = _ from (hM.2.2.2.1 k hk).2.1, nI_1]
    · show f_X9_printedPart_h9 (n + 1) a (nI (uQ u)) (MV_sTh v 0) = _
      rw [f_X9_printedPart_h9]
      simp only [if_neg o0, cl0]
      rw [show MVSt (MV_sTh v 0) 0 = _ from hM.1.1, if_pos (nI_le (Nat.le_refl _) (by omega))]
  unfold f_X8_printedPart
  rw [h9, h44, show f_X7_pagesOfAllJobs (LsS (hs, S)) = _ from pagesOfAllJobs_ok hI hC, Option.bind_some]
  by_cases c : gAll g = 0
  · rw [if_pos c, if_pos c]
    exact ⟨_, rfl, rfl, by decide +kernel⟩
  · obtain ⟨n, hn, hb⟩ := gAll_b hI
    have hnn : (FP.fdiv (FP.i2f (sm (aPd g) (uQ u))) (FP.i2f (gAll g))) &&& 0x7fffffff ≤ 0x7f800000 := by
      refine fdiv_nn _ _ ?_
      rw [hn]
      refine y32' hb (fun e => c ?_)
      rw [hn, e]; rfl
    rw [if_neg c, if_neg c, show f_X7_pagesOfAllPrinted (LsS (hs, S)) = _ from allPrinted_ok hI hC, Option.bind_some, if_neg (fun h => h hnn), if_neg (fun h => h hnn)]
    exact ⟨_, rfl, rfl, hnn⟩
end FQ
