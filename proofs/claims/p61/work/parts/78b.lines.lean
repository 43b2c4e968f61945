/-! ===== 78b: the law's own lines ===== -/
/-- the law's lines tell of the same jobs -/
def LQ (u : GU) (g : GS) (q : QV) : Prop :=
  (QVNq q = nI (uQ u) ∧ QVNo q = nI (uO u) ∧ QVJb q = nI (aJ g)) ∧ (1 ≤ uQ u ∧ uQ u ≤ 4) ∧ (1 ≤ uO u ∧ uO u ≤ 4) ∧
  (∀ j, j < aJ g → QVOw q j = aOw g j ∧ QVPr q j = nI (aPr g j) ∧ QVPg q j = aPg g j ∧ QVSt q j = nI (aFt g j) ∧ (aFt g j = 0 → QVQu q j = nI (aQu g j))) ∧
  (∀ k, k < uQ u → QVSp q k = nI (uS u k) ∧ (1 ≤ uS u k ∧ uS u k ≤ 16) ∧ QVPd q k = aPd g k ∧ QVPs q k = b2i (aPs g k))
theorem LQ.sn {u : GU} {g : GS} {q : QV} (h : LQ u g q) (x : Int32) : LQ u g (QV_sSn q x) := h
theorem ft_eq {u : GU} {g : GS} (hI : GI u g) {i b : Nat} (hi : i < aJ g) (hb : b < 1000) : nI (aFt g i) = nI b ↔ aFt g i = b := nI_eq (by have := (hI.2.2.2.2.1 i hi).2.2.1; omega) (by omega)
section LN
variable {u : GU} {g : GS} {q : QV}
theorem l_isIn (hI : GI u g) (hQ : LQ u g q) {k b : Nat} (hk : k < aJ g) (hb : b < 6) : f_L_isIn q (nI k) (nI b) = some (w1 g b k) := by
  have k40 : k < 40 := by have := hI.1; omega
  obtain ⟨-, -, -, a4, a5⟩ := hQ.2.2.2.1 k hk
  unfold f_L_isIn w1
  simp only [if_neg (o40 k40), c40 k40]
  rw [a4]
  by_cases c : aFt g k = 0
  · rw [if_pos (show nI (aFt g k) = 0 from (ft_eq hI hk (b := 0) (by decide)).mpr c), a5 c]
    have hq6 := q6 hI hk c
    by_cases d : aQu g k = b
    · rw [if_pos (by rw [d]), if_pos ⟨c, d⟩]
    · rw [if_neg (fun h => d ((nI_eq (by omega) (by omega)).mp h)), if_neg (fun h => d h.2)]
  · rw [if_neg (show ¬ nI (aFt g k) = 0 from fun h => c ((ft_eq hI hk (b := 0) (by decide)).mp h)), if_neg (fun h => c h.1)]
theorem l_isBefore (hI : GI u g) (hQ : LQ u g q) {i j : Nat} (hi : i < aJ g) (hj : j < aJ g) : f_L_isBefore q (nI i) (nI j) = some (if prc (aPr g) i j = true then 1 else 0) := by
  have i40 : i < 40 := by have := hI.1; omega
  have j40 : j < 40 := by have := hI.1; omega
  have p1 := (hI.2.2.2.2.1 i hi).2.1
  have p2 := (hI.2.2.2.2.1 j hj).2.1
  unfold f_L_isBefore
  simp only [if_neg (o40 i40), if_neg (o40 j40), c40 i40, c40 j40]
  rw [(hQ.2.2.2.1 i hi).2.1, (hQ.2.2.2.1 j hj).2.1]
  by_cases c : aPr g i < aPr g j
  · rw [if_pos (nI_lt c (by omega)), if_pos (prc_iff.mpr (Or.inl c))]
  · rw [if_neg (nI_nlt (by omega) (by omega))]
    by_cases d : aPr g i = aPr g j
    · rw [if_pos (by rw [d])]
      by_cases e : i < j
      · rw [if_neg (nI_ge e (by omega)), if_pos (prc_iff.mpr (Or.inr ⟨d, e⟩))]
      · rw [if_pos (nI_le (by omega) (by omega)), if_neg (fun h => (prc_iff.mp h).elim c (fun h => e h.2))]
    · rw [if_neg (fun h => d ((nI_eq (by omega) (by omega)).mp h)), if_neg (fun h => (prc_iff.mp h).elim c (fun h => d h.1))]
theorem w1_0 {b k : Nat} (c : wIn g b k) : ¬ w1 g b k = 0 := by
  unfold w1
  rw [if_pos c]
  exact n10
theorem w1_1 {b k : Nat} (c : ¬ wIn g b k) : w1 g b k = 0 := by
  unfold w1
  rw [if_neg c]
theorem l_size (hI : GI u g) (hQ : LQ u g q) {b : Nat} (hb : b < 6) : f_L_size q (nI b) = some (gSz g b) := by
  have hJ := hI.1
  refine loop_sm (L := fun n a k => f_L_size_h4 n (nI b) a k q) (E := some) (FUbig hI) (fun n a k hk => ?_) (fun n a => ?_)
  · show f_L_size_h4 (n + 1) (nI b) a (nI k) q = f_L_size_h4 n (nI b) (a + w1 g b k) (nI (k + 1)) q
    rw [f_L_size_h4, hQ.1.2.2, if_neg (nI_ge hk (by omega)), l_isIn hI hQ hk hb, Option.bind_some, nI_1]
    by_cases c : wIn g b k
    · rw [if_neg (w1_0 c)]
      unfold w1
      rw [if_pos c]
    · rw [if_pos (w1_1 c), w1_1 c, Int32.add_zero]
  · show f_L_size_h4 (n + 1) (nI b) a (nI (aJ g)) q = some a
    rw [f_L_size_h4, hQ.1.2.2, if_pos (nI_le (Nat.le_refl _) (by omega))]
theorem l_position (hI : GI u g) (hQ : LQ u g q) {i : Nat} (hi : i < aJ g) (hf : aFt g i = 0) : f_L_position q (nI i) = some (gPos (aPr g) g i) := by
  have hJ := hI.1
  have i40 : i < 40 := by omega
  have hq6 := q6 hI hi hf
  refine loop_sm (L := fun n a k => f_L_position_h4 n (nI i) a k q) (f := fun k => if wIn g (aQu g i) k ∧ prc (aPr g) k i = true then 1 else 0) (E := some) (FUbig hI) (fun n a k hk => ?_) (fun n a => ?_)
  · show f_L_position_h4 (n + 1) (nI i) a (nI k) q = f_L_position_h4 n (nI i) (a + (if wIn g (aQu g i) k ∧ prc (aPr g) k i = true then 1 else 0)) (nI (k + 1)) q
    rw [f_L_position_h4, hQ.1.2.2, if_neg (nI_ge hk (by omega)), if_neg (o40 i40), c40 i40, (hQ.2.2.2.1 i hi).2.2.2.2 hf, l_isIn hI hQ hk hq6, Option.bind_some, nI_1]
    by_cases c : wIn g (aQu g i) k
    · rw [if_neg (w1_0 c), l_isBefore hI hQ hk hi, Option.bind_some]
      by_cases d : prc (aPr g) k i = true
      · rw [if_pos d, if_neg n10, if_pos ⟨c, d⟩]
      · rw [if_neg d, if_pos rfl, if_neg (fun h => d h.2), Int32.add_zero]
    · rw [if_pos (w1_1 c), if_neg (fun h => c h.1), Int32.add_zero]
  · show f_L_position_h4 (n + 1) (nI i) a (nI (aJ g)) q = some a
    rw [f_L_position_h4, hQ.1.2.2, if_pos (nI_le (Nat.le_refl _) (by omega))]
theorem l_before (hI : GI u g) (hQ : LQ u g q) {i : Nat} (hi : i < aJ g) (hf : aFt g i = 0) : f_L_before q (nI i) = some (gBef g i) := by
  have hJ := hI.1
  have i40 : i < 40 := by omega
  have hq6 := q6 hI hi hf
  refine loop_sm (L := fun n a k => f_L_before_h4 n (nI i) a k q) (f := fun k => if wIn g (aQu g i) k ∧ prc (aPr g) k i = true then aPg g k else 0) (E := some) (FUbig hI) (fun n a k hk => ?_) (fun n a => ?_)
  · show f_L_before_h4 (n + 1) (nI i) a (nI k) q = f_L_before_h4 n (nI i) (a + (if wIn g (aQu g i) k ∧ prc (aPr g) k i = true then aPg g k else 0)) (nI (k + 1)) q
    have k40 : k < 40 := by omega
    rw [f_L_before_h4, hQ.1.2.2, if_neg (nI_ge hk (by omega)), if_neg (o40 i40), c40 i40, (hQ.2.2.2.1 i hi).2.2.2.2 hf, l_isIn hI hQ hk hq6, Option.bind_some, nI_1]
    by_cases c : wIn g (aQu g i) k
    · rw [if_neg (w1_0 c), l_isBefore hI hQ hk hi, Option.bind_some]
      by_cases d : prc (aPr g) k i = true
      · rw [if_pos d, if_neg n10, if_neg (o40 k40), c40 k40, (hQ.2.2.2.1 k hk).2.2.1, if_pos ⟨c, d⟩]
      · rw [if_neg d, if_pos rfl, if_neg (fun h => d h.2), Int32.add_zero]
    · rw [if_pos (w1_1 c), if_neg (fun h => c h.1), Int32.add_zero]
  · show f_L_before_h4 (n + 1) (nI i) a (nI (aJ g)) q = some a
    rw [f_L_before_h4, hQ.1.2.2, if_pos (nI_le (Nat.le_refl _) (by omega))]
theorem fa_s (pr : Nat → Nat) (cand : Nat → Bool) (n : Nat) : fa pr cand (n + 1) = if cand n = true ∧ (fa pr cand n = none ∨ ∃ m, fa pr cand n = some m ∧ prc pr n m = true) then some n else fa pr cand n := by
  rw [fa]
  cases e : fa pr cand n with
  | none => cases c : cand n <;> simp
  | some m => cases c : cand n <;> cases d : prc pr n m <;> simp [d]
theorem oI_lt {o : Option Nat} {n : Nat} (h : ∀ m, o = some m → m < n) (hn : n ≤ 40) : (oI o < 0) ↔ o = none := by
  cases o with
  | none => exact ⟨fun _ => rfl, fun _ => by decide⟩
  | some m => exact ⟨fun h2 => absurd h2 (nI_pos (by have := h m rfl; omega)), fun h2 => by cases h2⟩
theorem l_first (hI : GI u g) (hQ : LQ u g q) {b : Nat} (hb : b < 6) : f_L_first q (nI b) = some (oI (nxt g b none)) := by
  have hJ := hI.1
  have hlt : ∀ k, ∀ m, fa (aPr g) (cnd g b none) k = some m → m < k := fun k m hm => (fa_some hm).1
  refine loop_acc (L := fun n a k => f_L_first_h4 n (nI b) a k q) (A := fun k => oI (fa (aPr g) (cnd g b none) k)) (J := aJ g) (r := some (oI (nxt g b none))) (fun n k hk => ?_) (fun n => ?_) (aJ g) FU 0 rfl (FUbig hI) (Nat.zero_le _)
  · show f_L_first_h4 (n + 1) (nI b) (oI (fa (aPr g) (cnd g b none) k)) (nI k) q = f_L_first_h4 n (nI b) (oI (fa (aPr g) (cnd g b none) (k + 1))) (nI (k + 1)) q
    rw [f_L_first_h4, hQ.1.2.2, if_neg (nI_ge hk (by omega)), l_isIn hI hQ hk hb, Option.bind_some, nI_1, fa_s]
    by_cases c : wIn g b k
    · have c' : cnd g b none k = true := wB_iff.mpr c
      rw [if_neg (w1_0 c)]
      by_cases d : fa (aPr g) (cnd g b none) k = none
      · rw [if_pos ((oI_lt (hlt k) (by omega)).mpr d), if_pos ⟨c', Or.inl d⟩]
        rfl
      · rw [if_neg (fun h => d ((oI_lt (hlt k) (by omega)).mp h))]
        cases e : fa (aPr g) (cnd g b none) k with
        | none => exact absurd e d
        | some m =>
          have hm := hlt k m e
          rw [show oI (some m) = nI m from rfl, l_isBefore hI hQ hk (show m < aJ g by omega), Option.bind_some]
          by_cases f : prc (aPr g) k m = true
          · rw [if_pos f, if_neg n10, if_pos ⟨c', Or.inr ⟨m, rfl, f⟩⟩]
            rfl
          · rw [if_neg f, if_pos rfl, if_neg]
            · rfl
            · rintro ⟨-, h | ⟨m', h, h2⟩⟩
              · cases h
              · cases h
                exact f h2
    · rw [if_pos (w1_1 c), if_neg (fun h => c (wB_iff.mp h.1))]
  · show f_L_first_h4 (n + 1) (nI b) (oI (fa (aPr g) (cnd g b none) (aJ g))) (nI (aJ g)) q = some (oI (nxt g b none))
    rw [f_L_first_h4, hQ.1.2.2, if_pos (nI_le (Nat.le_refl _) (by omega))]
    rfl
/-- the first job of a line is the heap's root -/
theorem root_first (hI : GI u g) (b : Nat) : hv (aF g b) = oI (nxt g b none) := by
  have hm := hI.2.2.2.1 b
  have hh := (hI.2.2.1 b).2.2
  cases e : aF g b with
  | leaf w =>
    cases e2 : nxt g b none with
    | none => rfl
    | some m =>
      obtain ⟨h1, h2, -⟩ := fa_some e2
      have h3 : wIn g b m := wB_iff.mp h2
      have h4 := (hm m).mpr ⟨h1, h3.1, h3.2⟩
      rw [e] at h4
      simp [nds] at h4
  | branch i l r =>
    rw [e] at hh
    have hi := (hm i).mp (by rw [e]; simp [nds])
    cases e2 : nxt g b none with
    | none =>
      have h2 := fa_none e2 i hi.1
      have h3 : cnd g b none i = true := wB_iff.mpr ⟨hi.2.1, hi.2.2⟩
      rw [h2] at h3
      cases h3
    | some m =>
      obtain ⟨h1, h2, h9⟩ := fa_some e2
      have h3 : wIn g b m := wB_iff.mp h2
      have h4 := (hm m).mpr ⟨h1, h3.1, h3.2⟩
      rw [e] at h4
      show nI i = nI m
      rcases hpo_top hh h4 with h5 | h5
      · rw [h5]
      · rcases h9 i hi.1 (wB_iff.mpr ⟨hi.2.1, hi.2.2⟩) with h6 | h6
        · rw [h6]
        · rw [prc_asym h5] at h6
          cases h6
end LN
