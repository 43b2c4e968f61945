/-! ===== 36: the checks, on both sides ===== -/
theorem cmp_lt {x y : Int64} : (lg_cmp x y < 0) ↔ x < y := by
  unfold lg_cmp
  rcases lg_tri x y with h | h | h
  · rw [if_neg (lg_lt_not h), if_neg (lg_lt_ne h)]
    exact ⟨fun _ => h, fun _ => by decide⟩
  · subst h
    rw [if_neg (fun h => lg_lt_not h h), if_pos rfl]
    exact ⟨fun h => absurd h (by decide), fun h => absurd h (fun h => lg_lt_not h h)⟩
  · rw [if_pos h]
    exact ⟨fun h => absurd h (by decide), fun h2 => absurd h (lg_lt_not h2)⟩
theorem cmp_gt {x y : Int64} : (0 < lg_cmp x y) ↔ y < x := by
  unfold lg_cmp
  rcases lg_tri x y with h | h | h
  · rw [if_neg (lg_lt_not h), if_neg (lg_lt_ne h)]
    exact ⟨fun h => absurd h (by decide), fun h2 => absurd h (lg_lt_not h2)⟩
  · subst h
    rw [if_neg (fun h => lg_lt_not h h), if_pos rfl]
    exact ⟨fun h => absurd h (by decide), fun h => absurd h (fun h => lg_lt_not h h)⟩
  · rw [if_pos h]
    exact ⟨fun _ => h, fun _ => by decide⟩
theorem i64lt {x y : Int32} : x.toInt64 < y.toInt64 ↔ x < y := by
  rw [Int64.lt_iff_toInt_lt, Int32.toInt_toInt64, Int32.toInt_toInt64, Int32.lt_iff_toInt_lt]
theorem i32nlt {x y : Int32} : ¬ x < y ↔ y ≤ x := by
  rw [Int32.lt_iff_toInt_lt, Int32.le_iff_toInt_le]
  omega
theorem within_ok (a lo hi : Int32) : f_X9_isWithin a.toInt64 lo.toInt64 hi.toInt64 = some (if lo ≤ a ∧ a ≤ hi then 1 else 0) := by
  unfold f_X9_isWithin
  by_cases c : a < lo
  · rw [if_pos (cmp_lt.mpr (i64lt.mpr c)), if_neg (fun h => (i32nlt.mpr h.1) c)]
  · rw [if_neg (fun h => c (i64lt.mp (cmp_lt.mp h)))]
    by_cases c2 : hi < a
    · rw [if_pos (cmp_gt.mpr (i64lt.mpr c2)), if_neg (fun h => (i32nlt.mpr h.2) c2)]
    · rw [if_neg (fun h => c2 (i64lt.mp (cmp_gt.mp h))), if_pos ⟨i32nlt.mp c, i32nlt.mp c2⟩]
/-- a number is one of the first n, or out of them -/
theorem rng (a : Int32) {n : Nat} (hn : n < 2 ^ 31) : (∃ i, i < n ∧ a = nI i ∧ (0 ≤ a ∧ a ≤ nI n - 1)) ∨ ((a < 0 ∨ nI n ≤ a) ∧ ¬ (0 ≤ a ∧ a ≤ nI n - 1)) := by
  have hlt := Int32.toInt_lt a
  have h0 : (0 : Int32).toInt = 0 := rfl
  by_cases c : a < 0
  · refine Or.inr ⟨Or.inl c, fun h => (i32nlt.mpr h.1) c⟩
  · have c' : 0 ≤ a.toInt := by
      rw [Int32.lt_iff_toInt_lt, h0] at c
      omega
    have e : a = nI a.toInt.toNat := by
      apply Int32.toInt_inj.mp
      rw [nI_toInt (by omega)]
      omega
    have hb31 : a.toInt.toNat < 2 ^ 31 := by omega
    generalize a.toInt.toNat = i at e hb31
    subst e
    by_cases hi : i < n
    · refine Or.inl ⟨i, hi, rfl, i32nlt.mp c, ?_⟩
      obtain ⟨m, rfl⟩ : ∃ m, n = m + 1 := ⟨n - 1, by omega⟩
      rw [← nI_1, Int32.add_sub_cancel]
      exact nI_le (by omega) (by omega)
    · refine Or.inr ⟨Or.inr (i32nlt.mp (fun h => ?_)), fun h => ?_⟩
      · exact hi ((nI_ltI hb31 hn).mp h)
      · cases n with
        | zero =>
          have h2 := h.2
          rw [show nI 0 - 1 = -1 from by decide, Int32.le_iff_toInt_le, show (-1 : Int32).toInt = -1 from rfl] at h2
          omega
        | succ m =>
          have h2 := h.2
          rw [← nI_1, Int32.add_sub_cancel] at h2
          have := (nI_leI hb31 (by omega)).mp h2
          omega
def IOB : String := "java/lang/IndexOutOfBoundsException"
def ISE : String := "java/lang/IllegalStateException"
def IAE : String := "java/lang/IllegalArgumentException"
def NSE : String := "java/util/NoSuchElementException"
/-- the class's answer (a number, or an exception: the i-th of L) and the reference's (a number, what it threw) are alike -/
def agr (L : List String) (rc : Int32 ⊕ String) (b th : Int32) : Prop := (rc = .inl b ∧ th = 0) ∨ (∃ i e, L[i]? = some e ∧ rc = .inr e ∧ th = nI (i + 1))
theorem agr_v {L : List String} {x : Int32} : agr L (.inl x) x 0 := Or.inl ⟨rfl, rfl⟩
theorem agr_1 {e : String} {L : List String} {b : Int32} : agr (e :: L) (.inr e) b 1 := Or.inr ⟨0, e, rfl, rfl, rfl⟩
theorem agr_2 {e e' : String} {L : List String} {b : Int32} : agr (e :: e' :: L) (.inr e') b 2 := Or.inr ⟨1, e', rfl, rfl, rfl⟩
theorem agr_3 {e e' e'' : String} {L : List String} {b : Int32} : agr (e :: e' :: e'' :: L) (.inr e'') b 3 := Or.inr ⟨2, e'', rfl, rfl, rfl⟩
theorem isJob_ok {u : GU} {g : GS} {v : MV} (hM : MS u g (MVSt v)) (a : Int32) : f_X9_isJob v a = some (if 0 ≤ a ∧ a ≤ nI (aJ g) - 1 then 1 else 0) := by
  unfold f_X9_isJob
  simp only [if_neg o2, cl2]
  rw [hM.1.2.2, show (0 : Int64) = (0 : Int32).toInt64 from rfl, within_ok, Option.bind_some]
  split
  · rw [if_neg (by decide)]
  · rw [if_neg (by decide)]
theorem isQ_ok {u : GU} {g : GS} {v : MV} (hM : MS u g (MVSt v)) (a : Int32) : f_X9_isQueue v a = some (if 0 ≤ a ∧ a ≤ nI (uQ u) - 1 then 1 else 0) := by
  unfold f_X9_isQueue
  simp only [if_neg o0, cl0]
  rw [hM.1.1, show (0 : Int64) = (0 : Int32).toInt64 from rfl, within_ok, Option.bind_some]
  split
  · rw [if_neg (by decide)]
  · rw [if_neg (by decide)]
theorem checkJob_in {u : GU} {g : GS} {hs : Int32} {S : SV} (hI : GI u g) (hC : CS g S) {i : Nat} (hi : i < aJ g) : f_X8_checkJob (hs, S) (nI i) = some (.inl ()) := by
  have hJ := hI.1
  unfold f_X8_checkJob
  rw [if_neg (p40 (by omega)), show SVJc (LsS (hs, S)) = nI (aJ g) from hC.1, if_neg (nI_ge hi (by omega)), if_pos (show nI i < 40 from nI_lt (a := i) (b := 40) (by omega) (by decide))]
theorem checkJob_out {g : GS} {hs : Int32} {S : SV} (hC : CS g S) {a : Int32} (h : a < 0 ∨ nI (aJ g) ≤ a) : f_X8_checkJob (hs, S) a = some (.inr IOB) := by
  unfold f_X8_checkJob
  rw [show SVJc (LsS (hs, S)) = nI (aJ g) from hC.1]
  by_cases c : a < 0
  · rw [if_pos c]; rfl
  · rw [if_neg c, if_pos (h.resolve_left c)]; rfl
theorem mcheckJob_in {u : GU} {g : GS} {v : MV} (hM : MS u g (MVSt v)) {a : Int32} (h : 0 ≤ a ∧ a ≤ nI (aJ g) - 1) : f_X9_checkJob v a = some (1, MV_sTh v 0) := by
  unfold f_X9_checkJob f_X9_check
  rw [isJob_ok hM, if_pos h, Option.bind_some, if_neg n10, if_neg n10, if_neg n10, bnd2_some, if_neg (by decide)]
theorem mcheckJob_out {u : GU} {g : GS} {v : MV} (hM : MS u g (MVSt v)) {a : Int32} (h : ¬ (0 ≤ a ∧ a ≤ nI (aJ g) - 1)) : f_X9_checkJob v a = some (0, MV_sTh v 1) := by
  unfold f_X9_checkJob f_X9_check
  rw [isJob_ok hM, if_neg h, Option.bind_some, if_pos rfl, bnd2_some, if_neg (by decide)]
theorem checkQueue_in {u : GU} {hs : Int32} {U : UV} (hu : NVCt (UVQs U) = nI (uQ u)) (hQ : uQ u ≤ 6) {i : Nat} (hi : i < uQ u) : f_X8_checkQueue (hs, U) (nI i) = some (.inl ()) := by
  unfold f_X8_checkQueue
  rw [if_neg (nI_pos (by omega)), show NVCt (UVQs (LuU (hs, U))) = nI (uQ u) from hu, if_neg (nI_ge hi (by omega)), if_pos (show nI i < 6 from nI_lt (a := i) (b := 6) (by omega) (by decide))]
theorem checkQueue_out {u : GU} {hs : Int32} {U : UV} (hu : NVCt (UVQs U) = nI (uQ u)) {a : Int32} (h : a < 0 ∨ nI (uQ u) ≤ a) : f_X8_checkQueue (hs, U) a = some (.inr IOB) := by
  unfold f_X8_checkQueue
  rw [show NVCt (UVQs (LuU (hs, U))) = nI (uQ u) from hu]
  by_cases c : a < 0
  · rw [if_pos c]; rfl
  · rw [if_neg c, if_pos (h.resolve_left c)]; rfl
theorem mcheckQueue_in {u : GU} {g : GS} {v : MV} (hM : MS u g (MVSt v)) {a : Int32} (h : 0 ≤ a ∧ a ≤ nI (uQ u) - 1) : f_X9_checkQueue v a = some (1, MV_sTh v 0) := by
  unfold f_X9_checkQueue f_X9_check
  rw [isQ_ok hM, if_pos h, Option.bind_some, if_neg n10, if_neg n10, if_neg n10, bnd2_some, if_neg (by decide)]
theorem mcheckQueue_out {u : GU} {g : GS} {v : MV} (hM : MS u g (MVSt v)) {a : Int32} (h : ¬ (0 ≤ a ∧ a ≤ nI (uQ u) - 1)) : f_X9_checkQueue v a = some (0, MV_sTh v 1) := by
  unfold f_X9_checkQueue f_X9_check
  rw [isQ_ok hM, if_neg h, Option.bind_some, if_pos rfl, bnd2_some, if_neg (by decide)]
