/-! ===== 10f: the world behind a call, place by place ===== -/
def bld (cs : List AC) : List AC → List (Option Nat) → List AC
  | [], _ => []
  | c :: t, [] => c :: t
  | c :: t, none :: s => c :: bld cs t s
  | c :: t, some k :: s => (match cs[k]? with
    | some x => x
    | none => c) :: bld cs t s
theorem bld_len {cs : List AC} : ∀ {AH : List AC} {s : List (Option Nat)}, (bld cs AH s).length = AH.length
  | [], _ => rfl
  | c :: t, [] => rfl
  | c :: t, none :: s => congrArg (· + 1) (bld_len (AH := t) (s := s))
  | c :: t, some k :: s => congrArg (· + 1) (bld_len (AH := t) (s := s))
theorem bld_at {cs : List AC} : ∀ {AH : List AC} {s : List (Option Nat)} {j : Nat} {c : AC}, AH[j]? = some c → (bld cs AH s)[j]? = some (match s[j]? with
    | some (some k) => (match cs[k]? with
      | some x => x
      | none => c)
    | _ => c)
  | [], s, j, c, h => by simp at h
  | a :: t, [], j, c, h => by
    show (a :: t)[j]? = _
    rw [h]
    rfl
  | a :: t, none :: s, 0, c, h => by
    have e : a = c := by simpa using h
    subst e
    rfl
  | a :: t, none :: s, j + 1, c, h => bld_at (AH := t) (s := s) (j := j) (by simpa using h)
  | a :: t, some k :: s, 0, c, h => by
    have e : a = c := by simpa using h
    subst e
    rfl
  | a :: t, some k :: s, j + 1, c, h => bld_at (AH := t) (s := s) (j := j) (by simpa using h)
/-- the places are told rightly -/
def okS (ι : List Nat) (s : List (Option Nat)) : Bool := va_nd ι && ((List.range ι.length).all (fun k => decide (s[ι.getD k 0]? = some (some k)))) && ((List.range s.length).all (fun j => match s[j]? with
  | some (some k) => decide (ι[k]? = some j)
  | _ => true))
theorem putB_bld {ι : List Nat} {s : List (Option Nat)} {AH cs : List AC} (h : okS ι s = true) (hs : s.length = AH.length) (hc : cs.length = ι.length) : putB AH ι cs = bld cs AH s := by
  simp only [okS, Bool.and_eq_true, List.all_eq_true, List.mem_range, decide_eq_true_eq] at h
  obtain ⟨⟨h1, h2⟩, h3⟩ := h
  apply List.ext_getElem?
  intro j
  by_cases hj : j < AH.length
  · have hA := List.getElem?_eq_getElem hj
    rw [bld_at hA]
    by_cases hm : j ∈ ι
    · obtain ⟨k, hk⟩ := List.getElem?_of_mem hm
      have hkl : k < ι.length := (List.getElem?_eq_some_iff.mp hk).1
      have e := h2 k hkl
      rw [show ι.getD k 0 = j by simp [List.getD, hk]] at e
      have hck : cs[k]? = some cs[k] := List.getElem?_eq_getElem (hc ▸ hkl)
      rw [putB_in h1 hk hj hck, e]
      show _ = some (match cs[k]? with
        | some x => x
        | none => _)
      rw [hck]
    · rw [putB_out hm, hA]
      cases hsj : s[j]? with
      | none => rfl
      | some o =>
        cases o with
        | none => rfl
        | some k =>
          have e := h3 j (by rw [hs]; exact hj)
          rw [hsj] at e
          simp only [decide_eq_true_eq] at e
          exact absurd (List.mem_of_getElem? e) hm
  · have l1 : (putB AH ι cs).length ≤ j := by rw [putB_len]; omega
    have l2 : (bld cs AH s).length ≤ j := by rw [bld_len]; omega
    rw [List.getElem?_eq_none l1, List.getElem?_eq_none l2]
