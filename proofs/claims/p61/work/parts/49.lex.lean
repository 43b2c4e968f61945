/-! ===== 49: tokens, on both sides ===== -/
def isB (c : Nat) : Bool := c == 32 || c == 10
def isL (c : Nat) : Bool := Nat.ble 97 c && Nat.ble c 122
def isD (c : Nat) : Bool := Nat.ble 48 c && Nat.ble c 57
def rn (P : Nat → Bool) (T : List Nat) : Nat → Nat → Nat
  | 0, p => p
  | k + 1, p => match T[p]? with
    | some c => if P c = true then rn P T k (p + 1) else p
    | none => p
/-- where the run of P's from p on ends -/
def ru (P : Nat → Bool) (T : List Nat) (p : Nat) : Nat := rn P T (T.length - p) p
theorem ru_none {P : Nat → Bool} {T : List Nat} {p : Nat} (h : T[p]? = none) : ru P T p = p := by
  have : T.length ≤ p := by simpa using h
  unfold ru
  rw [show T.length - p = 0 by omega, rn]
theorem ru_no {P : Nat → Bool} {T : List Nat} {p c : Nat} (h : T[p]? = some c) (hc : P c = false) : ru P T p = p := by
  have hl := (List.getElem?_eq_some_iff.mp h).1
  unfold ru
  obtain ⟨k, hk⟩ : ∃ k, T.length - p = k + 1 := ⟨T.length - p - 1, by omega⟩
  rw [hk, rn, h]
  show (if P c = true then rn P T k (p + 1) else p) = p
  rw [hc, if_neg (by decide)]
theorem ru_yes {P : Nat → Bool} {T : List Nat} {p c : Nat} (h : T[p]? = some c) (hc : P c = true) : ru P T p = ru P T (p + 1) := by
  have hl := (List.getElem?_eq_some_iff.mp h).1
  unfold ru
  obtain ⟨k, hk⟩ : ∃ k, T.length - p = k + 1 := ⟨T.length - p - 1, by omega⟩
  rw [hk, rn, h, show T.length - (p + 1) = k by omega]
  show (if P c = true then rn P T k (p + 1) else p) = _
  rw [hc, if_pos rfl]
theorem ru_all {P : Nat → Bool} {T : List Nat} : ∀ (m p : Nat), T.length - p = m → p ≤ T.length → p ≤ ru P T p ∧ ru P T p ≤ T.length ∧ (∀ k, p ≤ k → k < ru P T p → ∃ c, T[k]? = some c ∧ P c = true) ∧ ∀ c, T[ru P T p]? = some c → P c = false := by
  intro m
  induction m with
  | zero =>
    intro p hm hp
    have e : T[p]? = none := by simp; omega
    rw [ru_none e]
    exact ⟨Nat.le_refl _, hp, fun k h1 h2 => by omega, fun c hc => by rw [e] at hc; cases hc⟩
  | succ m ih =>
    intro p hm hp
    have hl : p < T.length := by omega
    have e := List.getElem?_eq_getElem hl
    cases hc : P T[p] with
    | false =>
      rw [ru_no e hc]
      refine ⟨Nat.le_refl _, hp, fun k h1 h2 => by omega, fun c h => ?_⟩
      rw [e] at h
      cases h
      exact hc
    | true =>
      rw [ru_yes e hc]
      obtain ⟨h1, h2, h3, h4⟩ := ih (p + 1) (by omega) (by omega)
      refine ⟨by omega, h2, fun k k1 k2 => ?_, h4⟩
      by_cases ek : k = p
      · subst ek
        exact ⟨_, e, hc⟩
      · exact h3 k (by omega) k2
theorem ru_ge {P : Nat → Bool} {T : List Nat} {p : Nat} (h : p ≤ T.length) : p ≤ ru P T p := (ru_all _ p rfl h).1
theorem ru_le {P : Nat → Bool} {T : List Nat} {p : Nat} (h : p ≤ T.length) : ru P T p ≤ T.length := (ru_all _ p rfl h).2.1
theorem ru_in {P : Nat → Bool} {T : List Nat} {p k : Nat} (h : p ≤ T.length) (h1 : p ≤ k) (h2 : k < ru P T p) : ∃ c, T[k]? = some c ∧ P c = true := (ru_all _ p rfl h).2.2.1 k h1 h2
theorem ru_end {P : Nat → Bool} {T : List Nat} {p c : Nat} (h : p ≤ T.length) (hc : T[ru P T p]? = some c) : P c = false := (ru_all _ p rfl h).2.2.2 c hc
/-! the token at p: where it begins, its kind (0 end, 1 word, 2 number, 3 semicolon, 4 else), its end -/
def tS (T : List Nat) (p : Nat) : Nat := ru isB T p
def tC (T : List Nat) (p : Nat) : Nat := match T[tS T p]? with
  | none => 0
  | some c => if isL c = true then 1 else if isD c = true then 2 else if c = 59 then 3 else 4
def tE (T : List Nat) (p : Nat) : Nat := if tC T p = 1 then ru isL T (tS T p) else if tC T p = 2 then ru isD T (tS T p) else if tC T p = 3 then tS T p + 1 else tS T p
def pw (T : List Nat) (s : Nat) : Nat → Int64
  | 0 => 0
  | k + 1 => pw T s k ||| ((Int32.toInt64 (nI (T.getD (s + k) 0))) <<< (Int32.toInt64 (8 * nI k) &&& 63))
def dv (T : List Nat) (s : Nat) : Nat → Int32
  | 0 => 0
  | k + 1 => dv T s k * 10 + nI (T.getD (s + k) 0) - 48
theorem tS_le {T : List Nat} {p : Nat} (h : p ≤ T.length) : tS T p ≤ T.length := ru_le h
theorem tS_ge {T : List Nat} {p : Nat} (h : p ≤ T.length) : p ≤ tS T p := ru_ge h
theorem tE_ge {T : List Nat} {p : Nat} (h : p ≤ T.length) : tS T p ≤ tE T p := by
  have := tS_le h
  unfold tE
  split
  · exact ru_ge this
  · split
    · exact ru_ge this
    · split <;> omega
theorem tC_le {T : List Nat} {p : Nat} : tC T p ≤ 4 := by
  unfold tC
  split
  · omega
  · split
    · omega
    · split
      · omega
      · split <;> omega
theorem tC_0 {T : List Nat} {p : Nat} (h : T[tS T p]? = none) : tC T p = 0 := by unfold tC; rw [h]
theorem tC_s {T : List Nat} {p c : Nat} (h : T[tS T p]? = some c) : tC T p = if isL c = true then 1 else if isD c = true then 2 else if c = 59 then 3 else 4 := by unfold tC; rw [h]
theorem tE_le {T : List Nat} {p : Nat} (h : p ≤ T.length) : tE T p ≤ T.length := by
  have h1 := tS_le h
  unfold tE
  split
  · exact ru_le h1
  · split
    · exact ru_le h1
    · split
      · rename_i h3
        cases e : T[tS T p]? with
        | none => rw [tC_0 e] at h3; omega
        | some c =>
          have := (List.getElem?_eq_some_iff.mp e).1
          omega
      · exact h1
/-! the class -/
/-- a reader in its text -/
def rp (R : RV) (nx tk at' : Int32) (wd : Int64) (va : Int32) : RV := (RVTx R, RVLn R, RVEn R, nx, tk, at', wd, va, RVEk R, RVEa R)
theorem rpN {R : RV} {a b c e : Int32} {d : Int64} : RVNx (rp R a b c d e) = a := rfl
theorem rpE {R : RV} {a b c e : Int32} {d : Int64} : RVEn (rp R a b c d e) = RVEn R := rfl
theorem rpA {R : RV} {a b c e : Int32} {d : Int64} : RVAt (rp R a b c d e) = c := rfl
theorem rpW {R : RV} {a b c e : Int32} {d : Int64} : RVWd (rp R a b c d e) = d := rfl
theorem rpV {R : RV} {a b c e : Int32} {d : Int64} : RVVa (rp R a b c d e) = e := rfl
theorem rpT {R : RV} {a b c e : Int32} {d : Int64} : RVTk (rp R a b c d e) = b := rfl
theorem rpK {R : RV} {a b c e : Int32} {d : Int64} : RVEk (rp R a b c d e) = RVEk R := rfl
theorem rp_id {R : RV} : rp R (RVNx R) (RVTk R) (RVAt R) (RVWd R) (RVVa R) = R := rfl
def TXok (T : List Nat) : Prop := T.length ≤ 600 ∧ ∀ (j c : Nat), T[j]? = some c → c < 256
theorem isBlank_ok : ∀ c, c < 256 → f_X4_isBlank (nI c) = some (if isB c = true then 1 else 0) := by decide +kernel
theorem isLetter_ok : ∀ c, c < 256 → f_X4_isLetter (nI c) = some (if isL c = true then 1 else 0) := by decide +kernel
theorem isDigit_ok : ∀ c, c < 256 → f_X4_isDigit (nI c) = some (if isD c = true then 1 else 0) := by decide +kernel
section LEXC
variable {T : List Nat} {R : RV}
theorem next_some (hT : TXok T) (hn : RVEn R = nI T.length) (hX : TXc T (RVTx R)) {p c : Nat} {tk at' va : Int32} {wd : Int64} (h : T[p]? = some c) : f_X4_nextByte (rp R (nI p) tk at' wd va) = some (nI c) := by
  have hl := (List.getElem?_eq_some_iff.mp h).1
  have h6 := hT.1
  unfold f_X4_nextByte
  rw [show RVNx (rp R (nI p) tk at' wd va) = nI p from rfl, show RVEn (rp R (nI p) tk at' wd va) = nI T.length from hn, show RVTx (rp R (nI p) tk at' wd va) = RVTx R from rfl, if_neg (nI_pos (by omega)), if_neg (nI_ge hl (by omega)), if_neg (show ¬ (600 : Int32) ≤ nI p from nI_ge (b := 600) (by omega) (by decide)), if_neg (nI_in (N := 600) (by omega) (by decide)), nI_clamp (by omega), hX p c h]
theorem next_none (hT : TXok T) (hn : RVEn R = nI T.length) {p : Nat} {tk at' va : Int32} {wd : Int64} (hp : p ≤ T.length) (h : T[p]? = none) : f_X4_nextByte (rp R (nI p) tk at' wd va) = some (-1) := by
  have hl : T.length ≤ p := by simpa using h
  have h6 := hT.1
  unfold f_X4_nextByte
  rw [show RVNx (rp R (nI p) tk at' wd va) = nI p from rfl, show RVEn (rp R (nI p) tk at' wd va) = nI T.length from hn, if_neg (nI_pos (by omega)), if_pos (nI_le hl (by omega))]
theorem nI_subn (s k : Nat) : nI (s + k) - nI s = nI k := by
  rw [← nI_add, Int32.add_comm, Int32.add_sub_cancel]
theorem nI_sub2 {s e : Nat} (h : s ≤ e) : nI e - nI s = nI (e - s) := by
  obtain ⟨k, rfl⟩ := Nat.le.dest h
  rw [nI_subn, Nat.add_sub_cancel_left]
theorem readWord_loop (hT : TXok T) (hn : RVEn R = nI T.length) (hX : TXc T (RVTx R)) {s : Nat} {tk va : Int32} : ∀ (m n p : Nat), T.length - p = m → m < n → s ≤ p → p ≤ T.length →
    f_X4_readWord_h5 n (rp R (nI p) tk (nI s) (pw T s (min (p - s) 8)) va) = some ((), rp R (nI (ru isL T p)) (if ru isL T p - s ≤ 8 then 1 else 4) (nI s) (pw T s (min (ru isL T p - s) 8)) va) := by
  have h6 := hT.1
  have fin : ∀ (p : Nat) (wd : Int64), s ≤ p → p ≤ T.length → (if RVNx (rp R (nI p) tk (nI s) wd va) - RVAt (rp R (nI p) tk (nI s) wd va) ≤ 8 then some ((), RV_sTk (rp R (nI p) tk (nI s) wd va) 1) else some ((), RV_sTk (rp R (nI p) tk (nI s) wd va) 4)) = some ((), rp R (nI p) (if p - s ≤ 8 then 1 else 4) (nI s) wd va) := by
    intro p wd hs hp
    rw [show RVNx (rp R (nI p) tk (nI s) wd va) = nI p from rfl, show RVAt (rp R (nI p) tk (nI s) wd va) = nI s from rfl, nI_sub2 hs]
    by_cases c : p - s ≤ 8
    · rw [if_pos (show nI (p - s) ≤ 8 from nI_le (b := 8) c (by decide)), if_pos c]; rfl
    · rw [if_neg (show ¬ nI (p - s) ≤ 8 from nI_ge (a := 8) (by omega) (by omega)), if_neg c]; rfl
  intro m
  induction m with
  | zero =>
    intro n p hm hn2 hs hp
    obtain ⟨n, rfl⟩ : ∃ m, n = m + 1 := ⟨n - 1, by omega⟩
    have e : T[p]? = none := by simp; omega
    rw [f_X4_readWord_h5]
    simp only [rpN, rpE, rpA, rpW, rpV, hn]
    rw [if_pos (nI_le (by omega) (by omega)), ru_none e]
    exact fin p _ hs hp
  | succ m ih =>
    intro n p hm hn2 hs hp
    obtain ⟨n, rfl⟩ : ∃ m, n = m + 1 := ⟨n - 1, by omega⟩
    have hl : p < T.length := by omega
    have e := List.getElem?_eq_getElem hl
    have hc := hT.2 p _ e
    rw [f_X4_readWord_h5]
    simp only [rpN, rpE, rpA, rpW, rpV, hn]
    rw [if_neg (nI_ge hl (by omega)), next_some hT hn hX e, Option.bind_some, isLetter_ok _ hc, Option.bind_some]
    cases hL : isL T[p] with
    | false =>
      rw [if_neg (show ¬ (false = true) by decide), if_pos rfl, ru_no e hL]
      exact fin p _ hs hp
    | true =>
      rw [if_pos rfl, if_neg n10, ru_yes e hL, Option.bind_some]
      simp only [nI_sub2 hs, nI_1]
      have ihh := ih n (p + 1) (by omega) (by omega) (by omega) (by omega)
      by_cases c : 8 ≤ p - s
      · rw [if_pos (show (8 : Int32) ≤ nI (p - s) from nI_le (a := 8) c (by omega))]
        rw [show min (p + 1 - s) 8 = min (p - s) 8 by omega] at ihh
        exact ihh
      · rw [if_neg (show ¬ (8 : Int32) ≤ nI (p - s) from nI_ge (b := 8) (by omega) (by decide))]
        have ew : pw T s (min (p + 1 - s) 8) = pw T s (min (p - s) 8) ||| ((Int32.toInt64 (nI T[p])) <<< (Int32.toInt64 (8 * nI (p - s)) &&& 63)) := by
          rw [show min (p + 1 - s) 8 = min (p - s) 8 + 1 by omega, pw, show min (p - s) 8 = p - s by omega, show s + (p - s) = p by omega, show T.getD p 0 = T[p] by simp [List.getD, e]]
        rw [ew] at ihh
        exact ihh
theorem readDigits_loop (hT : TXok T) (hn : RVEn R = nI T.length) (hX : TXc T (RVTx R)) {s : Nat} {tk : Int32} {wd : Int64} : ∀ (m n p : Nat), T.length - p = m → m < n → s ≤ p → p ≤ T.length →
    f_X4_readDigits_h5 n (rp R (nI p) tk (nI s) wd (dv T s (min (p - s) 3))) = some ((), rp R (nI (ru isD T p)) 2 (nI s) wd (dv T s (min (ru isD T p - s) 3))) := by
  have h6 := hT.1
  intro m
  induction m with
  | zero =>
    intro n p hm hn2 hs hp
    obtain ⟨n, rfl⟩ : ∃ m, n = m + 1 := ⟨n - 1, by omega⟩
    have e : T[p]? = none := by simp; omega
    rw [f_X4_readDigits_h5]
    simp only [rpN, rpE, rpA, rpW, rpV, hn]
    rw [if_pos (nI_le (by omega) (by omega)), ru_none e]
    rfl
  | succ m ih =>
    intro n p hm hn2 hs hp
    obtain ⟨n, rfl⟩ : ∃ m, n = m + 1 := ⟨n - 1, by omega⟩
    have hl : p < T.length := by omega
    have e := List.getElem?_eq_getElem hl
    have hc := hT.2 p _ e
    rw [f_X4_readDigits_h5]
    simp only [rpN, rpE, rpA, rpW, rpV, hn]
    rw [if_neg (nI_ge hl (by omega)), next_some hT hn hX e, Option.bind_some, isDigit_ok _ hc, Option.bind_some]
    cases hL : isD T[p] with
    | false =>
      rw [if_neg (show ¬ (false = true) by decide), if_pos rfl, ru_no e hL]
      rfl
    | true =>
      rw [if_pos rfl, if_neg n10, ru_yes e hL, Option.bind_some]
      simp only [nI_sub2 hs, nI_1]
      have ihh := ih n (p + 1) (by omega) (by omega) (by omega) (by omega)
      by_cases c : 3 ≤ p - s
      · rw [if_pos (show (3 : Int32) ≤ nI (p - s) from nI_le (a := 3) c (by omega))]
        rw [show min (p + 1 - s) 3 = min (p - s) 3 by omega] at ihh
        exact ihh
      · rw [if_neg (show ¬ (3 : Int32) ≤ nI (p - s) from nI_ge (b := 3) (by omega) (by decide))]
        have ew : dv T s (min (p + 1 - s) 3) = dv T s (min (p - s) 3) * 10 + nI T[p] - 48 := by
          rw [show min (p + 1 - s) 3 = min (p - s) 3 + 1 by omega, dv, show min (p - s) 3 = p - s by omega, show s + (p - s) = p by omega, show T.getD p 0 = T[p] by simp [List.getD, e]]
        rw [ew] at ihh
        exact ihh
/-- what the class's reader holds of the token -/
def TKc (T : List Nat) (p : Nat) (k : Int32) (wd : Int64) (va : Int32) : Prop :=
  (tC T p = 0 → k = 0) ∧ (tC T p = 1 → k = (if tE T p - tS T p ≤ 8 then 1 else 4) ∧ wd = pw T (tS T p) (min (tE T p - tS T p) 8)) ∧ (tC T p = 2 → k = 2 ∧ va = dv T (tS T p) (min (tE T p - tS T p) 3)) ∧ (tC T p = 3 → k = 3) ∧ (tC T p = 4 → k = 4)
theorem readToken_loop (hT : TXok T) (hn : RVEn R = nI T.length) (hX : TXc T (RVTx R)) {tk at' va : Int32} {wd : Int64} : ∀ (m n p : Nat), T.length - p = m → m < n → p ≤ T.length →
    ∃ k wd' va', f_X4_readToken_h8 n (rp R (nI p) tk at' wd va) = some ((), rp R (nI (tE T p)) k (nI (tS T p)) wd' va') ∧ TKc T p k wd' va' := by
  have h6 := hT.1
  intro m
  induction m with
  | zero =>
    intro n p hm hn2 hp
    obtain ⟨n, rfl⟩ : ∃ m, n = m + 1 := ⟨n - 1, by omega⟩
    have e : T[p]? = none := by simp; omega
    have es : tS T p = p := ru_none e
    have ec : tC T p = 0 := tC_0 (by rw [es]; exact e)
    have ee : tE T p = p := by unfold tE; rw [ec, es]; rfl
    refine ⟨0, wd, va, ?_, fun _ => rfl, fun h => by omega, fun h => by omega, fun h => by omega, fun h => by omega⟩
    rw [f_X4_readToken_h8]
    simp only [rpN, rpE, rpA, rpW, rpV, hn]
    rw [if_pos (nI_le (by omega) (by omega))]
    rw [show f_X4_nextByte (RV_sAt (rp R (nI p) tk at' wd va) (nI p)) = some (-1) from next_none hT hn hp e, Option.bind_some, show f_X4_isLetter (-1) = some 0 by decide, Option.bind_some, if_pos rfl, show f_X4_isDigit (-1) = some 0 by decide, Option.bind_some, if_pos rfl, if_neg (by decide), if_pos rfl, ee, es]
    rfl
  | succ m ih =>
    intro n p hm hn2 hp
    obtain ⟨n, rfl⟩ : ∃ m, n = m + 1 := ⟨n - 1, by omega⟩
    have hl : p < T.length := by omega
    have e := List.getElem?_eq_getElem hl
    have hc := hT.2 p _ e
    rw [f_X4_readToken_h8]
    simp only [rpN, rpE, rpA, rpW, rpV, hn]
    rw [if_neg (nI_ge hl (by omega)), next_some hT hn hX e, Option.bind_some, isBlank_ok _ hc, Option.bind_some]
    cases hB : isB T[p] with
    | true =>
      rw [if_pos rfl, if_neg n10]
      have ihh := ih n (p + 1) (by omega) (by omega) (by omega)
      have es : tS T (p + 1) = tS T p := (ru_yes e hB).symm
      have ec : tC T (p + 1) = tC T p := by unfold tC; rw [es]
      have ee : tE T (p + 1) = tE T p := by unfold tE; rw [es, ec]
      unfold TKc at ihh ⊢
      rw [es, ec, ee] at ihh
      rw [nI_1]
      exact ihh
    | false =>
      rw [if_neg (show ¬ (false = true) by decide), if_pos rfl]
      have es : tS T p = p := ru_no e hB
      have ec := tC_s (T := T) (p := p) (by rw [es]; exact e)
      rw [show f_X4_nextByte (RV_sAt (rp R (nI p) tk at' wd va) (nI p)) = some (nI T[p]) from next_some hT hn hX e, Option.bind_some, isLetter_ok _ hc, Option.bind_some]
      have hFU : FU = 5000 := rfl
      cases hL : isL T[p] with
      | true =>
        rw [hL, if_pos rfl] at ec
        have ee : tE T p = ru isL T p := by unfold tE; rw [ec, es]; rfl
        rw [if_pos rfl, if_neg n10]
        have k1 := readWord_loop hT hn hX (s := p) (tk := tk) (va := va) (T.length - p) FU p rfl (by omega) (Nat.le_refl _) hp
        rw [Nat.sub_self] at k1
        refine ⟨_, _, va, ?_, fun h => by omega, fun _ => ⟨rfl, rfl⟩, fun h => by omega, fun h => by omega, fun h => by omega⟩
        rw [ee, es]
        rw [show f_X4_readWord (RV_sAt (rp R (nI p) tk at' wd va) (nI p)) = _ from k1, bnd2_some]
      | false =>
        rw [hL, if_neg (show ¬ (false = true) by decide)] at ec
        rw [if_neg (show ¬ (false = true) by decide), if_pos rfl, isDigit_ok _ hc, Option.bind_some]
        cases hD : isD T[p] with
        | true =>
          rw [hD, if_pos rfl] at ec
          have ee : tE T p = ru isD T p := by unfold tE; rw [ec, es]; rfl
          rw [if_pos rfl, if_neg n10]
          have k1 := readDigits_loop hT hn hX (s := p) (tk := tk) (wd := wd) (T.length - p) FU p rfl (by omega) (Nat.le_refl _) hp
          rw [Nat.sub_self] at k1
          refine ⟨2, wd, _, ?_, fun h => by omega, fun h => by omega, fun _ => ⟨rfl, rfl⟩, fun h => by omega, fun h => by omega⟩
          rw [ee, es]
          rw [show f_X4_readDigits (RV_sAt (rp R (nI p) tk at' wd va) (nI p)) = _ from k1, bnd2_some]
        | false =>
          rw [hD, if_neg (show ¬ (false = true) by decide)] at ec
          rw [if_neg (show ¬ (false = true) by decide), if_pos rfl]
          by_cases h59 : T[p] = 59
          · rw [if_pos h59] at ec
            have ee : tE T p = p + 1 := by unfold tE; rw [ec, es]; rfl
            rw [if_pos (show nI T[p] = 59 by rw [h59]; rfl)]
            refine ⟨3, wd, va, ?_, fun h => by omega, fun h => by omega, fun h => by omega, fun _ => rfl, fun h => by omega⟩
            rw [ee, es, ← nI_1]
            rfl
          · rw [if_neg h59] at ec
            have ee : tE T p = p := by unfold tE; rw [ec, es]; rfl
            rw [if_neg (show ¬ nI T[p] = 59 from fun h => h59 ((nI_eq (b := 59) (by omega) (by decide)).mp h)), if_neg (show ¬ nI T[p] = -1 from fun h => by
              have := congrArg Int32.toInt h
              rw [nI_toInt (by omega), show (-1 : Int32).toInt = -1 from rfl] at this
              omega)]
            refine ⟨4, wd, va, ?_, fun h => by omega, fun h => by omega, fun h => by omega, fun h => by omega, fun _ => rfl⟩
            rw [ee, es]
            rfl
theorem readToken_ok (hT : TXok T) (hn : RVEn R = nI T.length) (hX : TXc T (RVTx R)) (h0 : RVEk R = 0) {p : Nat} (hp : p ≤ T.length) (hx : RVNx R = nI p) :
    ∃ k wd va, f_X4_readToken R = some ((), rp R (nI (tE T p)) k (nI (tS T p)) wd va) ∧ TKc T p k wd va := by
  have h6 := hT.1
  unfold f_X4_readToken f_X4_isValid
  rw [h0, if_pos rfl, Option.bind_some, if_neg n10]
  have := readToken_loop hT hn hX (tk := RVTk R) (at' := RVAt R) (wd := RVWd R) (va := RVVa R) (T.length - p) FU p rfl (by have : FU = 5000 := rfl; omega) hp
  rw [← hx, rp_id] at this
  exact this
theorem readToken_er (h0 : ¬ RVEk R = 0) : f_X4_readToken R = some ((), R) := by
  unfold f_X4_readToken f_X4_isValid
  rw [if_neg h0, Option.bind_some, if_pos rfl]
end LEXC
/-! the reference -/
def vp (v : MV) (sp : Nat → Int32) (sl sa en tk va fa fo : Int32) : MV := (MVSt v, MVAs v, MVSv v, MVPt v, MVPc v, MVIs v, MVTh v, sp, sl, MVBf v, MVLn v, MVEc v, MVEo v, sa, en, tk, va, fa, fo, MVSm v, MVSc v, MVOr v, MVOu v, MVOl v)
theorem vpA {v : MV} {sp : Nat → Int32} {sl sa en tk va fa fo : Int32} : MVSa (vp v sp sl sa en tk va fa fo) = sa := rfl
theorem vpE {v : MV} {sp : Nat → Int32} {sl sa en tk va fa fo : Int32} : MVEn (vp v sp sl sa en tk va fa fo) = en := rfl
theorem vpT {v : MV} {sp : Nat → Int32} {sl sa en tk va fa fo : Int32} : MVTk (vp v sp sl sa en tk va fa fo) = tk := rfl
theorem vpV {v : MV} {sp : Nat → Int32} {sl sa en tk va fa fo : Int32} : MVVa (vp v sp sl sa en tk va fa fo) = va := rfl
theorem vpF {v : MV} {sp : Nat → Int32} {sl sa en tk va fa fo : Int32} : MVFa (vp v sp sl sa en tk va fa fo) = fa := rfl
theorem vpO {v : MV} {sp : Nat → Int32} {sl sa en tk va fa fo : Int32} : MVFo (vp v sp sl sa en tk va fa fo) = fo := rfl
theorem vpL {v : MV} {sp : Nat → Int32} {sl sa en tk va fa fo : Int32} : MVLn (vp v sp sl sa en tk va fa fo) = MVLn v := rfl
theorem vpB {v : MV} {sp : Nat → Int32} {sl sa en tk va fa fo : Int32} : MVBf (vp v sp sl sa en tk va fa fo) = MVBf v := rfl
theorem vp_id {v : MV} : vp v (MVSp v) (MVSl v) (MVSa v) (MVEn v) (MVTk v) (MVVa v) (MVFa v) (MVFo v) = v := rfl
theorem within_L : ∀ c, c < 256 → f_X9_isWithin (Int32.toInt64 (sB c)) 97 122 = some (if isL c = true then 1 else 0) := by decide +kernel
theorem within_D : ∀ c, c < 256 → f_X9_isWithin (Int32.toInt64 (sB c)) 48 57 = some (if isD c = true then 1 else 0) := by decide +kernel
theorem sB_32 : ∀ c, c < 256 → (sB c = 32 ↔ c = 32) := by decide +kernel
theorem sB_10 : ∀ c, c < 256 → (sB c = 10 ↔ c = 10) := by decide +kernel
theorem sB_59 : ∀ c, c < 256 → (sB c = 59 ↔ c = 59) := by decide +kernel
theorem sB_D : ∀ c, c < 256 → isD c = true → sB c = nI c := by decide +kernel
theorem sB_L : ∀ c, c < 256 → isL c = true → sB c = nI c := by decide +kernel
section LEXR
variable {T : List Nat} {v : MV}
theorem mL_some (hT : TXok T) (hn : MVLn v = nI T.length) (hX : TXr T (MVBf v)) {w : MV} (e1 : MVLn w = MVLn v) (e2 : MVBf w = MVBf v) {p c : Nat} (h : T[p]? = some c) : f_X9_isLetter w (nI p) = some (if isL c = true then 1 else 0) := by
  have hl := (List.getElem?_eq_some_iff.mp h).1
  have h6 := hT.1
  unfold f_X9_isLetter
  rw [e1, e2, hn, if_neg (nI_ge hl (by omega)), if_neg (nI_in (N := 600) (by omega) (by decide)), nI_clamp (by omega), hX p c h, within_L c (hT.2 p c h), Option.bind_some]
  cases isL c with
  | true => rw [if_pos rfl, if_neg n10]
  | false => rw [if_neg (show ¬ (false = true) by decide), if_pos rfl]
theorem mD_some (hT : TXok T) (hn : MVLn v = nI T.length) (hX : TXr T (MVBf v)) {w : MV} (e1 : MVLn w = MVLn v) (e2 : MVBf w = MVBf v) {p c : Nat} (h : T[p]? = some c) : f_X9_isDigit w (nI p) = some (if isD c = true then 1 else 0) := by
  have hl := (List.getElem?_eq_some_iff.mp h).1
  have h6 := hT.1
  unfold f_X9_isDigit
  rw [e1, e2, hn, if_neg (nI_ge hl (by omega)), if_neg (nI_in (N := 600) (by omega) (by decide)), nI_clamp (by omega), hX p c h, within_D c (hT.2 p c h), Option.bind_some]
  cases isD c with
  | true => rw [if_pos rfl, if_neg n10]
  | false => rw [if_neg (show ¬ (false = true) by decide), if_pos rfl]
theorem mL_none (hT : TXok T) (hn : MVLn v = nI T.length) {w : MV} (e1 : MVLn w = MVLn v) {p : Nat} (hp : p ≤ T.length) (h : T[p]? = none) : f_X9_isLetter w (nI p) = some 0 := by
  have hl : T.length ≤ p := by simpa using h
  have h6 := hT.1
  unfold f_X9_isLetter
  rw [e1, hn, if_pos (nI_le hl (by omega))]
theorem mD_none (hT : TXok T) (hn : MVLn v = nI T.length) {w : MV} (e1 : MVLn w = MVLn v) {p : Nat} (hp : p ≤ T.length) (h : T[p]? = none) : f_X9_isDigit w (nI p) = some 0 := by
  have hl : T.length ≤ p := by simpa using h
  have h6 := hT.1
  unfold f_X9_isDigit
  rw [e1, hn, if_pos (nI_le hl (by omega))]
theorem adv_word (hT : TXok T) (hn : MVLn v = nI T.length) (hX : TXr T (MVBf v)) {s : Nat} {sp : Nat → Int32} {sl tk va fa fo : Int32} : ∀ (m n p : Nat), T.length - p = m → m < n → s ≤ p → p ≤ T.length →
    f_X9_advanceToken_h106 n (vp v sp sl (nI s) (nI p) tk va fa fo) = some ((), vp v sp sl (nI s) (nI (ru isL T p)) (if ru isL T p - s ≤ 8 then 1 else 4) va fa fo) := by
  have h6 := hT.1
  have fin : ∀ p, s ≤ p → p ≤ T.length → (if MVEn (vp v sp sl (nI s) (nI p) tk va fa fo) - MVSa (vp v sp sl (nI s) (nI p) tk va fa fo) ≤ 8 then some ((), MV_sTk (vp v sp sl (nI s) (nI p) tk va fa fo) 1) else some ((), MV_sTk (vp v sp sl (nI s) (nI p) tk va fa fo) 4)) = some ((), vp v sp sl (nI s) (nI p) (if p - s ≤ 8 then 1 else 4) va fa fo) := by
    intro p hs hp
    rw [show MVEn (vp v sp sl (nI s) (nI p) tk va fa fo) = nI p from rfl, show MVSa (vp v sp sl (nI s) (nI p) tk va fa fo) = nI s from rfl, nI_sub2 hs]
    by_cases c : p - s ≤ 8
    · rw [if_pos (show nI (p - s) ≤ 8 from nI_le (b := 8) c (by decide)), if_pos c]; rfl
    · rw [if_neg (show ¬ nI (p - s) ≤ 8 from nI_ge (a := 8) (by omega) (by omega)), if_neg c]; rfl
  intro m
  induction m with
  | zero =>
    intro n p hm hn2 hs hp
    obtain ⟨n, rfl⟩ : ∃ m, n = m + 1 := ⟨n - 1, by omega⟩
    have e : T[p]? = none := by simp; omega
    rw [f_X9_advanceToken_h106, show f_X9_isLetter (vp v sp sl (nI s) (nI p) tk va fa fo) (MVEn (vp v sp sl (nI s) (nI p) tk va fa fo)) = some 0 from mL_none hT hn rfl hp e, Option.bind_some, if_pos rfl, ru_none e]
    exact fin p hs hp
  | succ m ih =>
    intro n p hm hn2 hs hp
    obtain ⟨n, rfl⟩ : ∃ m, n = m + 1 := ⟨n - 1, by omega⟩
    have hl : p < T.length := by omega
    have e := List.getElem?_eq_getElem hl
    rw [f_X9_advanceToken_h106, show f_X9_isLetter (vp v sp sl (nI s) (nI p) tk va fa fo) (MVEn (vp v sp sl (nI s) (nI p) tk va fa fo)) = _ from mL_some hT hn hX rfl rfl e, Option.bind_some]
    cases hL : isL T[p] with
    | false =>
      rw [if_neg (show ¬ (false = true) by decide), if_pos rfl, ru_no e hL]
      exact fin p hs hp
    | true =>
      rw [if_pos rfl, if_neg n10, ru_yes e hL, show MVEn (vp v sp sl (nI s) (nI p) tk va fa fo) + 1 = nI (p + 1) from nI_1 p]
      exact ih n (p + 1) (by omega) (by omega) (by omega) (by omega)
theorem adv_dig (hT : TXok T) (hn : MVLn v = nI T.length) (hX : TXr T (MVBf v)) {s : Nat} {sp : Nat → Int32} {sl tk fa fo : Int32} : ∀ (m n p : Nat), T.length - p = m → m < n → s ≤ p → p ≤ T.length →
    f_X9_advanceToken_h172 n (vp v sp sl (nI s) (nI p) tk (dv T s (min (p - s) 3)) fa fo) = some ((), vp v sp sl (nI s) (nI (ru isD T p)) (if ru isD T p - s ≤ 3 then 2 else 4) (dv T s (min (ru isD T p - s) 3)) fa fo) := by
  have h6 := hT.1
  have fin : ∀ p va, s ≤ p → p ≤ T.length → (if MVEn (vp v sp sl (nI s) (nI p) tk va fa fo) - MVSa (vp v sp sl (nI s) (nI p) tk va fa fo) ≤ 3 then some ((), MV_sTk (vp v sp sl (nI s) (nI p) tk va fa fo) 2) else some ((), MV_sTk (vp v sp sl (nI s) (nI p) tk va fa fo) 4)) = some ((), vp v sp sl (nI s) (nI p) (if p - s ≤ 3 then 2 else 4) va fa fo) := by
    intro p va hs hp
    rw [show MVEn (vp v sp sl (nI s) (nI p) tk va fa fo) = nI p from rfl, show MVSa (vp v sp sl (nI s) (nI p) tk va fa fo) = nI s from rfl, nI_sub2 hs]
    by_cases c : p - s ≤ 3
    · rw [if_pos (show nI (p - s) ≤ 3 from nI_le (b := 3) c (by decide)), if_pos c]; rfl
    · rw [if_neg (show ¬ nI (p - s) ≤ 3 from nI_ge (a := 3) (by omega) (by omega)), if_neg c]; rfl
  intro m
  induction m with
  | zero =>
    intro n p hm hn2 hs hp
    obtain ⟨n, rfl⟩ : ∃ m, n = m + 1 := ⟨n - 1, by omega⟩
    have e : T[p]? = none := by simp; omega
    rw [f_X9_advanceToken_h172, show f_X9_isDigit (vp v sp sl (nI s) (nI p) tk (dv T s (min (p - s) 3)) fa fo) (MVEn (vp v sp sl (nI s) (nI p) tk (dv T s (min (p - s) 3)) fa fo)) = some 0 from mD_none hT hn rfl hp e, Option.bind_some, if_pos rfl, ru_none e]
    exact fin p _ hs hp
  | succ m ih =>
    intro n p hm hn2 hs hp
    obtain ⟨n, rfl⟩ : ∃ m, n = m + 1 := ⟨n - 1, by omega⟩
    have hl : p < T.length := by omega
    have e := List.getElem?_eq_getElem hl
    rw [f_X9_advanceToken_h172, show f_X9_isDigit (vp v sp sl (nI s) (nI p) tk (dv T s (min (p - s) 3)) fa fo) (MVEn (vp v sp sl (nI s) (nI p) tk (dv T s (min (p - s) 3)) fa fo)) = _ from mD_some hT hn hX rfl rfl e, Option.bind_some]
    cases hL : isD T[p] with
    | false =>
      rw [if_neg (show ¬ (false = true) by decide), if_pos rfl, ru_no e hL]
      exact fin p _ hs hp
    | true =>
      rw [if_pos rfl, if_neg n10, ru_yes e hL]
      have ihh := ih n (p + 1) (by omega) (by omega) (by omega) (by omega)
      rw [show MVEn (vp v sp sl (nI s) (nI p) tk (dv T s (min (p - s) 3)) fa fo) = nI p from rfl, show MVSa (vp v sp sl (nI s) (nI p) tk (dv T s (min (p - s) 3)) fa fo) = nI s from rfl, nI_sub2 hs]
      unfold f_X9_advanceToken_j224
      by_cases c : 3 ≤ p - s
      · rw [if_pos (show (3 : Int32) ≤ nI (p - s) from nI_le (a := 3) c (by omega)), show MVEn (vp v sp sl (nI s) (nI p) tk (dv T s (min (p - s) 3)) fa fo) + 1 = nI (p + 1) from nI_1 p]
        rw [show min (p + 1 - s) 3 = min (p - s) 3 by omega] at ihh
        exact ihh
      · rw [if_neg (show ¬ (3 : Int32) ≤ nI (p - s) from nI_ge (b := 3) (by omega) (by decide)), if_neg (nI_in (N := 600) (by omega) (by decide)), nI_clamp (by omega), show MVEn (vp v sp sl (nI s) (nI p) tk (dv T s (min (p - s) 3)) fa fo) + 1 = nI (p + 1) from nI_1 p]
        have hb : MVBf (vp v sp sl (nI s) (nI p) tk (dv T s (min (p - s) 3)) fa fo) p = nI T[p] := (hX p _ e).trans (sB_D _ (hT.2 p _ e) hL)
        rw [hb]
        have ew : dv T s (min (p + 1 - s) 3) = 10 * dv T s (min (p - s) 3) + nI T[p] - 48 := by
          rw [show min (p + 1 - s) 3 = min (p - s) 3 + 1 by omega, dv, show min (p - s) 3 = p - s by omega, show s + (p - s) = p by omega, show T.getD p 0 = T[p] by simp [List.getD, e], Int32.mul_comm]
        rw [ew] at ihh
        exact ihh
/-- what the reference holds of the token -/
def TKr (T : List Nat) (p : Nat) (en k va : Int32) : Prop :=
  (tC T p ≠ 4 → en = nI (tE T p)) ∧ (tC T p = 0 → k = 0) ∧ (tC T p = 1 → k = if tE T p - tS T p ≤ 8 then 1 else 4) ∧ (tC T p = 2 → k = (if tE T p - tS T p ≤ 3 then 2 else 4) ∧ va = dv T (tS T p) (min (tE T p - tS T p) 3)) ∧ (tC T p = 3 → k = 3) ∧ (tC T p = 4 → k = 4)
theorem adv_tok (hT : TXok T) (hn : MVLn v = nI T.length) (hX : TXr T (MVBf v)) {p : Nat} (hp : p ≤ T.length) (es : tS T p = p) {sp : Nat → Int32} {sl en tk va fa fo : Int32} :
    ∃ en' k va', f_X9_advanceToken_j68 (vp v sp sl (nI p) en tk va fa fo) = some ((), vp v sp sl (nI p) en' k va' fa fo) ∧ TKr T p en' k va' := by
  have h6 := hT.1
  have hFU : FU = 5000 := rfl
  unfold f_X9_advanceToken_j68
  rw [show MVSa (vp v sp sl (nI p) en tk va fa fo) = nI p from rfl, show MVLn (vp v sp sl (nI p) en tk va fa fo) = nI T.length from hn]
  cases e : T[p]? with
  | none =>
    have hl : T.length ≤ p := by simpa using e
    have ec : tC T p = 0 := tC_0 (by rw [es]; exact e)
    have ee : tE T p = p := by unfold tE; rw [ec, es]; rfl
    rw [if_pos (congrArg nI (show p = T.length by omega))]
    exact ⟨nI p, 0, va, rfl, fun _ => by rw [ee], fun _ => rfl, fun h => by omega, fun h => by omega, fun h => by omega, fun h => by omega⟩
  | some c =>
    have hl := (List.getElem?_eq_some_iff.mp e).1
    have hc := hT.2 p c e
    have ec := tC_s (T := T) (p := p) (by rw [es]; exact e)
    rw [if_neg (fun h => by have := (nI_eq (by omega) (by omega)).mp h; omega), show f_X9_isLetter (MV_sEn (vp v sp sl (nI p) en tk va fa fo) (nI p)) (nI p) = _ from mL_some hT hn hX rfl rfl e, Option.bind_some]
    cases hL : isL c with
    | true =>
      rw [hL, if_pos rfl] at ec
      have ee : tE T p = ru isL T p := by unfold tE; rw [ec, es]; rfl
      rw [if_pos rfl, if_neg n10]
      have k1 := adv_word hT hn hX (s := p) (sp := sp) (sl := sl) (tk := tk) (va := va) (fa := fa) (fo := fo) (T.length - p) FU p rfl (by omega) (Nat.le_refl _) hp
      exact ⟨_, _, va, k1, fun _ => by rw [ee], fun h => by omega, fun _ => by rw [ee, es], fun h => by omega, fun h => by omega, fun h => by omega⟩
    | false =>
      rw [hL, if_neg (show ¬ (false = true) by decide)] at ec
      rw [if_neg (show ¬ (false = true) by decide), if_pos rfl, show f_X9_isDigit (MV_sEn (vp v sp sl (nI p) en tk va fa fo) (nI p)) (nI p) = _ from mD_some hT hn hX rfl rfl e, Option.bind_some]
      cases hD : isD c with
      | true =>
        rw [hD, if_pos rfl] at ec
        have ee : tE T p = ru isD T p := by unfold tE; rw [ec, es]; rfl
        rw [if_pos rfl, if_neg n10]
        have k1 := adv_dig hT hn hX (s := p) (sp := sp) (sl := sl) (tk := tk) (fa := fa) (fo := fo) (T.length - p) FU p rfl (by omega) (Nat.le_refl _) hp
        rw [Nat.sub_self] at k1
        exact ⟨_, _, _, k1, fun _ => by rw [ee], fun h => by omega, fun h => by omega, fun _ => ⟨by rw [ee, es], by rw [ee, es]⟩, fun h => by omega, fun h => by omega⟩
      | false =>
        rw [hD, if_neg (show ¬ (false = true) by decide)] at ec
        rw [if_neg (show ¬ (false = true) by decide), if_pos rfl, if_neg (nI_in (N := 600) (by omega) (by decide)), nI_clamp (by omega), show MVBf (vp v sp sl (nI p) en tk va fa fo) p = sB c from hX p c e]
        unfold f_X9_advanceToken_j285
        by_cases h59 : c = 59
        · rw [if_pos h59] at ec
          have ee : tE T p = p + 1 := by unfold tE; rw [ec, es]; rfl
          rw [if_pos ((sB_59 c hc).mpr h59)]
          exact ⟨nI p + 1, 3, va, rfl, fun _ => by rw [ee, nI_1], fun h => by omega, fun h => by omega, fun h => by omega, fun _ => rfl, fun h => by omega⟩
        · rw [if_neg h59] at ec
          rw [if_neg (fun h => h59 ((sB_59 c hc).mp h))]
          exact ⟨nI p + 1, 4, va, rfl, fun h => by omega, fun h => by omega, fun h => by omega, fun h => by omega, fun h => by omega, fun _ => rfl⟩
theorem adv_loop (hT : TXok T) (hn : MVLn v = nI T.length) (hX : TXr T (MVBf v)) {sp : Nat → Int32} {sl en tk va fa fo : Int32} : ∀ (m n p : Nat), T.length - p = m → m < n → p ≤ T.length →
    ∃ en' k va', f_X9_advanceToken_h16 n (vp v sp sl (nI p) en tk va fa fo) = some ((), vp v sp sl (nI (tS T p)) en' k va' fa fo) ∧ TKr T p en' k va' := by
  have h6 := hT.1
  intro m
  induction m with
  | zero =>
    intro n p hm hn2 hp
    obtain ⟨n, rfl⟩ : ∃ m, n = m + 1 := ⟨n - 1, by omega⟩
    have e : T[p]? = none := by simp; omega
    have es : tS T p = p := ru_none e
    rw [f_X9_advanceToken_h16]
    simp only [vpA, vpL, hn]
    rw [if_pos (nI_le (by omega) (by omega)), es]
    exact adv_tok hT hn hX hp es
  | succ m ih =>
    intro n p hm hn2 hp
    obtain ⟨n, rfl⟩ : ∃ m, n = m + 1 := ⟨n - 1, by omega⟩
    have hl : p < T.length := by omega
    have e := List.getElem?_eq_getElem hl
    have hc := hT.2 p _ e
    rw [f_X9_advanceToken_h16]
    simp only [vpA, vpL, hn]
    rw [if_neg (nI_ge hl (by omega))]
    simp only [if_neg (nI_in (c := p) (N := 600) (by omega) (by decide)), nI_clamp (n := p) (by omega)]
    rw [show MVBf (vp v sp sl (nI p) en tk va fa fo) p = sB T[p] from hX p _ e]
    have step : isB T[p] = true → ∃ en' k va', f_X9_advanceToken_j55 (f_X9_advanceToken_h16 n) (vp v sp sl (nI p) en tk va fa fo) = some ((), vp v sp sl (nI (tS T p)) en' k va' fa fo) ∧ TKr T p en' k va' := by
      intro hB
      unfold f_X9_advanceToken_j55
      rw [show MVSa (vp v sp sl (nI p) en tk va fa fo) + 1 = nI (p + 1) from nI_1 p]
      have es : tS T (p + 1) = tS T p := (ru_yes e hB).symm
      have ec : tC T (p + 1) = tC T p := by unfold tC; rw [es]
      have ee : tE T (p + 1) = tE T p := by unfold tE; rw [es, ec]
      have ihh := ih n (p + 1) (by omega) (by omega) (by omega)
      unfold TKr at ihh ⊢
      rw [es, ec, ee] at ihh
      exact ihh
    by_cases c1 : T[p] = 32
    · rw [if_pos ((sB_32 _ hc).mpr c1)]
      exact step (by rw [c1]; rfl)
    · rw [if_neg (fun h => c1 ((sB_32 _ hc).mp h))]
      by_cases c2 : T[p] = 10
      · rw [if_pos ((sB_10 _ hc).mpr c2)]
        exact step (by rw [c2]; rfl)
      · rw [if_neg (fun h => c2 ((sB_10 _ hc).mp h))]
        have hB : isB T[p] = false := by simp [isB, c1, c2]
        have es : tS T p = p := ru_no e hB
        rw [es]
        exact adv_tok hT hn hX hp es
theorem advance_ok (hT : TXok T) (hn : MVLn v = nI T.length) (hX : TXr T (MVBf v)) (h0 : MVFa v = 0) {p : Nat} (hp : p ≤ T.length) (hx : MVEn v = nI p) :
    ∃ en k va, f_X9_advanceToken v = some ((), vp v (MVSp v) (MVSl v) (nI (tS T p)) en k va (MVFa v) (MVFo v)) ∧ TKr T p en k va := by
  have h6 := hT.1
  unfold f_X9_advanceToken
  rw [h0, if_pos (by decide), hx]
  have := adv_loop hT hn hX (sp := MVSp v) (sl := MVSl v) (en := nI p) (tk := MVTk v) (va := MVVa v) (fa := MVFa v) (fo := MVFo v) (T.length - p) FU p rfl (by have : FU = 5000 := rfl; omega) hp
  rw [show MV_sSa v (nI p) = vp v (MVSp v) (MVSl v) (nI p) (nI p) (MVTk v) (MVVa v) (MVFa v) (MVFo v) from by rw [← hx]; rfl, h0] at *
  exact this
theorem advance_er (h0 : ¬ MVFa v ≤ 0) : f_X9_advanceToken v = some ((), v) := by
  unfold f_X9_advanceToken
  rw [if_neg h0]
end LEXR
