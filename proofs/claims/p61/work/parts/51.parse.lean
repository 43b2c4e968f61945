/-! ===== 51: what a statement is read with, on both sides ===== -/
def rf (R : RV) (k o : Int32) : RV := (RVTx R, RVLn R, RVEn R, RVNx R, RVTk R, RVAt R, RVWd R, RVVa R, k, o)
def vx (v : MV) (k : Int32) : MV := vp v (MVSp v) (MVSl v) (MVSa v) (MVEn v) (MVTk v) (MVVa v) k (MVSa v)
def SR (R R' : RV) : Prop := RVTx R' = RVTx R ∧ RVLn R' = RVLn R ∧ RVEn R' = RVEn R
theorem SR.rfl' {R : RV} : SR R R := ⟨rfl, rfl, rfl⟩
theorem SR.tr {A B C : RV} (h : SR A B) (h2 : SR B C) : SR A C := ⟨h2.1.trans h.1, h2.2.1.trans h.2.1, h2.2.2.trans h.2.2⟩
/-- what reading leaves alone in the reference -/
abbrev KP : Type := (Nat → Int32) × (Nat → Int32) × (Nat → Int32) × Int32 × Int32 × Int32 × (Nat → Int32) × Int32 × Int32 × Int32 × (Nat → Int32) × (Nat → Int32) × Int32
def kp (v : MV) : KP := (MVAs v, MVSv v, MVPt v, MVPc v, MVIs v, MVTh v, MVBf v, MVLn v, MVEc v, MVEo v, MVOr v, MVOu v, MVOl v)
def SV' (v v' : MV) : Prop := kp v' = kp v ∧ MVSt v' = MVSt v ∧ MVSm v' = MVSm v ∧ MVSc v' = MVSc v
theorem SV'.rfl' {v : MV} : SV' v v := ⟨rfl, rfl, rfl, rfl⟩
theorem SV'.tr {a b c : MV} (h : SV' a b) (h2 : SV' b c) : SV' a c := ⟨h2.1.trans h.1, h2.2.1.trans h.2.1, h2.2.2.1.trans h.2.2.1, h2.2.2.2.trans h.2.2.2⟩
theorem SV'.vp {v : MV} {sp : Nat → Int32} {sl sa en tk va fa fo : Int32} : SV' v (vp v sp sl sa en tk va fa fo) := ⟨rfl, rfl, rfl, rfl⟩
/-- the spelled name is left alone -/
def SP' (v v' : MV) : Prop := MVSp v' = MVSp v ∧ MVSl v' = MVSl v
/-- the reference before the token at p -/
def REF (T : List Nat) (p : Nat) (v : MV) : Prop := MVLn v = nI T.length ∧ TXr T (MVBf v) ∧ MVFa v = 0 ∧ MVSa v = nI (tS T p) ∧ TKr T p (MVEn v) (MVTk v) (MVVa v)
/-- no error yet: the class is at p, the reference has the token at p -/
def PR (T : List Nat) (p : Nat) (R : RV) (v : MV) : Prop := TXok T ∧ p ≤ T.length ∧ RVEn R = nI T.length ∧ TXc T (RVTx R) ∧ RVEk R = 0 ∧ RVEa R = -1 ∧ RVNx R = nI p ∧ REF T p v
/-- both have the token at p -/
def MID (T : List Nat) (p : Nat) (R : RV) (v : MV) : Prop := TXok T ∧ p ≤ T.length ∧ RVEn R = nI T.length ∧ TXc T (RVTx R) ∧ RVEk R = 0 ∧ RVEa R = -1 ∧ RVNx R = nI (tE T p) ∧ RVAt R = nI (tS T p) ∧ TKc T p (RVTk R) (RVWd R) (RVVa R) ∧ REF T p v
/-- error k at o -/
def PE (k o : Nat) (R : RV) (v : MV) : Prop := RVEk R = nI k ∧ RVEa R = nI o ∧ MVFa v = nI k ∧ MVFo v = nI o ∧ 1 ≤ k ∧ k ≤ 5 ∧ o ≤ 600
def STEP (T : List Nat) (q : Nat) (R : RV) (v : MV) (Q : Prop) : Prop := (Q ∧ ∃ p, q ≤ p ∧ PR T p R v) ∨ ∃ k o, PE k o R v
theorem PE.c {k o : Nat} {R : RV} {v : MV} (h : PE k o R v) : ¬ RVEk R = 0 := by
  rw [h.1]
  exact nI_ne0 (by have := h.2.2.2.2.1; omega) (by have := h.2.2.2.2.2.1; omega)
theorem PE.r {k o : Nat} {R : RV} {v : MV} (h : PE k o R v) : ¬ MVFa v = 0 := by
  rw [h.2.2.1]
  exact nI_ne0 (by have := h.2.2.2.2.1; omega) (by have := h.2.2.2.2.2.1; omega)
theorem PE.r2 {k o : Nat} {R : RV} {v : MV} (h : PE k o R v) : ¬ MVFa v ≤ 0 := by
  rw [h.2.2.1]
  exact nI_ge (a := 0) (by have := h.2.2.2.2.1; omega) (by have := h.2.2.2.2.2.1; omega)
theorem PE.r3 {k o : Nat} {R : RV} {v : MV} (h : PE k o R v) : 0 < MVFa v := by
  rw [h.2.2.1]
  exact nI_lt (a := 0) (by have := h.2.2.2.2.1; omega) (by have := h.2.2.2.2.2.1; omega)
theorem fail_er {R : RV} {k : Int32} (h : ¬ RVEk R = 0) : f_X4_fail R k = some ((), R) := by
  unfold f_X4_fail
  rw [if_neg h]
theorem fail_0 {R : RV} {k : Int32} (h : RVEk R = 0) : f_X4_fail R k = some ((), rf R k (RVAt R)) := by
  unfold f_X4_fail
  rw [if_pos h]
  rfl
theorem expect_er {v : MV} {a k : Int32} (h : ¬ MVFa v = 0) : f_X9_expect v a k = some ((), v) := by
  unfold f_X9_expect
  rw [if_neg h]
theorem expect_1 {v : MV} {k : Int32} : f_X9_expect v 1 k = some ((), v) := by
  unfold f_X9_expect
  rw [if_neg n10]
  split <;> rfl
theorem expect_0 {v : MV} {k : Int32} (h : MVFa v = 0) : f_X9_expect v 0 k = some ((), vx v k) := by
  unfold f_X9_expect
  rw [if_pos h, if_pos rfl]
  rfl
theorem valid_0 {R : RV} (h : RVEk R = 0) : f_X4_isValid R = some 1 := by
  unfold f_X4_isValid
  rw [if_pos h]
theorem valid_er {R : RV} (h : ¬ RVEk R = 0) : f_X4_isValid R = some 0 := by
  unfold f_X4_isValid
  rw [if_neg h]
theorem MID.pe {T : List Nat} {p k : Nat} {R : RV} {v : MV} (h : MID T p R v) (h1 : 1 ≤ k) (h5 : k ≤ 5) : PE k (tS T p) (rf R (nI k) (RVAt R)) (vx v (nI k)) :=
  ⟨rfl, h.2.2.2.2.2.2.2.1, rfl, h.2.2.2.2.2.2.2.2.2.2.2.2.1, h1, h5, by have := tS_le h.2.1; have := h.1.1; omega⟩
theorem rd_ok {T : List Nat} {p : Nat} {R : RV} {v : MV} (h : PR T p R v) : ∃ R1, f_X4_readToken R = some ((), R1) ∧ SR R R1 ∧ MID T p R1 v := by
  obtain ⟨h1, h2, h3, h4, h5, h6, h7, h8⟩ := h
  obtain ⟨k, wd, va, e1, e2⟩ := readToken_ok h1 h3 h4 h5 h2 h7
  exact ⟨_, e1, ⟨rfl, rfl, rfl⟩, h1, h2, h3, h4, h5, h6, rfl, rfl, e2, h8⟩
theorem adv_mid {T : List Nat} {p : Nat} {R : RV} {v : MV} (h : MID T p R v) (hc : tC T p ≠ 4) : ∃ v', f_X9_advanceToken v = some ((), v') ∧ SV' v v' ∧ PR T (tE T p) R v' ∧ MVSp v' = MVSp v ∧ MVSl v' = MVSl v := by
  obtain ⟨h1, h2, h3, h4, h5, h6, h7, -, -, r1, r2, r3, r4, r5⟩ := h
  obtain ⟨en, k, va, e1, e2⟩ := advance_ok h1 r1 r2 r3 (tE_le h2) (r5.1 hc)
  exact ⟨_, e1, SV'.vp, ⟨h1, tE_le h2, h3, h4, h5, h6, h7, r1, r2, r3, rfl, e2⟩, rfl, rfl⟩
theorem acc_er {R : RV} {k m : Int32} (h : ¬ RVEk R = 0) : f_X4_accepts R k m = some (0, R) := by
  unfold f_X4_accepts
  rw [fail_er h, bnd2_some, valid_er h, Option.bind_some, if_neg (show ¬ ¬ ((0 : Int32) = 0 ∨ (0 : Int32) = 1) from fun h => h (Or.inl rfl))]
  split
  · split <;> rfl
  · rfl
theorem acc_yes {R : RV} {k m : Int32} (h : RVEk R = 0) (h1 : RVTk R = k) (h2 : RVNx R - RVAt R ≤ m) : f_X4_accepts R k m = some (1, R) := by
  unfold f_X4_accepts
  rw [if_pos h1, if_pos h2, valid_0 h, Option.bind_some, if_neg (show ¬ ¬ ((1 : Int32) = 0 ∨ (1 : Int32) = 1) from fun h => h (Or.inr rfl))]
theorem acc_no {R : RV} {k m : Int32} (h : RVEk R = 0) (h1 : RVTk R = k → ¬ RVNx R - RVAt R ≤ m) : f_X4_accepts R k m = some (0, rf R 1 (RVAt R)) := by
  unfold f_X4_accepts
  rw [fail_0 h, bnd2_some, valid_er (show ¬ RVEk (rf R 1 (RVAt R)) = 0 from n10), Option.bind_some, if_neg (show ¬ ¬ ((0 : Int32) = 0 ∨ (0 : Int32) = 1) from fun h => h (Or.inl rfl))]
  split
  · rename_i h2
    rw [if_neg (h1 h2)]
  · rfl
theorem MID.len {T : List Nat} {p : Nat} {R : RV} {v : MV} (h : MID T p R v) : RVNx R - RVAt R = nI (tE T p - tS T p) := by
  rw [h.2.2.2.2.2.2.1, h.2.2.2.2.2.2.2.1]
  exact nI_sub2 (tE_ge h.2.1)
theorem MID.b {T : List Nat} {p : Nat} {R : RV} {v : MV} (h : MID T p R v) : tE T p ≤ 600 ∧ tS T p ≤ tE T p := ⟨Nat.le_trans (tE_le h.2.1) h.1.1, tE_ge h.2.1⟩
theorem MID.mlen {T : List Nat} {p : Nat} {R : RV} {v : MV} (h : MID T p R v) (hc : tC T p ≠ 4) : MVEn v - MVSa v = nI (tE T p - tS T p) := by
  rw [h.2.2.2.2.2.2.2.2.2.2.2.2.2.1 hc, h.2.2.2.2.2.2.2.2.2.2.2.2.1]
  exact nI_sub2 (tE_ge h.2.1)
theorem five {n : Nat} (h : n ≤ 4) : n = 0 ∨ n = 1 ∨ n = 2 ∨ n = 3 ∨ n = 4 := by omega
/-- a number is read -/
theorem number_ok {T : List Nat} {p : Nat} {R : RV} {v : MV} {lo hi : Int32} (h : PR T p R v) : ∃ R' v' x y, f_X4_number R lo hi = some (x, R') ∧ f_X9_parseNumber v lo hi = some (y, v') ∧ SR R R' ∧ SV' v v' ∧ SP' v v' ∧ ((x = y ∧ lo ≤ x ∧ x ≤ hi ∧ PR T (tE T p) R' v') ∨ ∃ k o, PE k o R' v') := by
  obtain ⟨R1, e1, s1, m1⟩ := rd_ok h
  have k0 : RVEk R1 = 0 := m1.2.2.2.2.1
  have f0 : MVFa v = 0 := m1.2.2.2.2.2.2.2.2.2.2.2.1
  obtain ⟨c0, c1, c2, c3, c4⟩ := m1.2.2.2.2.2.2.2.2.1
  obtain ⟨t0, t1, t2, t3, t4, t5⟩ := m1.2.2.2.2.2.2.2.2.2.2.2.2.2
  -- not a number
  have bad : (RVTk R1 = 2 → ¬ RVNx R1 - RVAt R1 ≤ 3) → MVTk v ≠ 2 → ∃ R' v' x y, f_X4_number R lo hi = some (x, R') ∧ f_X9_parseNumber v lo hi = some (y, v') ∧ SR R R' ∧ SV' v v' ∧ SP' v v' ∧ ((x = y ∧ lo ≤ x ∧ x ≤ hi ∧ PR T (tE T p) R' v') ∨ ∃ k o, PE k o R' v') := by
    intro hn ht
    have hpe := m1.pe (k := 1) (by decide) (by decide)
    refine ⟨rf R1 1 (RVAt R1), vx v 1, -1, lo, ?_, ?_, s1.tr ⟨rfl, rfl, rfl⟩, SV'.vp, ⟨rfl, rfl⟩, Or.inr ⟨1, _, hpe⟩⟩
    · unfold f_X4_number
      rw [e1, bnd2_some, acc_no k0 hn, bnd2_some, if_pos rfl]
    · unfold f_X9_parseNumber f_X9_parseNumber_j14 f_X9_parseNumber_j50
      rw [if_neg ht, expect_0 f0, bnd2_some, within_ok, Option.bind_some, expect_er (show ¬ MVFa (vx v 1) = 0 from n10), bnd2_some, if_neg (show ¬ MVFa (vx v 1) = 0 from n10), advance_er (show ¬ MVFa (vx v 1) ≤ 0 from hpe.r2), bnd2_some]
  by_cases hc : tC T p = 2
  · obtain ⟨c2a, c2b⟩ := c2 hc
    obtain ⟨t2a, t2b⟩ := t3 hc
    by_cases hl : tE T p - tS T p ≤ 3
    · rw [if_pos hl] at t2a
      have hacc := acc_yes (m := 3) k0 c2a (by rw [m1.len]; exact nI_le (b := 3) hl (by decide))
      have hva : MVVa v = RVVa R1 := t2b.trans c2b.symm
      unfold f_X4_number f_X9_parseNumber f_X9_parseNumber_j14
      rw [e1, bnd2_some, hacc, bnd2_some, if_neg n10, if_pos t2a, expect_1, bnd2_some, within_ok, Option.bind_some, hva]
      by_cases r1 : RVVa R1 < lo
      · have hpe := m1.pe (k := 2) (by decide) (by decide)
        rw [if_pos r1, show f_X4_fail R1 2 = _ from fail_0 k0, bnd2_some, if_neg (fun h => (i32nlt.mpr h.1) r1), expect_0 f0, bnd2_some, if_neg (show ¬ MVFa (vx v 2) = 0 from hpe.r)]
        unfold f_X9_parseNumber_j50
        rw [advance_er (show ¬ MVFa (vx v 2) ≤ 0 from hpe.r2), bnd2_some]
        exact ⟨_, _, _, _, rfl, rfl, s1.tr ⟨rfl, rfl, rfl⟩, SV'.vp, ⟨rfl, rfl⟩, Or.inr ⟨2, _, hpe⟩⟩
      · rw [if_neg r1]
        by_cases r2 : RVVa R1 ≤ hi
        · rw [if_pos r2, if_pos ⟨i32nlt.mp r1, r2⟩, expect_1, bnd2_some, if_pos f0]
          unfold f_X9_parseNumber_j50
          obtain ⟨v', a1, a2, a3, a4⟩ := adv_mid m1 (by omega)
          rw [a1, bnd2_some, hva]
          exact ⟨_, _, _, _, rfl, rfl, s1, a2, a4, Or.inl ⟨rfl, i32nlt.mp r1, r2, a3⟩⟩
        · have hpe := m1.pe (k := 2) (by decide) (by decide)
          rw [if_neg r2, show f_X4_fail R1 2 = _ from fail_0 k0, bnd2_some, if_neg (fun h => r2 h.2), expect_0 f0, bnd2_some, if_neg (show ¬ MVFa (vx v 2) = 0 from hpe.r)]
          unfold f_X9_parseNumber_j50
          rw [advance_er (show ¬ MVFa (vx v 2) ≤ 0 from hpe.r2), bnd2_some]
          exact ⟨_, _, _, _, rfl, rfl, s1.tr ⟨rfl, rfl, rfl⟩, SV'.vp, ⟨rfl, rfl⟩, Or.inr ⟨2, _, hpe⟩⟩
    · rw [if_neg hl] at t2a
      refine bad (fun _ => ?_) (by rw [t2a]; decide)
      rw [m1.len]
      exact nI_ge (a := 3) (by omega) (by have := m1.b; omega)
  · refine bad (fun h2 => ?_) (fun h2 => ?_)
    · rcases five (tC_le (T := T) (p := p)) with e | e | e | e | e
      · rw [c0 e] at h2; exact absurd h2 (by decide)
      · rw [(c1 e).1] at h2
        split at h2 <;> exact absurd h2 (by decide)
      · exact absurd e hc
      · rw [c3 e] at h2; exact absurd h2 (by decide)
      · rw [c4 e] at h2; exact absurd h2 (by decide)
    · rcases five (tC_le (T := T) (p := p)) with e | e | e | e | e
      · rw [t1 e] at h2; exact absurd h2 (by decide)
      · rw [t2 e] at h2
        split at h2 <;> exact absurd h2 (by decide)
      · exact absurd e hc
      · rw [t4 e] at h2; exact absurd h2 (by decide)
      · rw [t5 e] at h2; exact absurd h2 (by decide)
theorem number_st {T : List Nat} {q : Nat} {R : RV} {v : MV} {Q : Prop} (lo hi : Int32) (h : STEP T q R v Q) : ∃ R' v' x y, f_X4_number R lo hi = some (x, R') ∧ f_X9_parseNumber v lo hi = some (y, v') ∧ SR R R' ∧ SV' v v' ∧ SP' v v' ∧ STEP T q R' v' (Q ∧ x = y ∧ lo ≤ x ∧ x ≤ hi) := by
  rcases h with ⟨hQ, p, hp, h⟩ | ⟨k, o, h⟩
  · obtain ⟨R', v', x, y, h1, h2, h3, h4, h4', h5⟩ := number_ok (lo := lo) (hi := hi) h
    refine ⟨R', v', x, y, h1, h2, h3, h4, h4', ?_⟩
    rcases h5 with ⟨a, b, c, d⟩ | h5
    · exact Or.inl ⟨⟨hQ, a, b, c⟩, _, Nat.le_trans hp (Nat.le_trans (tS_ge h.2.1) (tE_ge h.2.1)), d⟩
    · exact Or.inr h5
  · refine ⟨R, v, -1, lo, ?_, ?_, SR.rfl', SV'.rfl', ⟨rfl, rfl⟩, Or.inr ⟨k, o, h⟩⟩
    · unfold f_X4_number
      rw [readToken_er h.c, bnd2_some, acc_er h.c, bnd2_some, if_pos rfl]
    · unfold f_X9_parseNumber f_X9_parseNumber_j14 f_X9_parseNumber_j50
      rw [expect_er h.r, bnd2_some, expect_er h.r, bnd2_some, within_ok, Option.bind_some, expect_er h.r, bnd2_some, if_neg h.r, advance_er h.r2, bnd2_some]
      split <;> rfl
/-- a semicolon -/
theorem semi_st {T : List Nat} {q : Nat} {R : RV} {v : MV} {Q : Prop} (h : STEP T q R v Q) : ∃ R' v', f_X4_semicolon R = some ((), R') ∧ f_X9_parseSemicolon v = some ((), v') ∧ SR R R' ∧ SV' v v' ∧ STEP T q R' v' Q := by
  rcases h with ⟨hQ, p, hp, h⟩ | ⟨k, o, h⟩
  · obtain ⟨R1, e1, s1, m1⟩ := rd_ok h
    have k0 : RVEk R1 = 0 := m1.2.2.2.2.1
    have f0 : MVFa v = 0 := m1.2.2.2.2.2.2.2.2.2.2.2.1
    obtain ⟨c0, c1, c2, c3, c4⟩ := m1.2.2.2.2.2.2.2.2.1
    obtain ⟨t0, t1, t2, t3, t4, t5⟩ := m1.2.2.2.2.2.2.2.2.2.2.2.2.2
    by_cases hc : tC T p = 3
    · obtain ⟨v', a1, a2, a3, -⟩ := adv_mid m1 (by omega)
      have ee : tE T p = tS T p + 1 := by unfold tE; rw [hc]; rfl
      refine ⟨R1, v', ?_, ?_, s1, a2, Or.inl ⟨hQ, _, Nat.le_trans hp (Nat.le_trans (tS_ge h.2.1) (tE_ge h.2.1)), a3⟩⟩
      · unfold f_X4_semicolon
        rw [e1, bnd2_some, acc_yes k0 (c3 hc) (by rw [m1.len, ee, Nat.add_sub_cancel_left]; decide), bnd2_some]
      · unfold f_X9_parseSemicolon
        rw [if_pos (t4 hc), expect_1, bnd2_some, a1, bnd2_some]
    · have hpe := m1.pe (k := 1) (by decide) (by decide)
      have g1 : RVTk R1 ≠ 3 := fun h2 => by
        rcases five (tC_le (T := T) (p := p)) with e | e | e | e | e
        · rw [c0 e] at h2; exact absurd h2 (by decide)
        · rw [(c1 e).1] at h2
          split at h2 <;> exact absurd h2 (by decide)
        · rw [(c2 e).1] at h2; exact absurd h2 (by decide)
        · exact absurd e hc
        · rw [c4 e] at h2; exact absurd h2 (by decide)
      have g2 : MVTk v ≠ 3 := fun h2 => by
        rcases five (tC_le (T := T) (p := p)) with e | e | e | e | e
        · rw [t1 e] at h2; exact absurd h2 (by decide)
        · rw [t2 e] at h2
          split at h2 <;> exact absurd h2 (by decide)
        · rw [(t3 e).1] at h2
          split at h2 <;> exact absurd h2 (by decide)
        · exact absurd e hc
        · rw [t5 e] at h2; exact absurd h2 (by decide)
      refine ⟨rf R1 1 (RVAt R1), vx v 1, ?_, ?_, s1.tr ⟨rfl, rfl, rfl⟩, SV'.vp, Or.inr ⟨1, _, hpe⟩⟩
      · unfold f_X4_semicolon
        rw [e1, bnd2_some, acc_no k0 (fun h => absurd h g1), bnd2_some]
      · unfold f_X9_parseSemicolon
        rw [if_neg g2, expect_0 f0, bnd2_some, advance_er (show ¬ MVFa (vx v 1) ≤ 0 from hpe.r2), bnd2_some]
  · refine ⟨R, v, ?_, ?_, SR.rfl', SV'.rfl', Or.inr ⟨k, o, h⟩⟩
    · unfold f_X4_semicolon
      rw [readToken_er h.c, bnd2_some, acc_er h.c, bnd2_some]
    · unfold f_X9_parseSemicolon
      rw [expect_er h.r, bnd2_some, expect_er h.r, bnd2_some, advance_er h.r2, bnd2_some]
      split <;> rfl
/-! names -/
theorem spell_loop {T : List Nat} {v : MV} {s len : Nat} (hB : TXr T (MVBf v)) (hl : s + len ≤ T.length) (h6 : T.length ≤ 600) (hlen : len ≤ 6) (hL : ∀ k, k < len → ∃ c, T[s + k]? = some c ∧ c < 256 ∧ isL c = true) : ∀ (m n k : Nat) (sp : Nat → Int32) (en tk va fa fo : Int32), len - k = m → m < n → k ≤ len → (∀ j c, j < k → T[s + j]? = some c → sp j = nI c) →
    ∃ sp', f_X9_spellName_h58 n (nI k) (vp v sp (nI len) (nI s) en tk va fa fo) = some ((), vp v sp' (nI len) (nI s) en tk va fa fo) ∧ ∀ j c, j < len → T[s + j]? = some c → sp' j = nI c := by
  intro m
  induction m with
  | zero =>
    intro n k sp en tk va fa fo hm hn hk hp
    obtain ⟨n, rfl⟩ : ∃ m, n = m + 1 := ⟨n - 1, by omega⟩
    have e : k = len := by omega
    subst e
    rw [f_X9_spellName_h58, show MVSl (vp v sp (nI k) (nI s) en tk va fa fo) = nI k from rfl, if_pos (nI_le (Nat.le_refl _) (by omega))]
    exact ⟨sp, rfl, hp⟩
  | succ m ih =>
    intro n k sp en tk va fa fo hm hn hk hp
    obtain ⟨n, rfl⟩ : ∃ m, n = m + 1 := ⟨n - 1, by omega⟩
    have hk2 : k < len := by omega
    obtain ⟨c, h1, h2, h3⟩ := hL k hk2
    rw [f_X9_spellName_h58, show MVSl (vp v sp (nI len) (nI s) en tk va fa fo) = nI len from rfl, if_neg (nI_ge hk2 (by omega)), show MVSa (vp v sp (nI len) (nI s) en tk va fa fo) = nI s from rfl, nI_add, if_neg (nI_in (N := 600) (by omega) (by decide)), if_neg (nI_in (N := 6) (by omega) (by decide)), nI_clamp (n := k) (by omega), nI_clamp (n := s + k) (by omega), show MVBf (vp v sp (nI len) (nI s) en tk va fa fo) (s + k) = nI c from (hB _ c h1).trans (sB_L c h2 h3), nI_1]
    obtain ⟨sp', e1, e2⟩ := ih n (k + 1) (upd sp k (nI c)) en tk va fa fo (by omega) (by omega) (by omega) (fun j d hj hd => by
      by_cases e : j = k
      · subst e
        rw [h1] at hd
        cases hd
        exact upd_eq
      · rw [upd_ne e]
        exact hp j d (by omega) hd)
    exact ⟨sp', e1, e2⟩
theorem spell_ok {T : List Nat} {p : Nat} {R : RV} {v : MV} (m1 : MID T p R v) (hc : tC T p = 1) (hl : tE T p - tS T p ≤ 6) : ∃ v', f_X9_spellName v = some ((), v') ∧ SV' v v' ∧ MID T p R v' ∧ SPL (ltr T (tS T p) (tE T p - tS T p)) v' ∧ MVFa v' = 0 := by
  have f0 : MVFa v = 0 := m1.2.2.2.2.2.2.2.2.2.2.2.1
  have hb := m1.b
  have hT := m1.1
  have h2 := m1.2.1
  have hs : MVSa v = nI (tS T p) := m1.2.2.2.2.2.2.2.2.2.2.2.2.1
  obtain ⟨t0, t1, t2, t3, t4, t5⟩ := m1.2.2.2.2.2.2.2.2.2.2.2.2.2
  have ht := t2 hc
  rw [if_pos (by omega)] at ht
  have hlen := m1.mlen (by omega)
  obtain ⟨sp', e1, e2⟩ := spell_loop (T := T) (v := v) (s := tS T p) (len := tE T p - tS T p) m1.2.2.2.2.2.2.2.2.2.2.1 (by have := tE_le h2; omega) hT.1 hl (fun k hk => by
    obtain ⟨c, a1, a2⟩ := ru_in (P := isL) (tS_le h2) (show tS T p ≤ tS T p + k by omega) (by rw [← tE_1 hc]; omega)
    exact ⟨c, a1, hT.2 _ c a1, a2⟩) (tE T p - tS T p - 0) FU 0 (MVSp v) (MVEn v) (MVTk v) (MVVa v) (MVFa v) (MVFo v) rfl (by have : FU = 5000 := rfl; omega) (Nat.zero_le _) (fun j c hj => absurd hj (Nat.not_lt_zero _))
  refine ⟨vp v sp' (nI (tE T p - tS T p)) (nI (tS T p)) (MVEn v) (MVTk v) (MVVa v) (MVFa v) (MVFo v), ?_, SV'.vp, ?_, ⟨?_, fun j c hj => ?_⟩, f0⟩
  · unfold f_X9_spellName f_X9_spellName_j28
    rw [if_pos ht, hlen, if_neg (show ¬ (6 : Int32) < nI (tE T p - tS T p) from nI_nlt (b := tE T p - tS T p) (a := 6) hl (by decide)), expect_1, bnd2_some, if_pos f0, hlen]
    rw [← hs] at e1 ⊢
    exact e1
  · obtain ⟨a1, a2, a3, a4, a5, a6, a7, a8, a9, b1, b2, b3, b4, b5⟩ := m1
    exact ⟨a1, a2, a3, a4, a5, a6, a7, a8, a9, b1, b2, b3, rfl, b5⟩
  · show nI (tE T p - tS T p) = _
    rw [ltr_len (by have := tE_le h2; omega)]
  · have hj2 : j < tE T p - tS T p := by
      have := (List.getElem?_eq_some_iff.mp hj).1
      rwa [ltr_len (by have := tE_le h2; omega)] at this
    rw [ltr_at hj2] at hj
    exact e2 j c hj2 hj
theorem spell_nil {v : MV} : f_X9_spellName_h58 FU 0 (MV_sSl v 0) = some ((), MV_sSl v 0) := by
  rw [show FU = 4999 + 1 from rfl, f_X9_spellName_h58, show MVSl (MV_sSl v 0) = 0 from rfl, if_pos (by decide)]
theorem SV'.sl {v w : MV} (h : SV' v w) : SV' v (MV_sSl w 0) := ⟨h.1, h.2.1, h.2.2.1, h.2.2.2⟩
theorem PE.sl {k o : Nat} {R : RV} {v : MV} (h : PE k o R v) : PE k o R (MV_sSl v 0) := h
theorem spell_er {k o : Nat} {R : RV} {v : MV} (h : PE k o R v) : f_X9_spellName v = some ((), MV_sSl v 0) := by
  unfold f_X9_spellName f_X9_spellName_j27 f_X9_spellName_j28
  rw [expect_er h.r, bnd2_some, expect_er h.r, bnd2_some, if_neg h.r, spell_nil]
  split
  · split <;> rfl
  · rfl
/-- no name stands here -/
theorem spell_bad {T : List Nat} {p : Nat} {R : RV} {v : MV} (m1 : MID T p R v) (hb : ¬ (tC T p = 1 ∧ tE T p - tS T p ≤ 6)) : f_X4_accepts R 1 6 = some (0, rf R 1 (RVAt R)) ∧ f_X9_spellName v = some ((), MV_sSl (vx v 1) 0) ∧ PE 1 (tS T p) (rf R 1 (RVAt R)) (MV_sSl (vx v 1) 0) := by
  have k0 : RVEk R = 0 := m1.2.2.2.2.1
  have f0 : MVFa v = 0 := m1.2.2.2.2.2.2.2.2.2.2.2.1
  have hbb := m1.b
  obtain ⟨c0, c1, c2, c3, c4⟩ := m1.2.2.2.2.2.2.2.2.1
  obtain ⟨t0, t1, t2, t3, t4, t5⟩ := m1.2.2.2.2.2.2.2.2.2.2.2.2.2
  have hpe := m1.pe (k := 1) (by decide) (by decide)
  refine ⟨acc_no k0 (fun h1 => ?_), ?_, hpe.sl⟩
  · rw [m1.len]
    by_cases hc : tC T p = 1
    · exact nI_ge (a := 6) (by omega) (by omega)
    · exfalso
      rcases five (tC_le (T := T) (p := p)) with e | e | e | e | e
      · rw [c0 e] at h1; exact absurd h1 (by decide)
      · exact absurd e hc
      · rw [(c2 e).1] at h1; exact absurd h1 (by decide)
      · rw [c3 e] at h1; exact absurd h1 (by decide)
      · rw [c4 e] at h1; exact absurd h1 (by decide)
  · have fin : f_X9_spellName_j27 v = some ((), MV_sSl (vx v 1) 0) := by
      unfold f_X9_spellName_j27 f_X9_spellName_j28
      rw [expect_0 f0, bnd2_some, if_neg (show ¬ MVFa (vx v 1) = 0 from n10), spell_nil]
    unfold f_X9_spellName
    by_cases hk : MVTk v = 1
    · have hc : tC T p = 1 := by
        rcases five (tC_le (T := T) (p := p)) with e | e | e | e | e
        · rw [t1 e] at hk; exact absurd hk (by decide)
        · exact e
        · rw [(t3 e).1] at hk
          split at hk <;> exact absurd hk (by decide)
        · rw [t4 e] at hk; exact absurd hk (by decide)
        · rw [t5 e] at hk; exact absurd hk (by decide)
      rw [if_pos hk, m1.mlen (by omega), if_pos (show (6 : Int32) < nI (tE T p - tS T p) from nI_lt (a := 6) (by omega) (by omega))]
      exact fin
    · rw [if_neg hk]
      exact fin
theorem word_L {T : List Nat} {p : Nat} {R : RV} {v : MV} (m1 : MID T p R v) (hc : tC T p = 1) (hl : tE T p - tS T p ≤ 6) : LTR 6 (ltr T (tS T p) (tE T p - tS T p)) ∧ RVTk R = 1 ∧ RVWd R = pkW (ltr T (tS T p) (tE T p - tS T p)) ∧ f_X4_accepts R 1 6 = some (1, R) := by
  obtain ⟨a1, a2⟩ := word_ltr m1.2.1 hc (Nat.le_refl _)
  obtain ⟨c1a, c1b⟩ := m1.2.2.2.2.2.2.2.2.1.2.1 hc
  rw [if_pos (by omega)] at c1a
  rw [show min (tE T p - tS T p) 8 = tE T p - tS T p by omega, pw_eq m1.2.1 hc _ (by omega) (Nat.le_refl _)] at c1b
  exact ⟨⟨by rw [a1]; exact hl, a2⟩, c1a, c1b, acc_yes m1.2.2.2.2.1 c1a (by rw [m1.len]; exact nI_le (b := 6) hl (by decide))⟩
/-- the names of a setup, in the reference's row -/
def NMq (st : Nat → Int32) (f : Nat → List Nat) (n : Nat) : Prop := st 0 = nI n ∧ n ≤ 6 ∧ ∀ q, q < n → LTR 6 (f q) ∧ NMa st (10 + 11 * q) (f q)
def NMo (st : Nat → Int32) (f : Nat → List Nat) (n : Nat) : Prop := st 1 = nI n ∧ n ≤ 8 ∧ ∀ q, q < n → LTR 6 (f q) ∧ NMa st (80 + 7 * q) (f q)
theorem nI_max0 {i : Nat} (h : i < 2 ^ 31) : (if (0 : Int32) < nI i then nI i else 0) = nI i := by
  by_cases c : i = 0
  · subst c; rfl
  · rw [if_pos (show (0 : Int32) < nI i from nI_lt (a := 0) (by omega) h)]
/-- a known queue, that isn't the one before -/
theorem knownQ_st {T : List Nat} {q n : Nat} {R : RV} {v : MV} {Q : Prop} {f : Nat → List Nat} {N : NV} {nt : Int32} (hN : NMc f n N) (hq : NMq (MVSt v) f n) (h : STEP T q R v Q) (hnt : Q → nt = -1 ∨ ∃ i, nt = nI i ∧ i < n) :
    ∃ R1 R' v' x y, f_X4_knownName (R, N) = some (x, (R1, N)) ∧ (nt = -1 → R1 = R') ∧ (if x = nt then f_X4_fail R1 3 else some ((), R1)) = some ((), R') ∧ f_X9_parseKnownQueue v nt = some (y, v') ∧ SR R R' ∧ SV' v v' ∧ STEP T q R' v' (Q ∧ x = y ∧ ¬ x = nt ∧ ∃ i, x = nI i ∧ i < n) := by
  rcases h with ⟨hQ, p, hp, h⟩ | ⟨k, o, h⟩
  · obtain ⟨R1, e1, s1, m1⟩ := rd_ok h
    have k0 : RVEk R1 = 0 := m1.2.2.2.2.1
    unfold f_X4_knownName f_X9_parseKnownQueue
    rw [show f_X4_readToken (P_RV_NVA (R, N)) = _ from e1, bnd2_some]
    by_cases hb : tC T p = 1 ∧ tE T p - tS T p ≤ 6
    · obtain ⟨w1, w2, w3, w4⟩ := word_L m1 hb.1 hb.2
      obtain ⟨v1, g1, g2, g3, g4, g5⟩ := spell_ok m1 hb.1 hb.2
      have hst : MVSt v1 = MVSt v := g2.2.1
      rw [w4, bnd2_some, if_neg n10, g1, bnd2_some, if_pos g5, w3]
      obtain ⟨r, r1, r2⟩ := find_ok hN (by have := hq.2.1; omega) (fun i hi => (hq.2.2 i hi).1.le (by decide)) (w1.le (by decide))
      obtain ⟨r', q1, q2⟩ := spelledQueue_ok (v := v1) (f := f) (n := n) (by rw [hst]; exact hq.1) hq.2.1 g4 w1 (fun i hi => by rw [hst]; exact hq.2.2 i hi)
      have er : r' = r := FM_u q2 r2
      subst er
      rw [show f_X2_find (P_RV_NVB (R, N)) _ = _ from r1, Option.bind_some, q1, Option.bind_some]
      have hpe := g3.pe (k := 3) (by decide) (by decide)
      have f3 : f_X9_expect v1 0 3 = some ((), vx v1 3) := expect_0 g5
      have a3 : f_X9_advanceToken (vx v1 3) = some ((), vx v1 3) := advance_er hpe.r2
      by_cases c : r' = -1
      · rw [if_pos c, show f_X4_fail R1 3 = _ from fail_0 k0, bnd2_some]
        unfold f_X9_parseKnownQueue_j19 f_X9_parseKnownQueue_j42 f_X9_parseKnownQueue_j43
        rw [g5, if_neg (by decide), if_pos c, f3, bnd2_some, a3, bnd2_some]
        refine ⟨rf R1 3 (RVAt R1), rf R1 3 (RVAt R1), _, _, _, rfl, fun _ => rfl, ?_, rfl, s1.tr ⟨rfl, rfl, rfl⟩, g2.tr SV'.vp, Or.inr ⟨3, _, hpe⟩⟩
        split
        · exact fail_er hpe.c
        · rfl
      · rw [if_neg c]
        obtain ⟨i, ri, hi, -⟩ : ∃ i, r' = nI i ∧ i < n ∧ f i = _ ∧ ∀ j, j < i → f j ≠ _ := r2.resolve_left (fun h => c h.1)
        unfold f_X9_parseKnownQueue_j19
        rw [g5, if_neg (by decide), if_neg c]
        by_cases c2 : r' = nt
        · unfold f_X9_parseKnownQueue_j42 f_X9_parseKnownQueue_j43
          rw [if_pos c2, f3, bnd2_some, a3, bnd2_some]
          exact ⟨R1, rf R1 3 (RVAt R1), _, r', _, rfl, fun h => absurd (c2.trans h) c, by rw [if_pos c2]; exact fail_0 k0, rfl, s1.tr ⟨rfl, rfl, rfl⟩, g2.tr SV'.vp, Or.inr ⟨3, _, hpe⟩⟩
        · unfold f_X9_parseKnownQueue_j38 f_X9_parseKnownQueue_j43
          obtain ⟨v2, b1, b2, b3, -⟩ := adv_mid g3 (by omega)
          rw [if_neg c2, expect_1, bnd2_some, b1, bnd2_some]
          have hn6 := hq.2.1
          refine ⟨R1, R1, v2, r', r', rfl, fun _ => rfl, by rw [if_neg c2], ?_, s1, g2.tr b2, Or.inl ⟨⟨hQ, rfl, c2, i, ri, hi⟩, _, Nat.le_trans hp (Nat.le_trans (tS_ge h.2.1) (tE_ge h.2.1)), b3⟩⟩
          rw [ri, nI_max0 (by omega)]
    · obtain ⟨w1, w2, w3⟩ := spell_bad m1 hb
      rw [w1, bnd2_some, if_pos rfl, w2, bnd2_some, if_neg w3.r]
      unfold f_X9_parseKnownQueue_j19 f_X9_parseKnownQueue_j38 f_X9_parseKnownQueue_j43
      rw [if_pos w3.r3, expect_er w3.r, bnd2_some, advance_er w3.r2, bnd2_some]
      refine ⟨rf R1 1 (RVAt R1), rf R1 1 (RVAt R1), _, _, _, rfl, fun _ => rfl, ?_, rfl, s1.tr ⟨rfl, rfl, rfl⟩, SV'.vp.sl, Or.inr ⟨1, _, w3⟩⟩
      split
      · exact fail_er w3.c
      · rfl
  · have h2 : PE k o R (MV_sSl v 0) := h.sl
    refine ⟨R, R, MV_sSl v 0, -1, 0, ?_, fun _ => rfl, ?_, ?_, SR.rfl', SV'.rfl'.sl, Or.inr ⟨k, o, h2⟩⟩
    · unfold f_X4_knownName
      rw [show f_X4_readToken (P_RV_NVA (R, N)) = some ((), R) from readToken_er h.c, bnd2_some, acc_er h.c, bnd2_some, if_pos rfl]
      rfl
    · split
      · exact fail_er h.c
      · rfl
    · unfold f_X9_parseKnownQueue f_X9_parseKnownQueue_j19 f_X9_parseKnownQueue_j38 f_X9_parseKnownQueue_j43
      rw [spell_er h, bnd2_some, if_neg h2.r, if_pos h2.r3, expect_er h2.r, bnd2_some, advance_er h2.r2, bnd2_some]
      rfl
theorem knownQ1_st {T : List Nat} {q n : Nat} {R : RV} {v : MV} {Q : Prop} {f : Nat → List Nat} {N : NV} (hN : NMc f n N) (hq : NMq (MVSt v) f n) (h : STEP T q R v Q) :
    ∃ R' v' x y, f_X4_knownName (R, N) = some (x, (R', N)) ∧ f_X9_parseKnownQueue v (-1) = some (y, v') ∧ SR R R' ∧ SV' v v' ∧ STEP T q R' v' (Q ∧ x = y ∧ ∃ i, x = nI i ∧ i < n) := by
  obtain ⟨R1, R', v', x, y, h1, h2, -, h4, h5, h6, h7⟩ := knownQ_st (nt := -1) hN hq h (fun _ => Or.inl rfl)
  rw [h2 rfl] at h1
  refine ⟨R', v', x, y, h1, h4, h5, h6, ?_⟩
  rcases h7 with ⟨⟨a, b, -, c⟩, d⟩ | h7
  · exact Or.inl ⟨⟨a, b, c⟩, d⟩
  · exact Or.inr h7
/-- a known owner -/
theorem knownO_st {T : List Nat} {q n : Nat} {R : RV} {v : MV} {Q : Prop} {f : Nat → List Nat} {N : NV} (hN : NMc f n N) (hq : NMo (MVSt v) f n) (h : STEP T q R v Q) :
    ∃ R' v' x y, f_X4_knownName (R, N) = some (x, (R', N)) ∧ f_X9_parseKnownOwner v = some (y, v') ∧ SR R R' ∧ SV' v v' ∧ STEP T q R' v' (Q ∧ x = y ∧ ∃ i, x = nI i ∧ i < n) := by
  rcases h with ⟨hQ, p, hp, h⟩ | ⟨k, o, h⟩
  · obtain ⟨R1, e1, s1, m1⟩ := rd_ok h
    have k0 : RVEk R1 = 0 := m1.2.2.2.2.1
    unfold f_X4_knownName f_X9_parseKnownOwner
    rw [show f_X4_readToken (P_RV_NVA (R, N)) = _ from e1, bnd2_some]
    by_cases hb : tC T p = 1 ∧ tE T p - tS T p ≤ 6
    · obtain ⟨w1, w2, w3, w4⟩ := word_L m1 hb.1 hb.2
      obtain ⟨v1, g1, g2, g3, g4, g5⟩ := spell_ok m1 hb.1 hb.2
      have hst : MVSt v1 = MVSt v := g2.2.1
      rw [w4, bnd2_some, if_neg n10, g1, bnd2_some, if_pos g5, w3]
      obtain ⟨r, r1, r2⟩ := find_ok hN (by have := hq.2.1; omega) (fun i hi => (hq.2.2 i hi).1.le (by decide)) (w1.le (by decide))
      obtain ⟨r', q1, q2⟩ := spelledOwner_ok (v := v1) (f := f) (n := n) (by rw [hst]; exact hq.1) hq.2.1 g4 w1 (fun i hi => by rw [hst]; exact hq.2.2 i hi)
      have er : r' = r := FM_u q2 r2
      subst er
      rw [show f_X2_find (P_RV_NVB (R, N)) _ = _ from r1, Option.bind_some, q1, Option.bind_some]
      unfold f_X9_parseKnownOwner_j19 f_X9_parseKnownOwner_j31
      by_cases c : r' = -1
      · have hpe := g3.pe (k := 3) (by decide) (by decide)
        rw [if_pos c, show f_X4_fail R1 3 = _ from fail_0 k0, bnd2_some, if_pos c, show f_X9_expect v1 0 3 = _ from expect_0 g5, bnd2_some, show f_X9_advanceToken (vx v1 3) = _ from advance_er hpe.r2, bnd2_some]
        exact ⟨rf R1 3 (RVAt R1), _, _, _, rfl, rfl, s1.tr ⟨rfl, rfl, rfl⟩, g2.tr SV'.vp, Or.inr ⟨3, _, hpe⟩⟩
      · rw [if_neg c, if_neg c]
        obtain ⟨i, ri, hi, -⟩ : ∃ i, r' = nI i ∧ i < n ∧ f i = _ ∧ ∀ j, j < i → f j ≠ _ := r2.resolve_left (fun h => c h.1)
        obtain ⟨v2, b1, b2, b3, -⟩ := adv_mid g3 (by omega)
        rw [expect_1, bnd2_some, b1, bnd2_some]
        have hn6 := hq.2.1
        refine ⟨R1, v2, r', r', rfl, ?_, s1, g2.tr b2, Or.inl ⟨⟨hQ, rfl, i, ri, hi⟩, _, Nat.le_trans hp (Nat.le_trans (tS_ge h.2.1) (tE_ge h.2.1)), b3⟩⟩
        rw [ri, nI_max0 (by omega)]
    · obtain ⟨w1, w2, w3⟩ := spell_bad m1 hb
      rw [w1, bnd2_some, if_pos rfl, w2, bnd2_some, if_neg w3.r]
      unfold f_X9_parseKnownOwner_j19 f_X9_parseKnownOwner_j31
      rw [if_neg (by decide), expect_er w3.r, bnd2_some, advance_er w3.r2, bnd2_some]
      exact ⟨rf R1 1 (RVAt R1), _, _, _, rfl, rfl, s1.tr ⟨rfl, rfl, rfl⟩, SV'.vp.sl, Or.inr ⟨1, _, w3⟩⟩
  · have h2 : PE k o R (MV_sSl v 0) := h.sl
    refine ⟨R, MV_sSl v 0, -1, 0, ?_, ?_, SR.rfl', SV'.rfl'.sl, Or.inr ⟨k, o, h2⟩⟩
    · unfold f_X4_knownName
      rw [show f_X4_readToken (P_RV_NVA (R, N)) = some ((), R) from readToken_er h.c, bnd2_some, acc_er h.c, bnd2_some, if_pos rfl]
      rfl
    · unfold f_X9_parseKnownOwner f_X9_parseKnownOwner_j19 f_X9_parseKnownOwner_j31
      rw [spell_er h, bnd2_some, if_neg h2.r, if_neg (by decide), expect_er h2.r, bnd2_some, advance_er h2.r2, bnd2_some]
      rfl
/-- a new name: the class reads it, the reference spells it -/
theorem newName_st {T : List Nat} {q n : Nat} {R : RV} {v : MV} {Q : Prop} {f : Nat → List Nat} {N : NV} (hN : NMc f n N) (hn : n ≤ 8) (hf : ∀ i, i < n → LTR 6 (f i)) (h : STEP T q R v Q) :
    ∃ R' v' w, f_X4_newName (R, N) = some (w, (R', N)) ∧ f_X9_spellName v = some ((), v') ∧ SR R R' ∧ SV' v v' ∧
      ((∃ p l, Q ∧ q ≤ p ∧ LTR 6 l ∧ SPL l v' ∧ MVFa v' = 0 ∧ ((FM f l n (-1) ∧ w = pkW l ∧ MID T p R' v' ∧ tC T p = 1) ∨ (∃ i, FM f l n (nI i) ∧ i < n ∧ ∃ o, PE 3 o R' (vx v' 3)))) ∨ ∃ k o, PE k o R' v') := by
  rcases h with ⟨hQ, p, hp, h⟩ | ⟨k, o, h⟩
  · obtain ⟨R1, e1, s1, m1⟩ := rd_ok h
    have k0 : RVEk R1 = 0 := m1.2.2.2.2.1
    unfold f_X4_newName
    rw [show f_X4_readToken (P_RV_NVA (R, N)) = _ from e1, bnd2_some]
    by_cases hb : tC T p = 1 ∧ tE T p - tS T p ≤ 6
    · obtain ⟨w1, w2, w3, w4⟩ := word_L m1 hb.1 hb.2
      obtain ⟨v1, g1, g2, g3, g4, g5⟩ := spell_ok m1 hb.1 hb.2
      rw [w4, bnd2_some, if_neg n10, w3]
      obtain ⟨r, r1, r2⟩ := find_ok hN hn (fun i hi => (hf i hi).le (by decide)) (w1.le (by decide))
      rw [show f_X2_find (P_RV_NVB (R, N)) _ = _ from r1, Option.bind_some]
      by_cases c : r = -1
      · rw [if_pos c]
        subst c
        exact ⟨R1, v1, _, rfl, g1, s1, g2, Or.inl ⟨p, _, hQ, hp, w1, g4, g5, Or.inl ⟨r2, rfl, g3, hb.1⟩⟩⟩
      · rw [if_neg c, show f_X4_fail R1 3 = _ from fail_0 k0, bnd2_some]
        obtain ⟨i, ri, hi, h3⟩ : ∃ i, r = nI i ∧ i < n ∧ f i = _ ∧ ∀ j, j < i → f j ≠ _ := r2.resolve_left (fun h => c h.1)
        exact ⟨rf R1 3 (RVAt R1), v1, _, rfl, g1, s1.tr ⟨rfl, rfl, rfl⟩, g2, Or.inl ⟨p, _, hQ, hp, w1, g4, g5, Or.inr ⟨i, by rw [ri] at r2; exact r2, hi, _, g3.pe (k := 3) (by decide) (by decide)⟩⟩⟩
    · obtain ⟨w1, w2, w3⟩ := spell_bad m1 hb
      rw [w1, bnd2_some, if_pos rfl]
      exact ⟨rf R1 1 (RVAt R1), _, _, rfl, w2, s1.tr ⟨rfl, rfl, rfl⟩, SV'.vp.sl, Or.inr ⟨1, _, w3⟩⟩
  · refine ⟨R, MV_sSl v 0, RVWd R, ?_, spell_er h, SR.rfl', SV'.rfl'.sl, Or.inr ⟨k, o, h.sl⟩⟩
    unfold f_X4_newName
    rw [show f_X4_readToken (P_RV_NVA (R, N)) = some ((), R) from readToken_er h.c, bnd2_some, acc_er h.c, bnd2_some, if_pos rfl]
    rfl
/-! the first word of a statement -/
def isW (T : List Nat) (p i : Nat) : Int32 := if tC T p = 1 ∧ tE T p - tS T p ≤ 8 ∧ ltr T (tS T p) (tE T p - tS T p) = Wd i then 1 else 0
theorem isWord_c {T : List Nat} {p i : Nat} {R : RV} {v : MV} (m1 : MID T p R v) (h : i < 14) (h3 : 3 ≤ i) : f_X4_isWord R i = some (isW T p i) := by
  obtain ⟨c0, c1, c2, c3, c4⟩ := m1.2.2.2.2.2.2.2.2.1
  unfold f_X4_isWord isW
  rw [packed_ok i h h3, Option.bind_some]
  by_cases hc : tC T p = 1
  · obtain ⟨c1a, c1b⟩ := c1 hc
    by_cases hl : tE T p - tS T p ≤ 8
    · rw [if_pos hl] at c1a
      rw [show min (tE T p - tS T p) 8 = tE T p - tS T p by omega, pw_eq m1.2.1 hc _ hl (Nat.le_refl _)] at c1b
      obtain ⟨a1, a2⟩ := word_ltr m1.2.1 hc (Nat.le_refl _)
      have hL : LTR 8 (ltr T (tS T p) (tE T p - tS T p)) := ⟨by rw [a1]; exact hl, a2⟩
      rw [if_pos c1a, c1b]
      by_cases c : ltr T (tS T p) (tE T p - tS T p) = Wd i
      · rw [if_pos (cmp_0.mpr (by rw [c])), if_pos ⟨hc, hl, c⟩]
      · rw [if_neg (fun h2 => c (pkW_inj hL (Wd_L h h3) (cmp_0.mp h2))), if_neg (fun h2 => c h2.2.2)]
    · rw [if_neg hl] at c1a
      rw [c1a, if_neg (by decide), if_neg (fun h2 => hl h2.2.1)]
  · have hk : ¬ RVTk R = 1 := fun h2 => by
      rcases five (tC_le (T := T) (p := p)) with e | e | e | e | e
      · rw [c0 e] at h2; exact absurd h2 (by decide)
      · exact absurd e hc
      · rw [(c2 e).1] at h2; exact absurd h2 (by decide)
      · rw [c3 e] at h2; exact absurd h2 (by decide)
      · rw [c4 e] at h2; exact absurd h2 (by decide)
    rw [if_neg hk, if_neg (fun h2 => hc h2.1)]
theorem isWord_r {T : List Nat} {p i : Nat} {v : MV} (hT : TXok T) (hp : p ≤ T.length) (r1 : REF T p v) (h : i < 14) (h3 : 3 ≤ i) : f_X9_isWord v (i + 24) = some (isW T p i) := by
  obtain ⟨b1, b2, b3, b4, t0, t1, t2, t3, t4, t5⟩ := r1
  obtain ⟨w1, w2, w3, -⟩ := Wd_24 i h h3
  have hge := tE_ge hp
  have hle := tE_le hp
  have h600 := hT.1
  unfold f_X9_isWord isW
  rw [b3, if_neg (by decide)]
  by_cases hk : MVTk v = 1
  · have hcl : tC T p = 1 ∧ tE T p - tS T p ≤ 8 := by
      rcases five (tC_le (T := T) (p := p)) with e | e | e | e | e
      · rw [t1 e] at hk; exact absurd hk (by decide)
      · refine ⟨e, ?_⟩
        have := t2 e
        rw [hk] at this
        by_cases c : tE T p - tS T p ≤ 8
        · exact c
        · rw [if_neg c] at this; exact absurd this (by decide)
      · rw [(t3 e).1] at hk
        split at hk <;> exact absurd hk (by decide)
      · rw [t4 e] at hk; exact absurd hk (by decide)
      · rw [t5 e] at hk; exact absurd hk (by decide)
    obtain ⟨hc, hl⟩ := hcl
    have hlen : MVEn v - MVSa v = nI (tE T p - tS T p) := by rw [t0 (by omega), b4]; exact nI_sub2 hge
    obtain ⟨a1, a2⟩ := word_ltr hp hc (Nat.le_refl _)
    rw [if_pos hk, hlen, w2]
    by_cases cl : tE T p - tS T p = (Wd i).length
    · rw [if_pos (congrArg nI cl)]
      have main : ∀ (m n k : Nat), (Wd i).length - k = m → m < n → k ≤ (Wd i).length → (∀ j, j < k → (ltr T (tS T p) (tE T p - tS T p))[j]? = (Wd i)[j]?) → f_X9_isWord_h35 (i + 24) n (nI k) v = some (if tC T p = 1 ∧ tE T p - tS T p ≤ 8 ∧ ltr T (tS T p) (tE T p - tS T p) = Wd i then 1 else 0) := by
        intro m
        induction m with
        | zero =>
          intro n k hm hn hk2 hpre
          obtain ⟨n, rfl⟩ : ∃ m, n = m + 1 := ⟨n - 1, by omega⟩
          have e : ltr T (tS T p) (tE T p - tS T p) = Wd i := List.ext_getElem? (fun j => by
            by_cases hj : j < k
            · exact hpre j hj
            · rw [List.getElem?_eq_none (by omega), List.getElem?_eq_none (by omega)])
          rw [f_X9_isWord_h35, w2, if_pos (nI_le (by omega) (by omega)), if_pos ⟨hc, hl, e⟩]
        | succ m ih =>
          intro n k hm hn hk2 hpre
          obtain ⟨n, rfl⟩ : ∃ m, n = m + 1 := ⟨n - 1, by omega⟩
          have hk3 : k < (Wd i).length := by omega
          have e1 := List.getElem?_eq_getElem hk3
          have e2 := List.getElem?_eq_getElem (show tS T p + k < T.length by omega)
          have e3 := ltr_at (T := T) (s := tS T p) (n := tE T p - tS T p) (k := k) (by omega)
          rw [e2] at e3
          have hb := a2 _ (List.mem_of_getElem? e3)
          have hw := (Wd_L h h3).2 _ (List.mem_of_getElem? e1)
          have hm2 : MVBf v (tS T p + k) = nI (T[tS T p + k]'(by omega)) := (b2 _ _ e2).trans (sB_L _ (by omega) (by unfold isL; rw [Bool.and_eq_true]; exact ⟨Nat.ble_eq_true_of_le hb.1, Nat.ble_eq_true_of_le hb.2⟩))
          rw [f_X9_isWord_h35, w2, if_neg (nI_ge hk3 (by omega)), b4, nI_add, if_neg (nI_in (N := 600) (by omega) (by decide)), if_neg (nI_in hk3 (by omega)), nI_clamp (n := tS T p + k) (by omega), nI_clamp (n := k) (by omega), hm2, schar_W i h h3 k hk3, show (Wd i).getD k 0 = (Wd i)[k] by simp [List.getD, e1], nI_1]
          by_cases c2 : T[tS T p + k]'(by omega) = (Wd i)[k]
          · rw [if_pos (congrArg nI c2)]
            refine ih n (k + 1) (by omega) (by omega) (by omega) (fun j hj => ?_)
            by_cases ej : j = k
            · rw [ej, e3, e1, c2]
            · exact hpre j (by omega)
          · rw [if_neg (fun h => c2 ((nI_eq (by omega) (by omega)).mp h)), if_neg (fun h => c2 (by
              have h9 := h.2.2
              have h8 := congrArg (fun l => l[k]?) h9
              rw [e3, e1] at h8
              exact Option.some.inj h8))]
      exact main ((Wd i).length - 0) FU 0 rfl (by have : FU = 5000 := rfl; omega) (Nat.zero_le _) (fun j hj => absurd hj (Nat.not_lt_zero _))
    · rw [if_neg (fun h => cl ((nI_eq (by omega) (by omega)).mp h)), if_neg (fun h => cl (by rw [← h.2.2, a1]))]
  · rw [if_neg hk, if_neg (fun h2 => hk (by have := t2 h2.1; rwa [if_pos h2.2.1] at this))]
/-- the first token of a statement -/
theorem starts_ok {T : List Nat} {p : Nat} {R : RV} {v : MV} (h : PR T p R v) : ∃ R1, SR R R1 ∧ MID T p R1 v ∧
    ((f_X4_startsStatement R = some (1, R1) ∧ tC T p = 1 ∧ tE T p - tS T p ≤ 8 ∧ MVTk v = 1) ∨ (f_X4_startsStatement R = some (0, R1) ∧ MVTk v = 0) ∨ (f_X4_startsStatement R = some (0, rf R1 1 (RVAt R1)) ∧ MVTk v ≠ 0 ∧ ¬ (tC T p = 1 ∧ tE T p - tS T p ≤ 8))) := by
  obtain ⟨R1, e1, s1, m1⟩ := rd_ok h
  have k0 : RVEk R1 = 0 := m1.2.2.2.2.1
  obtain ⟨c0, c1, c2, c3, c4⟩ := m1.2.2.2.2.2.2.2.2.1
  obtain ⟨t0, t1, t2, t3, t4, t5⟩ := m1.2.2.2.2.2.2.2.2.2.2.2.2.2
  refine ⟨R1, s1, m1, ?_⟩
  have bad : ¬ RVTk R1 = 1 → ¬ RVTk R1 = 0 → f_X4_startsStatement R = some (0, rf R1 1 (RVAt R1)) := by
    intro h1 h0
    unfold f_X4_startsStatement
    rw [e1, bnd2_some, if_neg h1, if_neg h0, fail_0 k0, bnd2_some, valid_er (show ¬ RVEk (rf R1 1 (RVAt R1)) = 0 from n10), Option.bind_some, if_pos rfl]
  rcases five (tC_le (T := T) (p := p)) with e | e | e | e | e
  · refine Or.inr (Or.inl ⟨?_, t1 e⟩)
    unfold f_X4_startsStatement
    rw [e1, bnd2_some, c0 e, if_neg (by decide), if_pos rfl, valid_0 k0, Option.bind_some, if_neg n10, if_neg (by decide)]
  · by_cases hl : tE T p - tS T p ≤ 8
    · refine Or.inl ⟨?_, e, hl, by rw [t2 e, if_pos hl]⟩
      have hk := (c1 e).1
      rw [if_pos hl] at hk
      unfold f_X4_startsStatement
      rw [e1, bnd2_some, hk, if_pos rfl, valid_0 k0, Option.bind_some, if_neg n10, if_pos rfl]
    · have hk := (c1 e).1
      rw [if_neg hl] at hk
      refine Or.inr (Or.inr ⟨bad (by rw [hk]; decide) (by rw [hk]; decide), by rw [t2 e, if_neg hl]; decide, fun h => hl h.2⟩)
  · refine Or.inr (Or.inr ⟨bad (by rw [(c2 e).1]; decide) (by rw [(c2 e).1]; decide), ?_, fun h => by omega⟩)
    rw [(t3 e).1]
    split <;> decide
  · refine Or.inr (Or.inr ⟨bad (by rw [c3 e]; decide) (by rw [c3 e]; decide), by rw [t4 e]; decide, fun h => by omega⟩)
  · refine Or.inr (Or.inr ⟨bad (by rw [c4 e]; decide) (by rw [c4 e]; decide), by rw [t5 e]; decide, fun h => by omega⟩)
theorem starts_er {k o : Nat} {R : RV} {v : MV} (h : PE k o R v) : f_X4_startsStatement R = some (0, R) := by
  unfold f_X4_startsStatement
  rw [readToken_er h.c, bnd2_some, valid_er h.c, Option.bind_some, if_pos rfl, fail_er h.c, bnd2_some, valid_er h.c, Option.bind_some, if_pos rfl]
  split
  · rfl
  · split <;> rfl
