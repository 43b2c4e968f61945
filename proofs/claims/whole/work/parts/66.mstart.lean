/-! ===== 66: what the reference's constructor makes ===== -/
/-- the reference's constructor behind its fields -/
def ini9 (v0 : MV) : Option (Unit × MV) :=
  bnd2 (f_X9_addQueue (MV_sSl (MV_sSp v0 (upd (upd (upd (upd (MVSp v0) 0 102) 1 97) 2 115) 3 116)) 4) 20) fun _ v1 =>
  bnd2 (f_X9_addQueue (MV_sSl (MV_sSp v1 (upd (upd (upd (upd (MVSp v1) 0 115) 1 108) 2 111) 3 119)) 4) 5) fun _ v2 =>
  bnd2 (f_X9_addOwner (MV_sSl (MV_sSp v2 (upd (upd (upd (MVSp v2) 0 97) 1 110) 2 110)) 3)) fun _ v3 =>
  bnd2 (f_X9_addOwner (MV_sSl (MV_sSp v3 (upd (upd (upd (MVSp v3) 0 98) 1 111) 2 98)) 3)) fun _ v4 =>
  bnd2 (f_X9_addJob v4 0 0 50 10) fun _ v5 =>
  bnd2 (f_X9_addJob v5 0 1 30 4) fun _ v6 =>
  bnd2 (f_X9_addJob v6 0 0 70 25) fun _ v7 =>
  bnd2 (f_X9_addJob v7 0 1 40 8) fun _ v8 =>
  bnd2 (f_X9_addJob v8 1 0 20 3) fun _ v9 =>
  bnd2 (f_X9_addJob v9 1 1 60 6) fun _ v10 =>
  f_X9_clearCounters v10
def chk9 : Bool := match F1, ini9 mv00 with
  | some (r, w1), some (_, w) => (r == 6) && ((List.range 500).all fun n => MVSt w n == MVSt w1 n) && (MVPc w == 0) && (MVIs w == 0) && (MVLn w == 0) && (MVEc w == 0) && (MVEo w == -1) && (MVOl w == 0)
  | _, _ => false
theorem chk9_ok : chk9 = true := by decide +kernel
theorem ini9_ok : ∃ w, ini9 mv00 = some ((), w) ∧ (∃ r w1, F1 = some (r, w1) ∧ ¬ r = -1 ∧ ∀ n, n < 500 → MVSt w n = MVSt w1 n) ∧ MVPc w = 0 ∧ MVIs w = 0 ∧ MVLn w = 0 ∧ MVEc w = 0 ∧ MVEo w = -1 ∧ MVOl w = 0 := by
  have h := chk9_ok
  unfold chk9 at h
  cases e1 : F1 with
  | none => rw [e1] at h; cases h
  | some p =>
    obtain ⟨r, w1⟩ := p
    rw [e1] at h
    cases e2 : ini9 mv00 with
    | none => rw [e2] at h; cases h
    | some q =>
      obtain ⟨u, w⟩ := q
      rw [e2] at h
      simp only [Bool.and_eq_true, beq_iff_eq, List.all_eq_true, List.mem_range] at h
      obtain ⟨⟨⟨⟨⟨⟨⟨h1, h2⟩, h3⟩, h4⟩, h5⟩, h6⟩, h7⟩, h8⟩ := h
      exact ⟨w, rfl, ⟨r, w1, rfl, by rw [h1]; decide, h2⟩, h3, h4, h5, h6, h7, h8⟩
