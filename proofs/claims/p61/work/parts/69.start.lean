/-! ===== 69: the class at the start ===== -/
def R3o : Option (Unit × RV) := bnd2 (f_X4_appendText rv0 0) fun _ R1 => bnd2 (f_X4_appendText R1 1) fun _ R2 => f_X4_appendText R2 2
def chkR : Bool := match R3o with
  | some (_, R) => (RVLn R == 157) && (List.range 157).all fun n => RVTx R n == nI (T0.getD n 0)
  | none => false
theorem chkR_ok : chkR = true := by decide +kernel
theorem R3_ok : ∃ R1 R2 R3, f_X4_appendText rv0 0 = some ((), R1) ∧ f_X4_appendText R1 1 = some ((), R2) ∧ f_X4_appendText R2 2 = some ((), R3) ∧ RVLn R3 = nI T0.length ∧ TXc T0 (RVTx R3) := by
  have h := chkR_ok
  unfold chkR at h
  cases e : R3o with
  | none => rw [e] at h; cases h
  | some p =>
    obtain ⟨u, R3⟩ := p
    rw [e] at h
    simp only [Bool.and_eq_true, beq_iff_eq, List.all_eq_true, List.mem_range] at h
    obtain ⟨h1, h2⟩ := h
    unfold R3o at e
    obtain ⟨r1, R1, e1, e⟩ := bnd2_inv e
    obtain ⟨r2, R2, e2, e⟩ := bnd2_inv e
    refine ⟨R1, R2, R3, e1, e2, e, by rw [T0_len]; exact h1, fun j c hj => ?_⟩
    have hl : j < 157 := by
      have := (List.getElem?_eq_some_iff.mp hj).1
      rw [T0_len] at this
      exact this
    rw [h2 j hl, List.getD_eq_getElem?_getD, hj]
    rfl
theorem cls_start : ∃ R1 R2 R3 R4 C1 S1 D1 Y1 w, f_X4_appendText rv0 0 = some ((), R1) ∧ f_X4_appendText R1 1 = some ((), R2) ∧ f_X4_appendText R2 2 = some ((), R3) ∧ f_X8_readSetup (0, R3, sv0, uv0) = some (1, (0, R4, C1, D1)) ∧ f_X8_adoptDraft (0, yv0, sv0, C1, uv0, D1) = some ((), (0, Y1, S1, C1, D1, uv0)) ∧ RVLn R4 = 0 ∧ ALL' 0 R4 ov0 Y1 S1 C1 sv0 D1 w := by
  obtain ⟨R1, R2, R3, a1, a2, a3, a4, a5⟩ := R3_ok
  obtain ⟨R4, C1, D1, Y1, S1, w, c1, c2, c3⟩ := start_c (O := ov0) (Y := yv0) (S := sv0) (C := sv0) (K := sv0) (U := uv0) (D := uv0) a4 a5 (fun i _ => ⟨0, rfl, by decide⟩) rfl rfl
  exact ⟨R1, R2, R3, R4, C1, S1, D1, Y1, w, a1, a2, a3, c1, c2, c3⟩
