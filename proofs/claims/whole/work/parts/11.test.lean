/-! ===== 11.test: by program (wip/tools/dc.py) ===== -/
def f_X0_rankOf (v : HV) (a : Int32) : Option (Int32) :=
  if a < 0 then
    some 0
  else
    if 40 ≤ a then
      some 0
    else
      if oob a 40 then none else
      some ((HVRk v) (Int32.toNatClampNeg a))
set_option maxHeartbeats 100000 in
set_option maxRecDepth 20000 in
theorem c_X0_rankOf (v : HV) (a : Int32) (q : Int32) (h : f_X0_rankOf v a = some q) : Sem z_X0_rankOf 0 0 0 [.ref 0, .int a] (WH v) (PST (.inl (some (.int q))) (WH v)) := by
  refine Sem.of zo_X0_rankOf (by decide +kernel) (Nat.le_of_ble_eq_true rfl) fun κ X hE hR hN => ?_
  unfold f_X0_rankOf at h
  refine AW.eq (pc' := 0) (ls' := [some (.ref 0), some (.int a)]) (st' := []) (AH' := [.inr (0, [.ref 1, .ref 2, .ref 3, .ref 4, .ref 5, .int (HVCm v), .int (HVSw v), .ref 6]), .inl (0, 40, .inl (HVPr v)), .inl (0, 40, .inl (HVLf v)), .inl (0, 40, .inl (HVRt v)), .inl (0, 40, .inl (HVUp v)), .inl (0, 40, .inl (HVRk v)), .inl (0, 40, .inl (HVPa v))]) ?_ rfl rfl rfl rfl
  refine go 1 X (pc2 := 1) (st2 := [.int a]) rfl ?_
  refine r_if_lt X 19 rfl rfl (fun c1 => ?_) (fun c1 => ?_)
  · rw [if_pos c1] at h
    refine go 1 X (pc2 := 20) (st2 := [.int 0]) rfl ?_
    cases h
    exact r_iret X rfl rfl ⟨rfl, rfl⟩ (by decide) (by decide)
  · rw [if_neg c1] at h
    refine go 2 X (pc2 := 7) (st2 := [.int 40, .int a]) rfl ?_
    refine r_icmp_ge X 19 rfl rfl (fun c2 => ?_) (fun c2 => ?_)
    · rw [if_pos c2] at h
      refine go 1 X (pc2 := 20) (st2 := [.int 0]) rfl ?_
      cases h
      exact r_iret X rfl rfl ⟨rfl, rfl⟩ (by decide) (by decide)
    · rw [if_neg c2] at h
      refine go 3 X (pc2 := 15) (st2 := [.int a, .ref 5]) rfl ?_
      by_cases b3 : oob a 40
      · rw [if_pos b3] at h; cases h
      rw [if_neg b3] at h
      refine r_iald X rfl rfl b3 ?_
      refine go 1 X (pc2 := 20) (st2 := [.int ((HVRk v) (Int32.toNatClampNeg a))]) rfl ?_
      cases h
      exact r_iret X rfl rfl ⟨rfl, rfl⟩ (by decide) (by decide)
def f_X0_settle (v : HV) (a : Int32) : Option (Unit × HV) :=
  if oob a 40 then none else
  (f_X0_rankOf v ((HVLf v) (Int32.toNatClampNeg a))).bind fun q2 =>
  if oob a 40 then none else
  (f_X0_rankOf v ((HVRt v) (Int32.toNatClampNeg a))).bind fun q4 =>
  if q4 ≤ q2 then
    if oob a 40 then none else
    (f_X0_rankOf v ((HVRt v) (Int32.toNatClampNeg a))).bind fun q7 =>
    if oob a 40 then none else
    some ((), ((HVPr v), (HVLf v), (HVRt v), (HVUp v), (upd (HVRk v) (Int32.toNatClampNeg a) (1 + q7)), (HVCm v), (HVSw v), (HVPa v)))
  else
    if oob a 40 then none else
    if oob a 40 then none else
    if oob a 40 then none else
    if oob a 40 then none else
    if oob a 40 then none else
    (f_X0_rankOf ((HVPr v), (upd (HVLf v) (Int32.toNatClampNeg a) ((HVRt v) (Int32.toNatClampNeg a))), (upd (HVRt v) (Int32.toNatClampNeg a) ((HVLf v) (Int32.toNatClampNeg a))), (HVUp v), (HVRk v), (HVCm v), ((HVSw v) + 1), (HVPa v)) ((upd (HVRt v) (Int32.toNatClampNeg a) ((HVLf v) (Int32.toNatClampNeg a))) (Int32.toNatClampNeg a))).bind fun q14 =>
    if oob a 40 then none else
    some ((), ((HVPr v), (upd (HVLf v) (Int32.toNatClampNeg a) ((HVRt v) (Int32.toNatClampNeg a))), (upd (HVRt v) (Int32.toNatClampNeg a) ((HVLf v) (Int32.toNatClampNeg a))), (HVUp v), (upd (HVRk v) (Int32.toNatClampNeg a) (1 + q14)), (HVCm v), ((HVSw v) + 1), (HVPa v)))
set_option maxHeartbeats 100000 in
set_option maxRecDepth 20000 in
theorem c_X0_settle (v : HV) (a : Int32) (q : Unit × HV) (h : f_X0_settle v a = some q) : Sem z_X0_settle 1 0 0 [.ref 0, .int a] (WH v) (PST (.inl none) (WH q.2)) := by
  refine Sem.of zo_X0_settle (by decide +kernel) (Nat.le_of_ble_eq_true rfl) fun κ X hE hR hN => ?_
  unfold f_X0_settle at h
  refine AW.eq (pc' := 0) (ls' := [some (.ref 0), some (.int a), none]) (st' := []) (AH' := [.inr (0, [.ref 1, .ref 2, .ref 3, .ref 4, .ref 5, .int (HVCm v), .int (HVSw v), .ref 6]), .inl (0, 40, .inl (HVPr v)), .inl (0, 40, .inl (HVLf v)), .inl (0, 40, .inl (HVRt v)), .inl (0, 40, .inl (HVUp v)), .inl (0, 40, .inl (HVRk v)), .inl (0, 40, .inl (HVPa v))]) ?_ rfl rfl rfl rfl
  refine go 4 X (pc2 := 6) (st2 := [.int a, .ref 2, .ref 0]) rfl ?_
  by_cases b1 : oob a 40
  · rw [if_pos b1] at h; cases h
  rw [if_neg b1] at h
  refine r_iald X rfl rfl b1 ?_
  rcases hq2 : f_X0_rankOf v ((HVLf v) (Int32.toNatClampNeg a)) with _ | q2
  · rw [hq2] at h; cases h
  rw [hq2, Option.bind_some] at h
  refine r_callV X [0, 1, 2, 3, 4, 5, 6] (c_X0_rankOf _ _ _ hq2) ⟨rfl, rfl⟩ rfl k_X0_rankOf l_X0_64 rfl rfl rfl rfl rfl (fit_of hR (by decide) (by decide) (by decide) (by decide)) (by decide) (by decide) (fun _ _ e => by rw [e.2]; rfl) (fun _ _ e => ?_) (fun _ _ e => by have e1 := e.1; cases e1)
  obtain ⟨e1, rfl⟩ := e
  cases e1
  refine AW.eq (pc' := 10) (ls' := [some (.ref 0), some (.int a), none]) (st' := [.int q2]) (AH' := [.inr (0, [.ref 1, .ref 2, .ref 3, .ref 4, .ref 5, .int (HVCm v), .int (HVSw v), .ref 6]), .inl (0, 40, .inl (HVPr v)), .inl (0, 40, .inl (HVLf v)), .inl (0, 40, .inl (HVRt v)), .inl (0, 40, .inl (HVUp v)), .inl (0, 40, .inl (HVRk v)), .inl (0, 40, .inl (HVPa v))]) ?_ rfl rfl rfl rfl
  refine go 4 X (pc2 := 16) (st2 := [.int a, .ref 3, .ref 0, .int q2]) rfl ?_
  by_cases b3 : oob a 40
  · rw [if_pos b3] at h; cases h
  rw [if_neg b3] at h
  refine r_iald X rfl rfl b3 ?_
  rcases hq4 : f_X0_rankOf v ((HVRt v) (Int32.toNatClampNeg a)) with _ | q4
  · rw [hq4] at h; cases h
  rw [hq4, Option.bind_some] at h
  refine r_callV X [0, 1, 2, 3, 4, 5, 6] (c_X0_rankOf _ _ _ hq4) ⟨rfl, rfl⟩ rfl k_X0_rankOf l_X0_64 rfl rfl rfl rfl rfl (fit_of hR (by decide) (by decide) (by decide) (by decide)) (by decide) (by decide) (fun _ _ e => by rw [e.2]; rfl) (fun _ _ e => ?_) (fun _ _ e => by have e1 := e.1; cases e1)
  obtain ⟨e1, rfl⟩ := e
  cases e1
  refine AW.eq (pc' := 20) (ls' := [some (.ref 0), some (.int a), none]) (st' := [.int q4, .int q2]) (AH' := [.inr (0, [.ref 1, .ref 2, .ref 3, .ref 4, .ref 5, .int (HVCm v), .int (HVSw v), .ref 6]), .inl (0, 40, .inl (HVPr v)), .inl (0, 40, .inl (HVLf v)), .inl (0, 40, .inl (HVRt v)), .inl (0, 40, .inl (HVUp v)), .inl (0, 40, .inl (HVRk v)), .inl (0, 40, .inl (HVPa v))]) ?_ rfl rfl rfl rfl
  refine r_icmp_ge X 59 rfl rfl (fun c5 => ?_) (fun c5 => ?_)
  · rw [if_pos c5] at h
    refine go 8 X (pc2 := 71) (st2 := [.int a, .ref 3, .ref 0, .int 1, .int a, .ref 5]) rfl ?_
    by_cases b6 : oob a 40
    · rw [if_pos b6] at h; cases h
    rw [if_neg b6] at h
    refine r_iald X rfl rfl b6 ?_
    rcases hq7 : f_X0_rankOf v ((HVRt v) (Int32.toNatClampNeg a)) with _ | q7
    · rw [hq7] at h; cases h
    rw [hq7, Option.bind_some] at h
    refine r_callV X [0, 1, 2, 3, 4, 5, 6] (c_X0_rankOf _ _ _ hq7) ⟨rfl, rfl⟩ rfl k_X0_rankOf l_X0_64 rfl rfl rfl rfl rfl (fit_of hR (by decide) (by decide) (by decide) (by decide)) (by decide) (by decide) (fun _ _ e => by rw [e.2]; rfl) (fun _ _ e => ?_) (fun _ _ e => by have e1 := e.1; cases e1)
    obtain ⟨e1, rfl⟩ := e
    cases e1
    refine AW.eq (pc' := 75) (ls' := [some (.ref 0), some (.int a), none]) (st' := [.int q7, .int 1, .int a, .ref 5]) (AH' := [.inr (0, [.ref 1, .ref 2, .ref 3, .ref 4, .ref 5, .int (HVCm v), .int (HVSw v), .ref 6]), .inl (0, 40, .inl (HVPr v)), .inl (0, 40, .inl (HVLf v)), .inl (0, 40, .inl (HVRt v)), .inl (0, 40, .inl (HVUp v)), .inl (0, 40, .inl (HVRk v)), .inl (0, 40, .inl (HVPa v))]) ?_ rfl rfl rfl rfl
    refine go 1 X (pc2 := 76) (st2 := [.int (1 + q7), .int a, .ref 5]) rfl ?_
    by_cases b8 : oob a 40
    · rw [if_pos b8] at h; cases h
    rw [if_neg b8] at h
    refine r_iast X rfl rfl b8 ?_
    cases h
    exact r_vret X rfl rfl ⟨rfl, rfl⟩ (by decide) (by decide)
  · rw [if_neg c5] at h
    refine go 3 X (pc2 := 28) (st2 := [.int a, .ref 2]) rfl ?_
    by_cases b9 : oob a 40
    · rw [if_pos b9] at h; cases h
    rw [if_neg b9] at h
    refine r_iald X rfl rfl b9 ?_
    refine go 7 X (pc2 := 40) (ls2 := [some (.ref 0), some (.int a), some (.int ((HVLf v) (Int32.toNatClampNeg a)))]) (st2 := [.int a, .ref 3, .int a, .ref 2]) rfl ?_
    by_cases b10 : oob a 40
    · rw [if_pos b10] at h; cases h
    rw [if_neg b10] at h
    refine r_iald X rfl rfl b10 ?_
    by_cases b11 : oob a 40
    · rw [if_pos b11] at h; cases h
    rw [if_neg b11] at h
    refine r_iast X rfl rfl b11 ?_
    refine go 4 X (pc2 := 48) (st2 := [.int ((HVLf v) (Int32.toNatClampNeg a)), .int a, .ref 3]) rfl ?_
    by_cases b12 : oob a 40
    · rw [if_pos b12] at h; cases h
    rw [if_neg b12] at h
    refine r_iast X rfl rfl b12 ?_
    refine go 14 X (pc2 := 71) (st2 := [.int a, .ref 3, .ref 0, .int 1, .int a, .ref 5]) (AH2 := [.inr (0, [.ref 1, .ref 2, .ref 3, .ref 4, .ref 5, .int (HVCm v), .int ((HVSw v) + 1), .ref 6]), .inl (0, 40, .inl (HVPr v)), .inl (0, 40, .inl (upd (HVLf v) (Int32.toNatClampNeg a) ((HVRt v) (Int32.toNatClampNeg a)))), .inl (0, 40, .inl (upd (HVRt v) (Int32.toNatClampNeg a) ((HVLf v) (Int32.toNatClampNeg a)))), .inl (0, 40, .inl (HVUp v)), .inl (0, 40, .inl (HVRk v)), .inl (0, 40, .inl (HVPa v))]) rfl ?_
    by_cases b13 : oob a 40
    · rw [if_pos b13] at h; cases h
    rw [if_neg b13] at h
    refine r_iald X rfl rfl b13 ?_
    rcases hq14 : f_X0_rankOf ((HVPr v), (upd (HVLf v) (Int32.toNatClampNeg a) ((HVRt v) (Int32.toNatClampNeg a))), (upd (HVRt v) (Int32.toNatClampNeg a) ((HVLf v) (Int32.toNatClampNeg a))), (HVUp v), (HVRk v), (HVCm v), ((HVSw v) + 1), (HVPa v)) ((upd (HVRt v) (Int32.toNatClampNeg a) ((HVLf v) (Int32.toNatClampNeg a))) (Int32.toNatClampNeg a)) with _ | q14
    · rw [hq14] at h; cases h
    rw [hq14, Option.bind_some] at h
    refine r_callV X [0, 1, 2, 3, 4, 5, 6] (c_X0_rankOf _ _ _ hq14) ⟨rfl, rfl⟩ rfl k_X0_rankOf l_X0_64 rfl rfl rfl rfl rfl (fit_of hR (by decide) (by decide) (by decide) (by decide)) (by decide) (by decide) (fun _ _ e => by rw [e.2]; rfl) (fun _ _ e => ?_) (fun _ _ e => by have e1 := e.1; cases e1)
    obtain ⟨e1, rfl⟩ := e
    cases e1
    refine AW.eq (pc' := 75) (ls' := [some (.ref 0), some (.int a), some (.int ((HVLf v) (Int32.toNatClampNeg a)))]) (st' := [.int q14, .int 1, .int a, .ref 5]) (AH' := [.inr (0, [.ref 1, .ref 2, .ref 3, .ref 4, .ref 5, .int (HVCm v), .int ((HVSw v) + 1), .ref 6]), .inl (0, 40, .inl (HVPr v)), .inl (0, 40, .inl (upd (HVLf v) (Int32.toNatClampNeg a) ((HVRt v) (Int32.toNatClampNeg a)))), .inl (0, 40, .inl (upd (HVRt v) (Int32.toNatClampNeg a) ((HVLf v) (Int32.toNatClampNeg a)))), .inl (0, 40, .inl (HVUp v)), .inl (0, 40, .inl (HVRk v)), .inl (0, 40, .inl (HVPa v))]) ?_ rfl rfl rfl rfl
    refine go 1 X (pc2 := 76) (st2 := [.int (1 + q14), .int a, .ref 5]) rfl ?_
    by_cases b15 : oob a 40
    · rw [if_pos b15] at h; cases h
    rw [if_neg b15] at h
    refine r_iast X rfl rfl b15 ?_
    cases h
    exact r_vret X rfl rfl ⟨rfl, rfl⟩ (by decide) (by decide)
