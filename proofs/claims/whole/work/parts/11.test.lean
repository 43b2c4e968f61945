/-! ===== 11.test: by program (wip/tools/dc.py) ===== -/
def f_X0_rankOf (v : HV) (a : Int32) : Option (Int32) :=
  if a < 0 then
    some 0
  else
    if 40 ≤ a then
      some 0
    else
      if oob a 40 then none else
      some ((HVRk v) (Int32.toNatClampNeg a))
set_option maxHeartbeats 400000 in
set_option maxRecDepth 20000 in
theorem c_X0_rankOf (v : HV) (a : Int32) (r : Int32) (h : f_X0_rankOf v a = some r) : Sem z_X0_rankOf 0 0 0 [.ref 0, .int a] (WH v) (PST (.inl (some (.int r))) (WH v)) := by
  refine Sem.of zo_X0_rankOf (by decide +kernel) (Nat.le_of_ble_eq_true rfl) fun κ X hE hR hN => ?_
  unfold f_X0_rankOf at h
  refine AW.eq (pc' := 0) (ls' := [some (.ref 0), some (.int a)]) (st' := []) (AH' := [.inr (0, [.ref 1, .ref 2, .ref 3, .ref 4, .ref 5, .int (HVCm v), .int (HVSw v), .ref 6]), .inl (0, 40, .inl (HVPr v)), .inl (0, 40, .inl (HVLf v)), .inl (0, 40, .inl (HVRt v)), .inl (0, 40, .inl (HVUp v)), .inl (0, 40, .inl (HVRk v)), .inl (0, 40, .inl (HVPa v))]) ?_ rfl rfl rfl rfl
  refine go 1 X (pc2 := 1) (st2 := [.int a]) rfl ?_
  refine r_if_lt X 19 rfl rfl (fun c1 => ?_) (fun c1 => ?_)
  · rw [if_pos c1] at h
    refine go 1 X (pc2 := 20) (st2 := [.int 0]) rfl ?_
    cases h
    exact r_iret X rfl rfl ⟨rfl, rfl⟩ (by decide) (by decide)
  · rw [if_neg c1] at h
    refine go 2 X (pc2 := 7) (st2 := [.int 40, .int a]) rfl ?_
    refine r_icmp_ge X 19 rfl rfl (fun c2 => ?_) (fun c2 => ?_)
    · rw [if_pos c2] at h
      refine go 1 X (pc2 := 20) (st2 := [.int 0]) rfl ?_
      cases h
      exact r_iret X rfl rfl ⟨rfl, rfl⟩ (by decide) (by decide)
    · rw [if_neg c2] at h
      refine go 3 X (pc2 := 15) (st2 := [.int a, .ref 5]) rfl ?_
      by_cases b3 : oob a 40
      · rw [if_pos b3] at h; cases h
      rw [if_neg b3] at h
      refine r_iald X rfl rfl b3 ?_
      refine go 1 X (pc2 := 20) (st2 := [.int ((HVRk v) (Int32.toNatClampNeg a))]) rfl ?_
      cases h
      exact r_iret X rfl rfl ⟨rfl, rfl⟩ (by decide) (by decide)
def f_X0_settle (v : HV) (a : Int32) : Option (Unit × HV) :=
  if oob a 40 then none else
  (f_X0_rankOf v ((HVLf v) (Int32.toNatClampNeg a))).bind fun r3 =>
  if oob a 40 then none else
  (f_X0_rankOf v ((HVRt v) (Int32.toNatClampNeg a))).bind fun r7 =>
  if r7 ≤ r3 then
    if oob a 40 then none else
    (f_X0_rankOf v ((HVRt v) (Int32.toNatClampNeg a))).bind fun r12 =>
    if oob a 40 then none else
    some ((), ((HVPr v), (HVLf v), (HVRt v), (HVUp v), (upd (HVRk v) (Int32.toNatClampNeg a) (1 + r12)), (HVCm v), (HVSw v), (HVPa v)))
  else
    if oob a 40 then none else
    if oob a 40 then none else
    if oob a 40 then none else
    if oob a 40 then none else
    if oob a 40 then none else
    (f_X0_rankOf ((HVPr v), (upd (HVLf v) (Int32.toNatClampNeg a) ((HVRt v) (Int32.toNatClampNeg a))), (upd (HVRt v) (Int32.toNatClampNeg a) ((HVLf v) (Int32.toNatClampNeg a))), (HVUp v), (HVRk v), (HVCm v), ((HVSw v) + 1), (HVPa v)) ((upd (HVRt v) (Int32.toNatClampNeg a) ((HVLf v) (Int32.toNatClampNeg a))) (Int32.toNatClampNeg a))).bind fun r21 =>
    if oob a 40 then none else
    some ((), ((HVPr v), (upd (HVLf v) (Int32.toNatClampNeg a) ((HVRt v) (Int32.toNatClampNeg a))), (upd (HVRt v) (Int32.toNatClampNeg a) ((HVLf v) (Int32.toNatClampNeg a))), (HVUp v), (upd (HVRk v) (Int32.toNatClampNeg a) (1 + r21)), (HVCm v), ((HVSw v) + 1), (HVPa v)))
set_option maxHeartbeats 400000 in
set_option maxRecDepth 20000 in
theorem t_0 (v : HV) (a : Int32) (r : Unit) (w : HV) (h : f_X0_settle v a = some (r, w)) : Sem z_X0_settle 1 0 0 [.ref 0, .int a] (WH v) (PST (.inl none) (WH w)) := by
  refine Sem.of zo_X0_settle (by decide +kernel) (Nat.le_of_ble_eq_true rfl) fun κ X hE hR hN => ?_
  unfold f_X0_settle at h
  refine AW.eq (pc' := 0) (ls' := [some (.ref 0), some (.int a), none]) (st' := []) (AH' := [.inr (0, [.ref 1, .ref 2, .ref 3, .ref 4, .ref 5, .int (HVCm v), .int (HVSw v), .ref 6]), .inl (0, 40, .inl (HVPr v)), .inl (0, 40, .inl (HVLf v)), .inl (0, 40, .inl (HVRt v)), .inl (0, 40, .inl (HVUp v)), .inl (0, 40, .inl (HVRk v)), .inl (0, 40, .inl (HVPa v))]) ?_ rfl rfl rfl rfl
  refine go 4 X (pc2 := 6) (st2 := [.int a, .ref 2, .ref 0]) rfl ?_
  by_cases b1 : oob a 40
  · rw [if_pos b1] at h; cases h
  rw [if_neg b1] at h
  refine r_iald X rfl rfl b1 ?_
  rcases hq2 : f_X0_rankOf v ((HVLf v) (Int32.toNatClampNeg a)) with _ | r3
  · rw [hq2] at h; cases h
  rw [hq2, Option.bind_some] at h
  refine q_callV X [0, 1, 2, 3, 4, 5, 6] [] (o := 0) (ci := 0) (n := 1) (rest := []) (r9 := (RX0, TX0, 8)) (AH2 := [.inr (0, [.ref 1, .ref 2, .ref 3, .ref 4, .ref 5, .int (HVCm v), .int (HVSw v), .ref 6]), .inl (0, 40, .inl (HVPr v)), .inl (0, 40, .inl (HVLf v)), .inl (0, 40, .inl (HVRt v)), .inl (0, 40, .inl (HVUp v)), .inl (0, 40, .inl (HVRk v)), .inl (0, 40, .inl (HVPa v))]) (st2 := [.int r3]) (c_X0_rankOf _ _ _ hq2) sorry sorry sorry sorry sorry sorry sorry sorry rfl (fit_of hR (by decide) (by decide) (by decide) (by decide)) (by decide) (by decide) rfl sorry rfl ?_
  sorry
