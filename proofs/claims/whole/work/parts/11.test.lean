/-! ===== 11.test: by program (wip/tools/dc.py) ===== -/
def f_X0_rankOf (v : HV) (a : Int32) : Option (Int32) :=
  if a < 0 then
    some 0
  else
    if 40 ≤ a then
      some 0
    else
      if oob a 40 then none else
      some ((HVRk v) (Int32.toNatClampNeg a))
set_option maxHeartbeats 400000 in
set_option maxRecDepth 20000 in
theorem c_X0_rankOf (v : HV) (a : Int32) (r : Int32) (h : f_X0_rankOf v a = some r) : Sem z_X0_rankOf 0 0 0 [.ref 0, .int a] (WH v) (PST (.inl (some (.int r))) (WH v)) := by
  refine Sem.of zo_X0_rankOf (by decide +kernel) (Nat.le_of_ble_eq_true rfl) fun κ X hE hR hN => ?_
  unfold f_X0_rankOf at h
  refine AW.eq (pc' := 0) (ls' := [some (.ref 0), some (.int a)]) (st' := []) (AH' := [.inr (0, [.ref 1, .ref 2, .ref 3, .ref 4, .ref 5, .int (HVCm v), .int (HVSw v), .ref 6]), .inl (0, 40, .inl (HVPr v)), .inl (0, 40, .inl (HVLf v)), .inl (0, 40, .inl (HVRt v)), .inl (0, 40, .inl (HVUp v)), .inl (0, 40, .inl (HVRk v)), .inl (0, 40, .inl (HVPa v))]) ?_ rfl rfl rfl rfl
  refine go_s 1 X (pc2 := 1) (st2 := [.int a]) rfl ?_
  refine r_if_lt X 19 rfl rfl (fun c1 => ?_) (fun c1 => ?_)
  · rw [if_pos c1] at h
    refine go_s 1 X (pc2 := 20) (st2 := [.int 0]) rfl ?_
    cases h
    exact r_iret X rfl rfl ⟨rfl, rfl⟩ (by decide) (by decide)
  · rw [if_neg c1] at h
    refine go_s 2 X (pc2 := 7) (st2 := [.int 40, .int a]) rfl ?_
    refine r_icmp_ge X 19 rfl rfl (fun c2 => ?_) (fun c2 => ?_)
    · rw [if_pos c2] at h
      refine go_s 1 X (pc2 := 20) (st2 := [.int 0]) rfl ?_
      cases h
      exact r_iret X rfl rfl ⟨rfl, rfl⟩ (by decide) (by decide)
    · rw [if_neg c2] at h
      refine go_s 3 X (pc2 := 15) (st2 := [.int a, .ref 5]) rfl ?_
      by_cases b3 : oob a 40
      · rw [if_pos b3] at h; cases h
      rw [if_neg b3] at h
      refine r_iald X rfl rfl b3 ?_
      refine go_s 1 X (pc2 := 20) (st2 := [.int ((HVRk v) (Int32.toNatClampNeg a))]) rfl ?_
      cases h
      exact r_iret X rfl rfl ⟨rfl, rfl⟩ (by decide) (by decide)
def f_X0_settle (v : HV) (a : Int32) : Option (Unit × HV) :=
  if oob a 40 then none else
  (f_X0_rankOf v ((HVLf v) (Int32.toNatClampNeg a))).bind fun r3 =>
  if oob a 40 then none else
  (f_X0_rankOf v ((HVRt v) (Int32.toNatClampNeg a))).bind fun r7 =>
  if r7 ≤ r3 then
    if oob a 40 then none else
    (f_X0_rankOf v ((HVRt v) (Int32.toNatClampNeg a))).bind fun r12 =>
    if oob a 40 then none else
    some ((), ((HVPr v), (HVLf v), (HVRt v), (HVUp v), (upd (HVRk v) (Int32.toNatClampNeg a) (1 + r12)), (HVCm v), (HVSw v), (HVPa v)))
  else
    if oob a 40 then none else
    if oob a 40 then none else
    if oob a 40 then none else
    if oob a 40 then none else
    if oob a 40 then none else
    (f_X0_rankOf ((HVPr v), (upd (HVLf v) (Int32.toNatClampNeg a) ((HVRt v) (Int32.toNatClampNeg a))), (upd (HVRt v) (Int32.toNatClampNeg a) ((HVLf v) (Int32.toNatClampNeg a))), (HVUp v), (HVRk v), (HVCm v), ((HVSw v) + 1), (HVPa v)) ((upd (HVRt v) (Int32.toNatClampNeg a) ((HVLf v) (Int32.toNatClampNeg a))) (Int32.toNatClampNeg a))).bind fun r21 =>
    if oob a 40 then none else
    some ((), ((HVPr v), (upd (HVLf v) (Int32.toNatClampNeg a) ((HVRt v) (Int32.toNatClampNeg a))), (upd (HVRt v) (Int32.toNatClampNeg a) ((HVLf v) (Int32.toNatClampNeg a))), (HVUp v), (upd (HVRk v) (Int32.toNatClampNeg a) (1 + r21)), (HVCm v), ((HVSw v) + 1), (HVPa v)))
set_option maxHeartbeats 400000 in
set_option maxRecDepth 20000 in
theorem c_X0_settle (v : HV) (a : Int32) (r : Unit) (w : HV) (h : f_X0_settle v a = some (r, w)) : Sem z_X0_settle 1 0 0 [.ref 0, .int a] (WH v) (PST (.inl none) (WH w)) := by
  refine Sem.of zo_X0_settle (by decide +kernel) (Nat.le_of_ble_eq_true rfl) fun κ X hE hR hN => ?_
  unfold f_X0_settle at h
  refine AW.eq (pc' := 0) (ls' := [some (.ref 0), some (.int a), none]) (st' := []) (AH' := [.inr (0, [.ref 1, .ref 2, .ref 3, .ref 4, .ref 5, .int (HVCm v), .int (HVSw v), .ref 6]), .inl (0, 40, .inl (HVPr v)), .inl (0, 40, .inl (HVLf v)), .inl (0, 40, .inl (HVRt v)), .inl (0, 40, .inl (HVUp v)), .inl (0, 40, .inl (HVRk v)), .inl (0, 40, .inl (HVPa v))]) ?_ rfl rfl rfl rfl
  refine go_s 4 X (pc2 := 6) (st2 := [.int a, .ref 2, .ref 0]) rfl ?_
  by_cases b1 : oob a 40
  · rw [if_pos b1] at h; cases h
  rw [if_neg b1] at h
  refine r_iald X rfl rfl b1 ?_
  obtain ⟨r3, hq2, h⟩ := obind_inv h
  refine q_callV X [0, 1, 2, 3, 4, 5, 6] [] (AH2 := [.inr (0, [.ref 1, .ref 2, .ref 3, .ref 4, .ref 5, .int (HVCm v), .int (HVSw v), .ref 6]), .inl (0, 40, .inl (HVPr v)), .inl (0, 40, .inl (HVLf v)), .inl (0, 40, .inl (HVRt v)), .inl (0, 40, .inl (HVUp v)), .inl (0, 40, .inl (HVRk v)), .inl (0, 40, .inl (HVPa v))]) (st2 := [.int r3]) (c_X0_rankOf _ _ _ hq2) ⟨rfl, rfl⟩ rfl k_X0_rankOf l_X0_64 rfl rfl rfl rfl rfl (fit_of hR (by decide) (by decide) (by decide) (by decide)) (Nat.le_of_ble_eq_true rfl) (by decide) rfl rfl rfl ?_
  refine go_s 4 X (pc2 := 16) (st2 := [.int a, .ref 3, .ref 0, .int r3]) rfl ?_
  by_cases b5 : oob a 40
  · rw [if_pos b5] at h; cases h
  rw [if_neg b5] at h
  refine r_iald X rfl rfl b5 ?_
  obtain ⟨r7, hq6, h⟩ := obind_inv h
  refine q_callV X [0, 1, 2, 3, 4, 5, 6] [] (AH2 := [.inr (0, [.ref 1, .ref 2, .ref 3, .ref 4, .ref 5, .int (HVCm v), .int (HVSw v), .ref 6]), .inl (0, 40, .inl (HVPr v)), .inl (0, 40, .inl (HVLf v)), .inl (0, 40, .inl (HVRt v)), .inl (0, 40, .inl (HVUp v)), .inl (0, 40, .inl (HVRk v)), .inl (0, 40, .inl (HVPa v))]) (st2 := [.int r7, .int r3]) (c_X0_rankOf _ _ _ hq6) ⟨rfl, rfl⟩ rfl k_X0_rankOf l_X0_64 rfl rfl rfl rfl rfl (fit_of hR (by decide) (by decide) (by decide) (by decide)) (Nat.le_of_ble_eq_true rfl) (by decide) rfl rfl rfl ?_
  refine r_icmp_ge X 59 rfl rfl (fun c9 => ?_) (fun c9 => ?_)
  · rw [if_pos c9] at h
    refine go_s 8 X (pc2 := 71) (st2 := [.int a, .ref 3, .ref 0, .int 1, .int a, .ref 5]) rfl ?_
    by_cases b10 : oob a 40
    · rw [if_pos b10] at h; cases h
    rw [if_neg b10] at h
    refine r_iald X rfl rfl b10 ?_
    obtain ⟨r12, hq11, h⟩ := obind_inv h
    refine q_callV X [0, 1, 2, 3, 4, 5, 6] [] (AH2 := [.inr (0, [.ref 1, .ref 2, .ref 3, .ref 4, .ref 5, .int (HVCm v), .int (HVSw v), .ref 6]), .inl (0, 40, .inl (HVPr v)), .inl (0, 40, .inl (HVLf v)), .inl (0, 40, .inl (HVRt v)), .inl (0, 40, .inl (HVUp v)), .inl (0, 40, .inl (HVRk v)), .inl (0, 40, .inl (HVPa v))]) (st2 := [.int r12, .int 1, .int a, .ref 5]) (c_X0_rankOf _ _ _ hq11) ⟨rfl, rfl⟩ rfl k_X0_rankOf l_X0_64 rfl rfl rfl rfl rfl (fit_of hR (by decide) (by decide) (by decide) (by decide)) (Nat.le_of_ble_eq_true rfl) (by decide) rfl rfl rfl ?_
    refine go_s 1 X (pc2 := 76) (st2 := [.int (1 + r12), .int a, .ref 5]) rfl ?_
    by_cases b14 : oob a 40
    · rw [if_pos b14] at h; cases h
    rw [if_neg b14] at h
    refine r_iast X rfl rfl b14 ?_
    cases h
    exact r_vret X rfl rfl ⟨rfl, rfl⟩ (by decide) (by decide)
  · rw [if_neg c9] at h
    refine go_s 3 X (pc2 := 28) (st2 := [.int a, .ref 2]) rfl ?_
    by_cases b15 : oob a 40
    · rw [if_pos b15] at h; cases h
    rw [if_neg b15] at h
    refine r_iald X rfl rfl b15 ?_
    refine go_l 7 X (pc2 := 40) (ls2 := [some (.ref 0), some (.int a), some (.int ((HVLf v) (Int32.toNatClampNeg a)))]) (st2 := [.int a, .ref 3, .int a, .ref 2]) rfl ?_
    by_cases b16 : oob a 40
    · rw [if_pos b16] at h; cases h
    rw [if_neg b16] at h
    refine r_iald X rfl rfl b16 ?_
    by_cases b17 : oob a 40
    · rw [if_pos b17] at h; cases h
    rw [if_neg b17] at h
    refine r_iast X rfl rfl b17 ?_
    refine go_s 4 X (pc2 := 48) (st2 := [.int ((HVLf v) (Int32.toNatClampNeg a)), .int a, .ref 3]) rfl ?_
    by_cases b18 : oob a 40
    · rw [if_pos b18] at h; cases h
    rw [if_neg b18] at h
    refine r_iast X rfl rfl b18 ?_
    refine go 14 X (pc2 := 71) (ls2 := [some (.ref 0), some (.int a), some (.int ((HVLf v) (Int32.toNatClampNeg a)))]) (st2 := [.int a, .ref 3, .ref 0, .int 1, .int a, .ref 5]) (AH2 := [.inr (0, [.ref 1, .ref 2, .ref 3, .ref 4, .ref 5, .int (HVCm v), .int ((HVSw v) + 1), .ref 6]), .inl (0, 40, .inl (HVPr v)), .inl (0, 40, .inl (upd (HVLf v) (Int32.toNatClampNeg a) ((HVRt v) (Int32.toNatClampNeg a)))), .inl (0, 40, .inl (upd (HVRt v) (Int32.toNatClampNeg a) ((HVLf v) (Int32.toNatClampNeg a)))), .inl (0, 40, .inl (HVUp v)), .inl (0, 40, .inl (HVRk v)), .inl (0, 40, .inl (HVPa v))]) rfl ?_
    by_cases b19 : oob a 40
    · rw [if_pos b19] at h; cases h
    rw [if_neg b19] at h
    refine r_iald X rfl rfl b19 ?_
    obtain ⟨r21, hq20, h⟩ := obind_inv h
    refine q_callV X [0, 1, 2, 3, 4, 5, 6] [] (AH2 := [.inr (0, [.ref 1, .ref 2, .ref 3, .ref 4, .ref 5, .int (HVCm v), .int ((HVSw v) + 1), .ref 6]), .inl (0, 40, .inl (HVPr v)), .inl (0, 40, .inl (upd (HVLf v) (Int32.toNatClampNeg a) ((HVRt v) (Int32.toNatClampNeg a)))), .inl (0, 40, .inl (upd (HVRt v) (Int32.toNatClampNeg a) ((HVLf v) (Int32.toNatClampNeg a)))), .inl (0, 40, .inl (HVUp v)), .inl (0, 40, .inl (HVRk v)), .inl (0, 40, .inl (HVPa v))]) (st2 := [.int r21, .int 1, .int a, .ref 5]) (c_X0_rankOf _ _ _ hq20) ⟨rfl, rfl⟩ rfl k_X0_rankOf l_X0_64 rfl rfl rfl rfl rfl (fit_of hR (by decide) (by decide) (by decide) (by decide)) (Nat.le_of_ble_eq_true rfl) (by decide) rfl rfl rfl ?_
    refine go_s 1 X (pc2 := 76) (st2 := [.int (1 + r21), .int a, .ref 5]) rfl ?_
    by_cases b23 : oob a 40
    · rw [if_pos b23] at h; cases h
    rw [if_neg b23] at h
    refine r_iast X rfl rfl b23 ?_
    cases h
    exact r_vret X rfl rfl ⟨rfl, rfl⟩ (by decide) (by decide)
def f_X0_isNode (a : Int32) : Option (Int32) :=
  if a < 0 then
    some 0
  else
    if 40 ≤ a then
      some 0
    else
      some 1
set_option maxHeartbeats 400000 in
set_option maxRecDepth 20000 in
theorem c_X0_isNode (a : Int32) (r : Int32) (h : f_X0_isNode a = some r) : Sem z_X0_isNode 0 0 0 [.int a] [] (PST (.inl (some (.int r))) []) := by
  refine Sem.of zo_X0_isNode (by decide +kernel) (Nat.le_of_ble_eq_true rfl) fun κ X hE hR hN => ?_
  unfold f_X0_isNode at h
  refine AW.eq (pc' := 0) (ls' := [some (.int a)]) (st' := []) (AH' := []) ?_ rfl rfl rfl rfl
  refine go_s 1 X (pc2 := 1) (st2 := [.int a]) rfl ?_
  refine r_if_lt X 14 rfl rfl (fun c1 => ?_) (fun c1 => ?_)
  · rw [if_pos c1] at h
    refine go_s 1 X (pc2 := 15) (st2 := [.int 0]) rfl ?_
    cases h
    exact r_zret X (ty := .boolean) rfl rfl rfl ⟨rfl, rfl⟩ (by decide) (by decide)
  · rw [if_neg c1] at h
    refine go_s 2 X (pc2 := 7) (st2 := [.int 40, .int a]) rfl ?_
    refine r_icmp_ge X 14 rfl rfl (fun c2 => ?_) (fun c2 => ?_)
    · rw [if_pos c2] at h
      refine go_s 1 X (pc2 := 15) (st2 := [.int 0]) rfl ?_
      cases h
      exact r_zret X (ty := .boolean) rfl rfl rfl ⟨rfl, rfl⟩ (by decide) (by decide)
    · rw [if_neg c2] at h
      refine go_s 2 X (pc2 := 15) (st2 := [.int 1]) rfl ?_
      cases h
      exact r_zret X (ty := .boolean) rfl rfl rfl ⟨rfl, rfl⟩ (by decide) (by decide)
def f_X0_setAbove (v : HV) (a : Int32) (b : Int32) : Option (Unit × HV) :=
  (f_X0_isNode a).bind fun r2 =>
  if r2 = 0 then
    some ((), v)
  else
    if oob a 40 then none else
    some ((), ((HVPr v), (HVLf v), (HVRt v), (upd (HVUp v) (Int32.toNatClampNeg a) b), (HVRk v), (HVCm v), (HVSw v), (HVPa v)))
set_option maxHeartbeats 400000 in
set_option maxRecDepth 20000 in
theorem c_X0_setAbove (v : HV) (a : Int32) (b : Int32) (r : Unit) (w : HV) (h : f_X0_setAbove v a b = some (r, w)) : Sem z_X0_setAbove 1 0 0 [.ref 0, .int a, .int b] (WH v) (PST (.inl none) (WH w)) := by
  refine Sem.of zo_X0_setAbove (by decide +kernel) (Nat.le_of_ble_eq_true rfl) fun κ X hE hR hN => ?_
  unfold f_X0_setAbove at h
  refine AW.eq (pc' := 0) (ls' := [some (.ref 0), some (.int a), some (.int b)]) (st' := []) (AH' := [.inr (0, [.ref 1, .ref 2, .ref 3, .ref 4, .ref 5, .int (HVCm v), .int (HVSw v), .ref 6]), .inl (0, 40, .inl (HVPr v)), .inl (0, 40, .inl (HVLf v)), .inl (0, 40, .inl (HVRt v)), .inl (0, 40, .inl (HVUp v)), .inl (0, 40, .inl (HVRk v)), .inl (0, 40, .inl (HVPa v))]) ?_ rfl rfl rfl rfl
  refine go_s 1 X (pc2 := 1) (st2 := [.int a]) rfl ?_
  obtain ⟨r2, hq1, h⟩ := obind_inv h
  refine q_callS X [] [] (AH2 := [.inr (0, [.ref 1, .ref 2, .ref 3, .ref 4, .ref 5, .int (HVCm v), .int (HVSw v), .ref 6]), .inl (0, 40, .inl (HVPr v)), .inl (0, 40, .inl (HVLf v)), .inl (0, 40, .inl (HVRt v)), .inl (0, 40, .inl (HVUp v)), .inl (0, 40, .inl (HVRk v)), .inl (0, 40, .inl (HVPa v))]) (st2 := [.int r2]) (c_X0_isNode _ _ hq1) ⟨rfl, rfl⟩ rfl k_X0_isNode l_X0_41 rfl rfl (fit_of hR (by decide) (by decide) (by decide) (by decide)) (Nat.le_of_ble_eq_true rfl) (by decide) rfl rfl rfl ?_
  refine r_if_eq X 14 rfl rfl (fun c4 => ?_) (fun c4 => ?_)
  · rw [if_pos c4] at h
    cases h
    exact r_vret X rfl rfl ⟨rfl, rfl⟩ (by decide) (by decide)
  · rw [if_neg c4] at h
    refine go_s 4 X (pc2 := 13) (st2 := [.int b, .int a, .ref 4]) rfl ?_
    by_cases b5 : oob a 40
    · rw [if_pos b5] at h; cases h
    rw [if_neg b5] at h
    refine r_iast X rfl rfl b5 ?_
    cases h
    exact r_vret X rfl rfl ⟨rfl, rfl⟩ (by decide) (by decide)
def f_X0_comesBefore (v : HV) (a : Int32) (b : Int32) (c : Int32) : Option (Int32) :=
  if oob a 40 then none else
  if ((HVPr v) (Int32.toNatClampNeg a)) < c then
    some 1
  else
    if oob a 40 then none else
    if ((HVPr v) (Int32.toNatClampNeg a)) = c then
      if b ≤ a then
        some 0
      else
        some 1
    else
      some 0
set_option maxHeartbeats 400000 in
set_option maxRecDepth 20000 in
theorem c_X0_comesBefore (v : HV) (a : Int32) (b : Int32) (c : Int32) (r : Int32) (h : f_X0_comesBefore v a b c = some r) : Sem z_X0_comesBefore 0 0 0 [.ref 0, .int a, .int b, .int c] (WH v) (PST (.inl (some (.int r))) (WH v)) := by
  refine Sem.of zo_X0_comesBefore (by decide +kernel) (Nat.le_of_ble_eq_true rfl) fun κ X hE hR hN => ?_
  unfold f_X0_comesBefore at h
  refine AW.eq (pc' := 0) (ls' := [some (.ref 0), some (.int a), some (.int b), some (.int c)]) (st' := []) (AH' := [.inr (0, [.ref 1, .ref 2, .ref 3, .ref 4, .ref 5, .int (HVCm v), .int (HVSw v), .ref 6]), .inl (0, 40, .inl (HVPr v)), .inl (0, 40, .inl (HVLf v)), .inl (0, 40, .inl (HVRt v)), .inl (0, 40, .inl (HVUp v)), .inl (0, 40, .inl (HVRk v)), .inl (0, 40, .inl (HVPa v))]) ?_ rfl rfl rfl rfl
  refine go_s 3 X (pc2 := 5) (st2 := [.int a, .ref 1]) rfl ?_
  by_cases b1 : oob a 40
  · rw [if_pos b1] at h; cases h
  rw [if_neg b1] at h
  refine r_iald X rfl rfl b1 ?_
  refine go_s 1 X (pc2 := 7) (st2 := [.int c, .int ((HVPr v) (Int32.toNatClampNeg a))]) rfl ?_
  refine r_icmp_lt X 25 rfl rfl (fun c2 => ?_) (fun c2 => ?_)
  · rw [if_pos c2] at h
    refine go_s 2 X (pc2 := 30) (st2 := [.int 1]) rfl ?_
    cases h
    exact r_zret X (ty := .boolean) rfl rfl rfl ⟨rfl, rfl⟩ (by decide) (by decide)
  · rw [if_neg c2] at h
    refine go_s 3 X (pc2 := 15) (st2 := [.int a, .ref 1]) rfl ?_
    by_cases b3 : oob a 40
    · rw [if_pos b3] at h; cases h
    rw [if_neg b3] at h
    refine r_iald X rfl rfl b3 ?_
    refine go_s 1 X (pc2 := 17) (st2 := [.int c, .int ((HVPr v) (Int32.toNatClampNeg a))]) rfl ?_
    refine r_icmp_ne X 29 rfl rfl (fun c4 => ?_) (fun c4 => ?_)
    · rw [if_neg c4] at h
      refine go_s 1 X (pc2 := 30) (st2 := [.int 0]) rfl ?_
      cases h
      exact r_zret X (ty := .boolean) rfl rfl rfl ⟨rfl, rfl⟩ (by decide) (by decide)
    · rw [if_pos c4] at h
      refine go_s 2 X (pc2 := 22) (st2 := [.int b, .int a]) rfl ?_
      refine r_icmp_ge X 29 rfl rfl (fun c5 => ?_) (fun c5 => ?_)
      · rw [if_pos c5] at h
        refine go_s 1 X (pc2 := 30) (st2 := [.int 0]) rfl ?_
        cases h
        exact r_zret X (ty := .boolean) rfl rfl rfl ⟨rfl, rfl⟩ (by decide) (by decide)
      · rw [if_neg c5] at h
        refine go_s 2 X (pc2 := 30) (st2 := [.int 1]) rfl ?_
        cases h
        exact r_zret X (ty := .boolean) rfl rfl rfl ⟨rfl, rfl⟩ (by decide) (by decide)
def f_X0_precedes (v : HV) (a : Int32) (b : Int32) : Option (Int32) :=
  (f_X0_isNode a).bind fun r2 =>
  if r2 = 0 then
    some 0
  else
    (f_X0_isNode b).bind fun r6 =>
    if r6 = 0 then
      some 0
    else
      if oob b 40 then none else
      (f_X0_comesBefore v a b ((HVPr v) (Int32.toNatClampNeg b))).bind fun r11 =>
      if ¬ (r11 = 0 ∨ r11 = 1) then none else
      some r11
set_option maxHeartbeats 400000 in
set_option maxRecDepth 20000 in
theorem c_X0_precedes (v : HV) (a : Int32) (b : Int32) (r : Int32) (h : f_X0_precedes v a b = some r) : Sem z_X0_precedes 1 0 0 [.ref 0, .int a, .int b] (WH v) (PST (.inl (some (.int r))) (WH v)) := by
  refine Sem.of zo_X0_precedes (by decide +kernel) (Nat.le_of_ble_eq_true rfl) fun κ X hE hR hN => ?_
  unfold f_X0_precedes at h
  refine AW.eq (pc' := 0) (ls' := [some (.ref 0), some (.int a), some (.int b)]) (st' := []) (AH' := [.inr (0, [.ref 1, .ref 2, .ref 3, .ref 4, .ref 5, .int (HVCm v), .int (HVSw v), .ref 6]), .inl (0, 40, .inl (HVPr v)), .inl (0, 40, .inl (HVLf v)), .inl (0, 40, .inl (HVRt v)), .inl (0, 40, .inl (HVUp v)), .inl (0, 40, .inl (HVRk v)), .inl (0, 40, .inl (HVPa v))]) ?_ rfl rfl rfl rfl
  refine go_s 1 X (pc2 := 1) (st2 := [.int a]) rfl ?_
  obtain ⟨r2, hq1, h⟩ := obind_inv h
  refine q_callS X [] [] (AH2 := [.inr (0, [.ref 1, .ref 2, .ref 3, .ref 4, .ref 5, .int (HVCm v), .int (HVSw v), .ref 6]), .inl (0, 40, .inl (HVPr v)), .inl (0, 40, .inl (HVLf v)), .inl (0, 40, .inl (HVRt v)), .inl (0, 40, .inl (HVUp v)), .inl (0, 40, .inl (HVRk v)), .inl (0, 40, .inl (HVPa v))]) (st2 := [.int r2]) (c_X0_isNode _ _ hq1) ⟨rfl, rfl⟩ rfl k_X0_isNode l_X0_41 rfl rfl (fit_of hR (by decide) (by decide) (by decide) (by decide)) (Nat.le_of_ble_eq_true rfl) (by decide) rfl rfl rfl ?_
  refine r_if_eq X 14 rfl rfl (fun c4 => ?_) (fun c4 => ?_)
  · rw [if_pos c4] at h
    refine go_s 1 X (pc2 := 15) (st2 := [.int 0]) rfl ?_
    cases h
    exact r_zret X (ty := .boolean) rfl rfl rfl ⟨rfl, rfl⟩ (by decide) (by decide)
  · rw [if_neg c4] at h
    refine go_s 1 X (pc2 := 8) (st2 := [.int b]) rfl ?_
    obtain ⟨r6, hq5, h⟩ := obind_inv h
    refine q_callS X [] [] (AH2 := [.inr (0, [.ref 1, .ref 2, .ref 3, .ref 4, .ref 5, .int (HVCm v), .int (HVSw v), .ref 6]), .inl (0, 40, .inl (HVPr v)), .inl (0, 40, .inl (HVLf v)), .inl (0, 40, .inl (HVRt v)), .inl (0, 40, .inl (HVUp v)), .inl (0, 40, .inl (HVRk v)), .inl (0, 40, .inl (HVPa v))]) (st2 := [.int r6]) (c_X0_isNode _ _ hq5) ⟨rfl, rfl⟩ rfl k_X0_isNode l_X0_41 rfl rfl (fit_of hR (by decide) (by decide) (by decide) (by decide)) (Nat.le_of_ble_eq_true rfl) (by decide) rfl rfl rfl ?_
    refine r_if_ne X 16 rfl rfl (fun c8 => ?_) (fun c8 => ?_)
    · rw [if_neg c8] at h
      refine go_s 6 X (pc2 := 24) (st2 := [.int b, .ref 1, .int b, .int a, .ref 0]) rfl ?_
      by_cases b9 : oob b 40
      · rw [if_pos b9] at h; cases h
      rw [if_neg b9] at h
      refine r_iald X rfl rfl b9 ?_
      obtain ⟨r11, hq10, h⟩ := obind_inv h
      refine q_callV X [0, 1, 2, 3, 4, 5, 6] [] (AH2 := [.inr (0, [.ref 1, .ref 2, .ref 3, .ref 4, .ref 5, .int (HVCm v), .int (HVSw v), .ref 6]), .inl (0, 40, .inl (HVPr v)), .inl (0, 40, .inl (HVLf v)), .inl (0, 40, .inl (HVRt v)), .inl (0, 40, .inl (HVUp v)), .inl (0, 40, .inl (HVRk v)), .inl (0, 40, .inl (HVPa v))]) (st2 := [.int r11]) (c_X0_comesBefore _ _ _ _ _ hq10) ⟨rfl, rfl⟩ rfl k_X0_comesBefore l_X0_45 rfl rfl rfl rfl rfl (fit_of hR (by decide) (by decide) (by decide) (by decide)) (Nat.le_of_ble_eq_true rfl) (by decide) rfl rfl rfl ?_
      by_cases b13 : ¬ (r11 = 0 ∨ r11 = 1)
      · rw [if_pos b13] at h; cases h
      rw [if_neg b13] at h
      cases h
      exact r_zret X (ty := .boolean) rfl rfl (nar_b b13) ⟨rfl, rfl⟩ (by decide) (by decide)
    · rw [if_pos c8] at h
      refine go_s 1 X (pc2 := 15) (st2 := [.int 0]) rfl ?_
      cases h
      exact r_zret X (ty := .boolean) rfl rfl rfl ⟨rfl, rfl⟩ (by decide) (by decide)
def f_X0_merge_h113 : Nat → Int32 → Int32 → Int32 → Int32 → Int32 → Int32 → Int32 → HV → Option (Int32 × HV)
  | 0, _, _, _, _, _, _, _, _ => none
  | n + 1, l1, l2, l3, l4, l5, l6, l7, v =>
    if l7 < 0 then
      bnd2 (f_X0_setAbove v l6 (-1)) fun r8 w9 =>
      some (l6, w9)
    else
      if oob l7 40 then none else
      if oob ((HVPa v) (Int32.toNatClampNeg l7)) 40 then none else
      bnd2 (f_X0_setAbove ((HVPr v), (HVLf v), (upd (HVRt v) (Int32.toNatClampNeg ((HVPa v) (Int32.toNatClampNeg l7))) l6), (HVUp v), (HVRk v), (HVCm v), (HVSw v), (HVPa v)) l6 ((HVPa v) (Int32.toNatClampNeg l7))) fun r13 w14 =>
      bnd2 (f_X0_settle w14 ((HVPa v) (Int32.toNatClampNeg l7))) fun r16 w17 =>
      f_X0_merge_h113 n l1 l2 l3 l4 l5 ((HVPa v) (Int32.toNatClampNeg l7)) (l7 + (-1)) w17
def f_X0_merge_h8 : Nat → Int32 → Int32 → Int32 → Int32 → Int32 → HV → Option (Int32 × HV)
  | 0, _, _, _, _, _, _ => none
  | n + 1, l1, l2, l3, l4, l5, v =>
    if 40 ≤ l5 then
      (f_X0_isNode l3).bind fun r3 =>
      if r3 = 0 then
        f_X0_merge_h113 FU l1 l2 l3 l4 l5 l4 (l5 - 1) v
      else
        f_X0_merge_h113 FU l1 l2 l3 l4 l5 l3 (l5 - 1) v
    else
      (f_X0_isNode l3).bind fun r19 =>
      if r19 = 0 then
        (f_X0_isNode l3).bind fun r23 =>
        if r23 = 0 then
          f_X0_merge_h113 FU l1 l2 l3 l4 l5 l4 (l5 - 1) v
        else
          f_X0_merge_h113 FU l1 l2 l3 l4 l5 l3 (l5 - 1) v
      else
        (f_X0_isNode l4).bind fun r27 =>
        if r27 = 0 then
          (f_X0_isNode l3).bind fun r31 =>
          if r31 = 0 then
            f_X0_merge_h113 FU l1 l2 l3 l4 l5 l4 (l5 - 1) v
          else
            f_X0_merge_h113 FU l1 l2 l3 l4 l5 l3 (l5 - 1) v
        else
          (f_X0_precedes ((HVPr v), (HVLf v), (HVRt v), (HVUp v), (HVRk v), ((HVCm v) + 1), (HVSw v), (HVPa v)) l3 l4).bind fun r35 =>
          if r35 = 0 then
            if oob l5 40 then none else
            if oob l4 40 then none else
            f_X0_merge_h8 n l1 l2 l3 ((HVRt v) (Int32.toNatClampNeg l4)) (l5 + 1) ((HVPr v), (HVLf v), (HVRt v), (HVUp v), (HVRk v), ((HVCm v) + 1), (HVSw v), (upd (HVPa v) (Int32.toNatClampNeg l5) l4))
          else
            if oob l5 40 then none else
            if oob l3 40 then none else
            f_X0_merge_h8 n l1 l2 ((HVRt v) (Int32.toNatClampNeg l3)) l4 (l5 + 1) ((HVPr v), (HVLf v), (HVRt v), (HVUp v), (HVRk v), ((HVCm v) + 1), (HVSw v), (upd (HVPa v) (Int32.toNatClampNeg l5) l3))
def f_X0_merge (v : HV) (a : Int32) (b : Int32) : Option (Int32 × HV) :=
  f_X0_merge_h8 FU a b a b 0 v
set_option maxHeartbeats 400000 in
set_option maxRecDepth 20000 in
theorem a_X0_merge_h113 {κ : KX} (X : CX κ z_X0_merge) (hR : κR κ = rmM 2 0 0) : ∀ (n : Nat) (l1 : Int32) (l2 : Int32) (l3 : Int32) (l4 : Int32) (l5 : Int32) (l6 : Int32) (l7 : Int32) (v : HV) (r : Int32) (w : HV) (h : f_X0_merge_h113 n l1 l2 l3 l4 l5 l6 l7 v = some (r, w)), AW κ (QM κ (PST (.inl (some (.int r))) (WH w)) 0 0) 113 [some (.ref 0), some (.int l1), some (.int l2), some (.int l3), some (.int l4), some (.int l5), some (.int l6), some (.int l7), none] [] (WH v) 0 0 := by
  intro n
  induction n with
  | zero =>
    intro l1 l2 l3 l4 l5 l6 l7 v r w h
    unfold f_X0_merge_h113 at h
    cases h
  | succ n ih =>
    intro l1 l2 l3 l4 l5 l6 l7 v r w h
    unfold f_X0_merge_h113 at h
    refine AW.eq (pc' := 113) (ls' := [some (.ref 0), some (.int l1), some (.int l2), some (.int l3), some (.int l4), some (.int l5), some (.int l6), some (.int l7), none]) (st' := []) (AH' := [.inr (0, [.ref 1, .ref 2, .ref 3, .ref 4, .ref 5, .int (HVCm v), .int (HVSw v), .ref 6]), .inl (0, 40, .inl (HVPr v)), .inl (0, 40, .inl (HVLf v)), .inl (0, 40, .inl (HVRt v)), .inl (0, 40, .inl (HVUp v)), .inl (0, 40, .inl (HVRk v)), .inl (0, 40, .inl (HVPa v))]) ?_ rfl rfl rfl rfl
    refine go_s 1 X (pc2 := 115) (st2 := [.int l7]) rfl ?_
    refine r_if_lt X 160 rfl rfl (fun c6 => ?_) (fun c6 => ?_)
    · rw [if_pos c6] at h
      refine go_s 3 X (pc2 := 164) (st2 := [.int (-1), .int l6, .ref 0]) rfl ?_
      obtain ⟨r8, w9, hq7, h⟩ := bnd2_inv h
      refine q_callV X [0, 1, 2, 3, 4, 5, 6] [] (AH2 := [.inr (0, [.ref 1, .ref 2, .ref 3, .ref 4, .ref 5, .int (HVCm w9), .int (HVSw w9), .ref 6]), .inl (0, 40, .inl (HVPr w9)), .inl (0, 40, .inl (HVLf w9)), .inl (0, 40, .inl (HVRt w9)), .inl (0, 40, .inl (HVUp w9)), .inl (0, 40, .inl (HVRk w9)), .inl (0, 40, .inl (HVPa w9))]) (st2 := []) (c_X0_setAbove _ _ _ _ _ hq7) ⟨rfl, rfl⟩ rfl k_X0_setAbove l_X0_57 rfl rfl rfl rfl rfl (fit_of hR (by decide) (by decide) (by decide) (by decide)) (Nat.le_of_ble_eq_true rfl) (by decide) rfl rfl rfl ?_
      refine go_s 1 X (pc2 := 169) (st2 := [.int l6]) rfl ?_
      cases h
      exact r_iret X rfl rfl ⟨rfl, rfl⟩ (by decide) (by decide)
    · rw [if_neg c6] at h
      refine go_s 3 X (pc2 := 124) (st2 := [.int l7, .ref 6]) rfl ?_
      by_cases b10 : oob l7 40
      · rw [if_pos b10] at h; cases h
      rw [if_neg b10] at h
      refine r_iald X rfl rfl b10 ?_
      refine go_l 5 X (pc2 := 135) (ls2 := [some (.ref 0), some (.int l1), some (.int l2), some (.int l3), some (.int l4), some (.int l5), some (.int l6), some (.int l7), some (.int ((HVPa v) (Int32.toNatClampNeg l7)))]) (st2 := [.int l6, .int ((HVPa v) (Int32.toNatClampNeg l7)), .ref 3]) rfl ?_
      by_cases b11 : oob ((HVPa v) (Int32.toNatClampNeg l7)) 40
      · rw [if_pos b11] at h; cases h
      rw [if_neg b11] at h
      refine r_iast X rfl rfl b11 ?_
      refine go_s 3 X (pc2 := 141) (st2 := [.int ((HVPa v) (Int32.toNatClampNeg l7)), .int l6, .ref 0]) rfl ?_
      obtain ⟨r13, w14, hq12, h⟩ := bnd2_inv h
      refine q_callV X [0, 1, 2, 3, 4, 5, 6] [] (AH2 := [.inr (0, [.ref 1, .ref 2, .ref 3, .ref 4, .ref 5, .int (HVCm w14), .int (HVSw w14), .ref 6]), .inl (0, 40, .inl (HVPr w14)), .inl (0, 40, .inl (HVLf w14)), .inl (0, 40, .inl (HVRt w14)), .inl (0, 40, .inl (HVUp w14)), .inl (0, 40, .inl (HVRk w14)), .inl (0, 40, .inl (HVPa w14))]) (st2 := []) (c_X0_setAbove _ _ _ _ _ hq12) ⟨rfl, rfl⟩ rfl k_X0_setAbove l_X0_57 rfl rfl rfl rfl rfl (fit_of hR (by decide) (by decide) (by decide) (by decide)) (Nat.le_of_ble_eq_true rfl) (by decide) rfl rfl rfl ?_
      refine go_s 2 X (pc2 := 147) (st2 := [.int ((HVPa v) (Int32.toNatClampNeg l7)), .ref 0]) rfl ?_
      obtain ⟨r16, w17, hq15, h⟩ := bnd2_inv h
      refine q_callV X [0, 1, 2, 3, 4, 5, 6] [] (AH2 := [.inr (0, [.ref 1, .ref 2, .ref 3, .ref 4, .ref 5, .int (HVCm w17), .int (HVSw w17), .ref 6]), .inl (0, 40, .inl (HVPr w17)), .inl (0, 40, .inl (HVLf w17)), .inl (0, 40, .inl (HVRt w17)), .inl (0, 40, .inl (HVUp w17)), .inl (0, 40, .inl (HVRk w17)), .inl (0, 40, .inl (HVPa w17))]) (st2 := []) (c_X0_settle _ _ _ _ hq15) ⟨rfl, rfl⟩ rfl k_X0_settle l_X0_61 rfl rfl rfl rfl rfl (fit_of hR (by decide) (by decide) (by decide) (by decide)) (Nat.le_of_ble_eq_true rfl) (by decide) rfl rfl rfl ?_
      refine go_l 4 X (pc2 := 113) (ls2 := [some (.ref 0), some (.int l1), some (.int l2), some (.int l3), some (.int l4), some (.int l5), some (.int ((HVPa v) (Int32.toNatClampNeg l7))), some (.int (l7 + (-1))), some (.int ((HVPa v) (Int32.toNatClampNeg l7)))]) (st2 := []) rfl ?_
      refine AW.forget (ls' := [some (.ref 0), some (.int l1), some (.int l2), some (.int l3), some (.int l4), some (.int l5), some (.int ((HVPa v) (Int32.toNatClampNeg l7))), some (.int (l7 + (-1))), none]) rfl (subL_of ⟨rfl, ⟨rfl, ⟨rfl, ⟨rfl, ⟨rfl, ⟨rfl, ⟨rfl, ⟨rfl, trivial⟩⟩⟩⟩⟩⟩⟩⟩) ?_
      exact AW.eq (ih _ _ _ _ _ _ _ _ _ _ h) rfl rfl rfl rfl
set_option maxHeartbeats 400000 in
set_option maxRecDepth 20000 in
theorem a_X0_merge_h8 {κ : KX} (X : CX κ z_X0_merge) (hR : κR κ = rmM 2 0 0) : ∀ (n : Nat) (l1 : Int32) (l2 : Int32) (l3 : Int32) (l4 : Int32) (l5 : Int32) (v : HV) (r : Int32) (w : HV) (h : f_X0_merge_h8 n l1 l2 l3 l4 l5 v = some (r, w)), AW κ (QM κ (PST (.inl (some (.int r))) (WH w)) 0 0) 8 [some (.ref 0), some (.int l1), some (.int l2), some (.int l3), some (.int l4), some (.int l5), none, none, none] [] (WH v) 0 0 := by
  intro n
  induction n with
  | zero =>
    intro l1 l2 l3 l4 l5 v r w h
    unfold f_X0_merge_h8 at h
    cases h
  | succ n ih =>
    intro l1 l2 l3 l4 l5 v r w h
    unfold f_X0_merge_h8 at h
    refine AW.eq (pc' := 8) (ls' := [some (.ref 0), some (.int l1), some (.int l2), some (.int l3), some (.int l4), some (.int l5), none, none, none]) (st' := []) (AH' := [.inr (0, [.ref 1, .ref 2, .ref 3, .ref 4, .ref 5, .int (HVCm v), .int (HVSw v), .ref 6]), .inl (0, 40, .inl (HVPr v)), .inl (0, 40, .inl (HVLf v)), .inl (0, 40, .inl (HVRt v)), .inl (0, 40, .inl (HVUp v)), .inl (0, 40, .inl (HVRk v)), .inl (0, 40, .inl (HVPa v))]) ?_ rfl rfl rfl rfl
    refine go_s 2 X (pc2 := 12) (st2 := [.int 40, .int l5]) rfl ?_
    refine r_icmp_ge X 92 rfl rfl (fun c1 => ?_) (fun c1 => ?_)
    · rw [if_pos c1] at h
      refine go_s 1 X (pc2 := 93) (st2 := [.int l3]) rfl ?_
      obtain ⟨r3, hq2, h⟩ := obind_inv h
      refine q_callS X [] [] (AH2 := [.inr (0, [.ref 1, .ref 2, .ref 3, .ref 4, .ref 5, .int (HVCm v), .int (HVSw v), .ref 6]), .inl (0, 40, .inl (HVPr v)), .inl (0, 40, .inl (HVLf v)), .inl (0, 40, .inl (HVRt v)), .inl (0, 40, .inl (HVUp v)), .inl (0, 40, .inl (HVRk v)), .inl (0, 40, .inl (HVPa v))]) (st2 := [.int r3]) (c_X0_isNode _ _ hq2) ⟨rfl, rfl⟩ rfl k_X0_isNode l_X0_41 rfl rfl (fit_of hR (by decide) (by decide) (by decide) (by decide)) (Nat.le_of_ble_eq_true rfl) (by decide) rfl rfl rfl ?_
      refine r_if_eq X 103 rfl rfl (fun c5 => ?_) (fun c5 => ?_)
      · rw [if_pos c5] at h
        refine go_l 6 X (pc2 := 113) (ls2 := [some (.ref 0), some (.int l1), some (.int l2), some (.int l3), some (.int l4), some (.int l5), some (.int l4), some (.int (l5 - 1)), none]) (st2 := []) rfl ?_
        exact AW.eq (a_X0_merge_h113 X hR FU _ _ _ _ _ _ _ _ _ _ h) rfl rfl rfl rfl
      · rw [if_neg c5] at h
        refine go_l 7 X (pc2 := 113) (ls2 := [some (.ref 0), some (.int l1), some (.int l2), some (.int l3), some (.int l4), some (.int l5), some (.int l3), some (.int (l5 - 1)), none]) (st2 := []) rfl ?_
        exact AW.eq (a_X0_merge_h113 X hR FU _ _ _ _ _ _ _ _ _ _ h) rfl rfl rfl rfl
    · rw [if_neg c1] at h
      refine go_s 1 X (pc2 := 16) (st2 := [.int l3]) rfl ?_
      obtain ⟨r19, hq18, h⟩ := obind_inv h
      refine q_callS X [] [] (AH2 := [.inr (0, [.ref 1, .ref 2, .ref 3, .ref 4, .ref 5, .int (HVCm v), .int (HVSw v), .ref 6]), .inl (0, 40, .inl (HVPr v)), .inl (0, 40, .inl (HVLf v)), .inl (0, 40, .inl (HVRt v)), .inl (0, 40, .inl (HVUp v)), .inl (0, 40, .inl (HVRk v)), .inl (0, 40, .inl (HVPa v))]) (st2 := [.int r19]) (c_X0_isNode _ _ hq18) ⟨rfl, rfl⟩ rfl k_X0_isNode l_X0_41 rfl rfl (fit_of hR (by decide) (by decide) (by decide) (by decide)) (Nat.le_of_ble_eq_true rfl) (by decide) rfl rfl rfl ?_
      refine r_if_eq X 92 rfl rfl (fun c21 => ?_) (fun c21 => ?_)
      · rw [if_pos c21] at h
        refine go_s 1 X (pc2 := 93) (st2 := [.int l3]) rfl ?_
        obtain ⟨r23, hq22, h⟩ := obind_inv h
        refine q_callS X [] [] (AH2 := [.inr (0, [.ref 1, .ref 2, .ref 3, .ref 4, .ref 5, .int (HVCm v), .int (HVSw v), .ref 6]), .inl (0, 40, .inl (HVPr v)), .inl (0, 40, .inl (HVLf v)), .inl (0, 40, .inl (HVRt v)), .inl (0, 40, .inl (HVUp v)), .inl (0, 40, .inl (HVRk v)), .inl (0, 40, .inl (HVPa v))]) (st2 := [.int r23]) (c_X0_isNode _ _ hq22) ⟨rfl, rfl⟩ rfl k_X0_isNode l_X0_41 rfl rfl (fit_of hR (by decide) (by decide) (by decide) (by decide)) (Nat.le_of_ble_eq_true rfl) (by decide) rfl rfl rfl ?_
        refine r_if_eq X 103 rfl rfl (fun c25 => ?_) (fun c25 => ?_)
        · rw [if_pos c25] at h
          refine go_l 6 X (pc2 := 113) (ls2 := [some (.ref 0), some (.int l1), some (.int l2), some (.int l3), some (.int l4), some (.int l5), some (.int l4), some (.int (l5 - 1)), none]) (st2 := []) rfl ?_
          exact AW.eq (a_X0_merge_h113 X hR FU _ _ _ _ _ _ _ _ _ _ h) rfl rfl rfl rfl
        · rw [if_neg c25] at h
          refine go_l 7 X (pc2 := 113) (ls2 := [some (.ref 0), some (.int l1), some (.int l2), some (.int l3), some (.int l4), some (.int l5), some (.int l3), some (.int (l5 - 1)), none]) (st2 := []) rfl ?_
          exact AW.eq (a_X0_merge_h113 X hR FU _ _ _ _ _ _ _ _ _ _ h) rfl rfl rfl rfl
      · rw [if_neg c21] at h
        refine go_s 1 X (pc2 := 24) (st2 := [.int l4]) rfl ?_
        obtain ⟨r27, hq26, h⟩ := obind_inv h
        refine q_callS X [] [] (AH2 := [.inr (0, [.ref 1, .ref 2, .ref 3, .ref 4, .ref 5, .int (HVCm v), .int (HVSw v), .ref 6]), .inl (0, 40, .inl (HVPr v)), .inl (0, 40, .inl (HVLf v)), .inl (0, 40, .inl (HVRt v)), .inl (0, 40, .inl (HVUp v)), .inl (0, 40, .inl (HVRk v)), .inl (0, 40, .inl (HVPa v))]) (st2 := [.int r27]) (c_X0_isNode _ _ hq26) ⟨rfl, rfl⟩ rfl k_X0_isNode l_X0_41 rfl rfl (fit_of hR (by decide) (by decide) (by decide) (by decide)) (Nat.le_of_ble_eq_true rfl) (by decide) rfl rfl rfl ?_
        refine r_if_eq X 92 rfl rfl (fun c29 => ?_) (fun c29 => ?_)
        · rw [if_pos c29] at h
          refine go_s 1 X (pc2 := 93) (st2 := [.int l3]) rfl ?_
          obtain ⟨r31, hq30, h⟩ := obind_inv h
          refine q_callS X [] [] (AH2 := [.inr (0, [.ref 1, .ref 2, .ref 3, .ref 4, .ref 5, .int (HVCm v), .int (HVSw v), .ref 6]), .inl (0, 40, .inl (HVPr v)), .inl (0, 40, .inl (HVLf v)), .inl (0, 40, .inl (HVRt v)), .inl (0, 40, .inl (HVUp v)), .inl (0, 40, .inl (HVRk v)), .inl (0, 40, .inl (HVPa v))]) (st2 := [.int r31]) (c_X0_isNode _ _ hq30) ⟨rfl, rfl⟩ rfl k_X0_isNode l_X0_41 rfl rfl (fit_of hR (by decide) (by decide) (by decide) (by decide)) (Nat.le_of_ble_eq_true rfl) (by decide) rfl rfl rfl ?_
          refine r_if_eq X 103 rfl rfl (fun c33 => ?_) (fun c33 => ?_)
          · rw [if_pos c33] at h
            refine go_l 6 X (pc2 := 113) (ls2 := [some (.ref 0), some (.int l1), some (.int l2), some (.int l3), some (.int l4), some (.int l5), some (.int l4), some (.int (l5 - 1)), none]) (st2 := []) rfl ?_
            exact AW.eq (a_X0_merge_h113 X hR FU _ _ _ _ _ _ _ _ _ _ h) rfl rfl rfl rfl
          · rw [if_neg c33] at h
            refine go_l 7 X (pc2 := 113) (ls2 := [some (.ref 0), some (.int l1), some (.int l2), some (.int l3), some (.int l4), some (.int l5), some (.int l3), some (.int (l5 - 1)), none]) (st2 := []) rfl ?_
            exact AW.eq (a_X0_merge_h113 X hR FU _ _ _ _ _ _ _ _ _ _ h) rfl rfl rfl rfl
        · rw [if_neg c29] at h
          refine go 9 X (pc2 := 44) (ls2 := [some (.ref 0), some (.int l1), some (.int l2), some (.int l3), some (.int l4), some (.int l5), none, none, none]) (st2 := [.int l4, .int l3, .ref 0]) (AH2 := [.inr (0, [.ref 1, .ref 2, .ref 3, .ref 4, .ref 5, .int ((HVCm v) + 1), .int (HVSw v), .ref 6]), .inl (0, 40, .inl (HVPr v)), .inl (0, 40, .inl (HVLf v)), .inl (0, 40, .inl (HVRt v)), .inl (0, 40, .inl (HVUp v)), .inl (0, 40, .inl (HVRk v)), .inl (0, 40, .inl (HVPa v))]) rfl ?_
          obtain ⟨r35, hq34, h⟩ := obind_inv h
          refine q_callV X [0, 1, 2, 3, 4, 5, 6] [] (AH2 := [.inr (0, [.ref 1, .ref 2, .ref 3, .ref 4, .ref 5, .int ((HVCm v) + 1), .int (HVSw v), .ref 6]), .inl (0, 40, .inl (HVPr v)), .inl (0, 40, .inl (HVLf v)), .inl (0, 40, .inl (HVRt v)), .inl (0, 40, .inl (HVUp v)), .inl (0, 40, .inl (HVRk v)), .inl (0, 40, .inl (HVPa v))]) (st2 := [.int r35]) (c_X0_precedes _ _ _ _ hq34) ⟨rfl, rfl⟩ rfl k_X0_precedes l_X0_53 rfl rfl rfl rfl rfl (fit_of hR (by decide) (by decide) (by decide) (by decide)) (Nat.le_of_ble_eq_true rfl) (by decide) rfl rfl rfl ?_
          refine r_if_eq X 68 rfl rfl (fun c37 => ?_) (fun c37 => ?_)
          · rw [if_pos c37] at h
            refine go_s 4 X (pc2 := 76) (st2 := [.int l4, .int l5, .ref 6]) rfl ?_
            by_cases b38 : oob l5 40
            · rw [if_pos b38] at h; cases h
            rw [if_neg b38] at h
            refine r_iast X rfl rfl b38 ?_
            refine go_s 3 X (pc2 := 83) (st2 := [.int l4, .ref 3]) rfl ?_
            by_cases b39 : oob l4 40
            · rw [if_pos b39] at h; cases h
            rw [if_neg b39] at h
            refine r_iald X rfl rfl b39 ?_
            refine go_l 3 X (pc2 := 8) (ls2 := [some (.ref 0), some (.int l1), some (.int l2), some (.int l3), some (.int ((HVRt v) (Int32.toNatClampNeg l4))), some (.int (l5 + 1)), none, none, none]) (st2 := []) rfl ?_
            exact AW.eq (ih _ _ _ _ _ _ _ _ h) rfl rfl rfl rfl
          · rw [if_neg c37] at h
            refine go_s 4 X (pc2 := 57) (st2 := [.int l3, .int l5, .ref 6]) rfl ?_
            by_cases b40 : oob l5 40
            · rw [if_pos b40] at h; cases h
            rw [if_neg b40] at h
            refine r_iast X rfl rfl b40 ?_
            refine go_s 3 X (pc2 := 63) (st2 := [.int l3, .ref 3]) rfl ?_
            by_cases b41 : oob l3 40
            · rw [if_pos b41] at h; cases h
            rw [if_neg b41] at h
            refine r_iald X rfl rfl b41 ?_
            refine go_l 4 X (pc2 := 8) (ls2 := [some (.ref 0), some (.int l1), some (.int l2), some (.int ((HVRt v) (Int32.toNatClampNeg l3))), some (.int l4), some (.int (l5 + 1)), none, none, none]) (st2 := []) rfl ?_
            exact AW.eq (ih _ _ _ _ _ _ _ _ h) rfl rfl rfl rfl
set_option maxHeartbeats 400000 in
set_option maxRecDepth 20000 in
theorem c_X0_merge (v : HV) (a : Int32) (b : Int32) (r : Int32) (w : HV) (h : f_X0_merge v a b = some (r, w)) : Sem z_X0_merge 2 0 0 [.ref 0, .int a, .int b] (WH v) (PST (.inl (some (.int r))) (WH w)) := by
  refine Sem.of zo_X0_merge (by decide +kernel) (Nat.le_of_ble_eq_true rfl) fun κ X hE hR hN => ?_
  unfold f_X0_merge at h
  refine AW.eq (pc' := 0) (ls' := [some (.ref 0), some (.int a), some (.int b), none, none, none, none, none, none]) (st' := []) (AH' := [.inr (0, [.ref 1, .ref 2, .ref 3, .ref 4, .ref 5, .int (HVCm v), .int (HVSw v), .ref 6]), .inl (0, 40, .inl (HVPr v)), .inl (0, 40, .inl (HVLf v)), .inl (0, 40, .inl (HVRt v)), .inl (0, 40, .inl (HVUp v)), .inl (0, 40, .inl (HVRk v)), .inl (0, 40, .inl (HVPa v))]) ?_ rfl rfl rfl rfl
  refine go_l 6 X (pc2 := 8) (ls2 := [some (.ref 0), some (.int a), some (.int b), some (.int a), some (.int b), some (.int 0), none, none, none]) (st2 := []) rfl ?_
  exact AW.eq (a_X0_merge_h8 X hR FU _ _ _ _ _ _ _ _ h) rfl rfl rfl rfl
abbrev Lu : Type := Int32 × UV
def LuHs (v : Lu) : Int32 := v.1
def LuU (v : Lu) : UV := v.2
def WLu (v : Lu) : List AC := [.inr (8, [.ref 1001000, .ref 1001001, .ref 1001002, .ref 1001003, .ref 1001004, .ref 1001005, .ref 1001006, .int (LuHs v), .ref 1, .ref 1001009]), .inr (6, [.ref 2, .ref 4, .ref 6]), .inr (2, [.ref 3, .int (NVCt (UVQs (LuU v)))]), .inl (1, 8, .inr (.inl (NVPk (UVQs (LuU v))))), .inr (2, [.ref 5, .int (NVCt (UVOs (LuU v)))]), .inl (1, 8, .inr (.inl (NVPk (UVOs (LuU v))))), .inl (0, 6, .inl (UVSp (LuU v)))]
def f_X8_checkQueue (v : Lu) (a : Int32) : Option ((Unit ⊕ String)) :=
  if a < 0 then
    some (.inr "java/lang/IndexOutOfBoundsException")
  else
    if (NVCt (UVQs (LuU v))) ≤ a then
      some (.inr "java/lang/IndexOutOfBoundsException")
    else
      if a < 6 then
        some (.inl ())
      else
        some (.inr "java/lang/IndexOutOfBoundsException")
set_option maxHeartbeats 400000 in
set_option maxRecDepth 20000 in
theorem c_X8_checkQueue (v : Lu) (a : Int32) (r : Unit ⊕ String) (h : f_X8_checkQueue v a = some r) : Sem z_X8_checkQueue 0 1 6 [.ref 0, .int a] (WLu v) (PST (eqU r) (WLu v)) := by
  refine Sem.of zo_X8_checkQueue (by decide +kernel) (Nat.le_of_ble_eq_true rfl) fun κ X hE hR hN => ?_
  unfold f_X8_checkQueue at h
  refine AW.eq (pc' := 0) (ls' := [some (.ref 0), some (.int a)]) (st' := []) (AH' := [.inr (8, [.ref 1001000, .ref 1001001, .ref 1001002, .ref 1001003, .ref 1001004, .ref 1001005, .ref 1001006, .int (LuHs v), .ref 1, .ref 1001009]), .inr (6, [.ref 2, .ref 4, .ref 6]), .inr (2, [.ref 3, .int (NVCt (UVQs (LuU v)))]), .inl (1, 8, .inr (.inl (NVPk (UVQs (LuU v))))), .inr (2, [.ref 5, .int (NVCt (UVOs (LuU v)))]), .inl (1, 8, .inr (.inl (NVPk (UVOs (LuU v))))), .inl (0, 6, .inl (UVSp (LuU v)))]) ?_ rfl rfl rfl rfl
  refine go_s 1 X (pc2 := 1) (st2 := [.int a]) rfl ?_
  refine r_if_lt X 24 rfl rfl (fun c1 => ?_) (fun c1 => ?_)
  · rw [if_pos c1] at h
    cases h
    exact r_throw X hE "java/lang/IndexOutOfBoundsException" "there is no such queue" 14 (by decide +kernel) (by decide) rfl rfl rfl rfl rfl rfl hR (by decide) (by decide) (by decide) ⟨rfl, rfl⟩
  · rw [if_neg c1] at h
    refine go_s 5 X (pc2 := 15) (st2 := [.int (NVCt (UVQs (LuU v))), .int a]) rfl ?_
    refine r_icmp_ge X 24 rfl rfl (fun c2 => ?_) (fun c2 => ?_)
    · rw [if_pos c2] at h
      cases h
      exact r_throw X hE "java/lang/IndexOutOfBoundsException" "there is no such queue" 14 (by decide +kernel) (by decide) rfl rfl rfl rfl rfl rfl hR (by decide) (by decide) (by decide) ⟨rfl, rfl⟩
    · rw [if_neg c2] at h
      refine go_s 2 X (pc2 := 21) (st2 := [.int 6, .int a]) rfl ?_
      refine r_icmp_lt X 35 rfl rfl (fun c3 => ?_) (fun c3 => ?_)
      · rw [if_pos c3] at h
        cases h
        exact r_vret X rfl rfl ⟨rfl, rfl⟩ (by decide) (by decide)
      · rw [if_neg c3] at h
        cases h
        exact r_throw X hE "java/lang/IndexOutOfBoundsException" "there is no such queue" 14 (by decide +kernel) (by decide) rfl rfl rfl rfl rfl rfl hR (by decide) (by decide) (by decide) ⟨rfl, rfl⟩
abbrev Ls : Type := Int32 × SV
def LsHs (v : Ls) : Int32 := v.1
def LsS (v : Ls) : SV := v.2
def WLs (v : Ls) : List AC := [.inr (8, [.ref 1001000, .ref 1001001, .ref 1001002, .ref 1001003, .ref 1, .ref 1001005, .ref 1001006, .int (LsHs v), .ref 1001008, .ref 1001009]), .inr (7, [.ref 2, .int (SVJc (LsS v)), .ref 9, .ref 10, .ref 11, .ref 12, .ref 13, .ref 14, .ref 15]), .inr (0, [.ref 3, .ref 4, .ref 5, .ref 6, .ref 7, .int (HVCm (SVH (LsS v))), .int (HVSw (SVH (LsS v))), .ref 8]), .inl (0, 40, .inl (HVPr (SVH (LsS v)))), .inl (0, 40, .inl (HVLf (SVH (LsS v)))), .inl (0, 40, .inl (HVRt (SVH (LsS v)))), .inl (0, 40, .inl (HVUp (SVH (LsS v)))), .inl (0, 40, .inl (HVRk (SVH (LsS v)))), .inl (0, 40, .inl (HVPa (SVH (LsS v)))), .inl (0, 40, .inl (SVOw (LsS v))), .inl (0, 40, .inl (SVPg (LsS v))), .inl (0, 40, .inl (SVFt (LsS v))), .inl (0, 40, .inl (SVQu (LsS v))), .inl (0, 6, .inl (SVRo (LsS v))), .inl (0, 6, .inl (SVPd (LsS v))), .inl (2, 6, .inl (SVPs (LsS v)))]
def f_X8_checkJob (v : Ls) (a : Int32) : Option ((Unit ⊕ String)) :=
  if a < 0 then
    some (.inr "java/lang/IndexOutOfBoundsException")
  else
    if (SVJc (LsS v)) ≤ a then
      some (.inr "java/lang/IndexOutOfBoundsException")
    else
      if a < 40 then
        some (.inl ())
      else
        some (.inr "java/lang/IndexOutOfBoundsException")
set_option maxHeartbeats 400000 in
set_option maxRecDepth 20000 in
theorem c_X8_checkJob (v : Ls) (a : Int32) (r : Unit ⊕ String) (h : f_X8_checkJob v a = some r) : Sem z_X8_checkJob 0 1 6 [.ref 0, .int a] (WLs v) (PST (eqU r) (WLs v)) := by
  refine Sem.of zo_X8_checkJob (by decide +kernel) (Nat.le_of_ble_eq_true rfl) fun κ X hE hR hN => ?_
  unfold f_X8_checkJob at h
  refine AW.eq (pc' := 0) (ls' := [some (.ref 0), some (.int a)]) (st' := []) (AH' := [.inr (8, [.ref 1001000, .ref 1001001, .ref 1001002, .ref 1001003, .ref 1, .ref 1001005, .ref 1001006, .int (LsHs v), .ref 1001008, .ref 1001009]), .inr (7, [.ref 2, .int (SVJc (LsS v)), .ref 9, .ref 10, .ref 11, .ref 12, .ref 13, .ref 14, .ref 15]), .inr (0, [.ref 3, .ref 4, .ref 5, .ref 6, .ref 7, .int (HVCm (SVH (LsS v))), .int (HVSw (SVH (LsS v))), .ref 8]), .inl (0, 40, .inl (HVPr (SVH (LsS v)))), .inl (0, 40, .inl (HVLf (SVH (LsS v)))), .inl (0, 40, .inl (HVRt (SVH (LsS v)))), .inl (0, 40, .inl (HVUp (SVH (LsS v)))), .inl (0, 40, .inl (HVRk (SVH (LsS v)))), .inl (0, 40, .inl (HVPa (SVH (LsS v)))), .inl (0, 40, .inl (SVOw (LsS v))), .inl (0, 40, .inl (SVPg (LsS v))), .inl (0, 40, .inl (SVFt (LsS v))), .inl (0, 40, .inl (SVQu (LsS v))), .inl (0, 6, .inl (SVRo (LsS v))), .inl (0, 6, .inl (SVPd (LsS v))), .inl (2, 6, .inl (SVPs (LsS v)))]) ?_ rfl rfl rfl rfl
  refine go_s 1 X (pc2 := 1) (st2 := [.int a]) rfl ?_
  refine r_if_lt X 21 rfl rfl (fun c1 => ?_) (fun c1 => ?_)
  · rw [if_pos c1] at h
    cases h
    exact r_throw X hE "java/lang/IndexOutOfBoundsException" "there is no such job" 16 (by decide +kernel) (by decide) rfl rfl rfl rfl rfl rfl hR (by decide) (by decide) (by decide) ⟨rfl, rfl⟩
  · rw [if_neg c1] at h
    refine go_s 4 X (pc2 := 12) (st2 := [.int (SVJc (LsS v)), .int a]) rfl ?_
    refine r_icmp_ge X 21 rfl rfl (fun c2 => ?_) (fun c2 => ?_)
    · rw [if_pos c2] at h
      cases h
      exact r_throw X hE "java/lang/IndexOutOfBoundsException" "there is no such job" 16 (by decide +kernel) (by decide) rfl rfl rfl rfl rfl rfl hR (by decide) (by decide) (by decide) ⟨rfl, rfl⟩
    · rw [if_neg c2] at h
      refine go_s 2 X (pc2 := 18) (st2 := [.int 40, .int a]) rfl ?_
      refine r_icmp_lt X 32 rfl rfl (fun c3 => ?_) (fun c3 => ?_)
      · rw [if_pos c3] at h
        cases h
        exact r_vret X rfl rfl ⟨rfl, rfl⟩ (by decide) (by decide)
      · rw [if_neg c3] at h
        cases h
        exact r_throw X hE "java/lang/IndexOutOfBoundsException" "there is no such job" 16 (by decide +kernel) (by decide) rfl rfl rfl rfl rfl rfl hR (by decide) (by decide) (by decide) ⟨rfl, rfl⟩
def f_X8_queueOf (v : Ls) (a : Int32) : Option ((Int32 ⊕ String)) :=
  bndT (f_X8_checkJob v a) (fun r2 =>
    if oob a 40 then none else
    some (.inl ((SVQu (LsS v)) (Int32.toNatClampNeg a)))
    ) (fun x => some (.inr x))
set_option maxHeartbeats 400000 in
set_option maxRecDepth 20000 in
theorem c_X8_queueOf (v : Ls) (a : Int32) (r : Int32 ⊕ String) (h : f_X8_queueOf v a = some r) : Sem z_X8_queueOf 1 1 6 [.ref 0, .int a] (WLs v) (PST (eqI r) (WLs v)) := by
  refine Sem.of zo_X8_queueOf (by decide +kernel) (Nat.le_of_ble_eq_true rfl) fun κ X hE hR hN => ?_
  unfold f_X8_queueOf at h
  refine AW.eq (pc' := 0) (ls' := [some (.ref 0), some (.int a)]) (st' := []) (AH' := [.inr (8, [.ref 1001000, .ref 1001001, .ref 1001002, .ref 1001003, .ref 1, .ref 1001005, .ref 1001006, .int (LsHs v), .ref 1001008, .ref 1001009]), .inr (7, [.ref 2, .int (SVJc (LsS v)), .ref 9, .ref 10, .ref 11, .ref 12, .ref 13, .ref 14, .ref 15]), .inr (0, [.ref 3, .ref 4, .ref 5, .ref 6, .ref 7, .int (HVCm (SVH (LsS v))), .int (HVSw (SVH (LsS v))), .ref 8]), .inl (0, 40, .inl (HVPr (SVH (LsS v)))), .inl (0, 40, .inl (HVLf (SVH (LsS v)))), .inl (0, 40, .inl (HVRt (SVH (LsS v)))), .inl (0, 40, .inl (HVUp (SVH (LsS v)))), .inl (0, 40, .inl (HVRk (SVH (LsS v)))), .inl (0, 40, .inl (HVPa (SVH (LsS v)))), .inl (0, 40, .inl (SVOw (LsS v))), .inl (0, 40, .inl (SVPg (LsS v))), .inl (0, 40, .inl (SVFt (LsS v))), .inl (0, 40, .inl (SVQu (LsS v))), .inl (0, 6, .inl (SVRo (LsS v))), .inl (0, 6, .inl (SVPd (LsS v))), .inl (2, 6, .inl (SVPs (LsS v)))]) ?_ rfl rfl rfl rfl
  refine go_s 2 X (pc2 := 2) (st2 := [.int a, .ref 0]) rfl ?_
  rcases bndT_inv h with ⟨r2, hq1, h⟩ | ⟨er2, hq1, h⟩
  · refine q_callV X [0, 1, 2, 3, 4, 5, 6, 7, 8, 9, 10, 11, 12, 13, 14, 15] [1001000, 1001001, 1001002, 1001003, 1, 1001005, 1001006, 0, 1001008, 1001009] (AH2 := [.inr (8, [.ref 1001000, .ref 1001001, .ref 1001002, .ref 1001003, .ref 1, .ref 1001005, .ref 1001006, .int (LsHs v), .ref 1001008, .ref 1001009]), .inr (7, [.ref 2, .int (SVJc (LsS v)), .ref 9, .ref 10, .ref 11, .ref 12, .ref 13, .ref 14, .ref 15]), .inr (0, [.ref 3, .ref 4, .ref 5, .ref 6, .ref 7, .int (HVCm (SVH (LsS v))), .int (HVSw (SVH (LsS v))), .ref 8]), .inl (0, 40, .inl (HVPr (SVH (LsS v)))), .inl (0, 40, .inl (HVLf (SVH (LsS v)))), .inl (0, 40, .inl (HVRt (SVH (LsS v)))), .inl (0, 40, .inl (HVUp (SVH (LsS v)))), .inl (0, 40, .inl (HVRk (SVH (LsS v)))), .inl (0, 40, .inl (HVPa (SVH (LsS v)))), .inl (0, 40, .inl (SVOw (LsS v))), .inl (0, 40, .inl (SVPg (LsS v))), .inl (0, 40, .inl (SVFt (LsS v))), .inl (0, 40, .inl (SVQu (LsS v))), .inl (0, 6, .inl (SVRo (LsS v))), .inl (0, 6, .inl (SVPd (LsS v))), .inl (2, 6, .inl (SVPs (LsS v)))]) (st2 := []) (c_X8_checkJob _ _ _ hq1) ⟨rfl, rfl⟩ rfl k_X8_checkJob l_X8_132 rfl rfl rfl rfl rfl (fit_of hR (by decide) (by decide) (by decide) (by decide)) (Nat.le_of_ble_eq_true rfl) (by decide) rfl rfl rfl ?_
    refine go_s 4 X (pc2 := 13) (st2 := [.int a, .ref 12]) rfl ?_
    by_cases b4 : oob a 40
    · rw [if_pos b4] at h; cases h
    rw [if_neg b4] at h
    refine r_iald X rfl rfl b4 ?_
    cases h
    exact r_iret X rfl rfl ⟨rfl, rfl⟩ (by decide) (by decide)
  · cases h
    exact q_callVx X hE [0, 1, 2, 3, 4, 5, 6, 7, 8, 9, 10, 11, 12, 13, 14, 15] [1001000, 1001001, 1001002, 1001003, 1, 1001005, 1001006, 0, 1001008, 1001009] (AH2 := [.inr (8, [.ref 1001000, .ref 1001001, .ref 1001002, .ref 1001003, .ref 1, .ref 1001005, .ref 1001006, .int (LsHs v), .ref 1001008, .ref 1001009]), .inr (7, [.ref 2, .int (SVJc (LsS v)), .ref 9, .ref 10, .ref 11, .ref 12, .ref 13, .ref 14, .ref 15]), .inr (0, [.ref 3, .ref 4, .ref 5, .ref 6, .ref 7, .int (HVCm (SVH (LsS v))), .int (HVSw (SVH (LsS v))), .ref 8]), .inl (0, 40, .inl (HVPr (SVH (LsS v)))), .inl (0, 40, .inl (HVLf (SVH (LsS v)))), .inl (0, 40, .inl (HVRt (SVH (LsS v)))), .inl (0, 40, .inl (HVUp (SVH (LsS v)))), .inl (0, 40, .inl (HVRk (SVH (LsS v)))), .inl (0, 40, .inl (HVPa (SVH (LsS v)))), .inl (0, 40, .inl (SVOw (LsS v))), .inl (0, 40, .inl (SVPg (LsS v))), .inl (0, 40, .inl (SVFt (LsS v))), .inl (0, 40, .inl (SVQu (LsS v))), .inl (0, 6, .inl (SVRo (LsS v))), .inl (0, 6, .inl (SVPd (LsS v))), .inl (2, 6, .inl (SVPs (LsS v)))]) (c_X8_checkJob _ _ _ hq1) ⟨rfl, rfl⟩ rfl k_X8_checkJob l_X8_132 rfl rfl rfl rfl rfl (fit_of hR (by decide) (by decide) (by decide) (by decide)) (Nat.le_of_ble_eq_true rfl) (by decide) rfl rfl ⟨rfl, rfl⟩ (by decide) (by decide)
def f_X7_isQueue (a : Int32) : Option (Int32) :=
  if a < 0 then
    some 0
  else
    if 6 ≤ a then
      some 0
    else
      some 1
set_option maxHeartbeats 400000 in
set_option maxRecDepth 20000 in
theorem c_X7_isQueue (a : Int32) (r : Int32) (h : f_X7_isQueue a = some r) : Sem z_X7_isQueue 0 0 0 [.int a] [] (PST (.inl (some (.int r))) []) := by
  refine Sem.of zo_X7_isQueue (by decide +kernel) (Nat.le_of_ble_eq_true rfl) fun κ X hE hR hN => ?_
  unfold f_X7_isQueue at h
  refine AW.eq (pc' := 0) (ls' := [some (.int a)]) (st' := []) (AH' := []) ?_ rfl rfl rfl rfl
  refine go_s 1 X (pc2 := 1) (st2 := [.int a]) rfl ?_
  refine r_if_lt X 14 rfl rfl (fun c1 => ?_) (fun c1 => ?_)
  · rw [if_pos c1] at h
    refine go_s 1 X (pc2 := 15) (st2 := [.int 0]) rfl ?_
    cases h
    exact r_zret X (ty := .boolean) rfl rfl rfl ⟨rfl, rfl⟩ (by decide) (by decide)
  · rw [if_neg c1] at h
    refine go_s 2 X (pc2 := 7) (st2 := [.int 6, .int a]) rfl ?_
    refine r_icmp_ge X 14 rfl rfl (fun c2 => ?_) (fun c2 => ?_)
    · rw [if_pos c2] at h
      refine go_s 1 X (pc2 := 15) (st2 := [.int 0]) rfl ?_
      cases h
      exact r_zret X (ty := .boolean) rfl rfl rfl ⟨rfl, rfl⟩ (by decide) (by decide)
    · rw [if_neg c2] at h
      refine go_s 2 X (pc2 := 15) (st2 := [.int 1]) rfl ?_
      cases h
      exact r_zret X (ty := .boolean) rfl rfl rfl ⟨rfl, rfl⟩ (by decide) (by decide)
def f_X7_waits (v : SV) (a : Int32) : Option (Int32) :=
  if a < 0 then
    some 0
  else
    if (SVJc v) ≤ a then
      some 0
    else
      if 40 ≤ a then
        some 0
      else
        if oob a 40 then none else
        if ((SVFt v) (Int32.toNatClampNeg a)) = 0 then
          if oob a 40 then none else
          (f_X7_isQueue ((SVQu v) (Int32.toNatClampNeg a))).bind fun r8 =>
          if r8 = 0 then
            some 0
          else
            some 1
        else
          some 0
set_option maxHeartbeats 400000 in
set_option maxRecDepth 20000 in
theorem c_X7_waits (v : SV) (a : Int32) (r : Int32) (h : f_X7_waits v a = some r) : Sem z_X7_waits 1 0 0 [.ref 0, .int a] (WS v) (PST (.inl (some (.int r))) (WS v)) := by
  refine Sem.of zo_X7_waits (by decide +kernel) (Nat.le_of_ble_eq_true rfl) fun κ X hE hR hN => ?_
  unfold f_X7_waits at h
  refine AW.eq (pc' := 0) (ls' := [some (.ref 0), some (.int a)]) (st' := []) (AH' := [.inr (7, [.ref 1, .int (SVJc v), .ref 8, .ref 9, .ref 10, .ref 11, .ref 12, .ref 13, .ref 14]), .inr (0, [.ref 2, .ref 3, .ref 4, .ref 5, .ref 6, .int (HVCm (SVH v)), .int (HVSw (SVH v)), .ref 7]), .inl (0, 40, .inl (HVPr (SVH v))), .inl (0, 40, .inl (HVLf (SVH v))), .inl (0, 40, .inl (HVRt (SVH v))), .inl (0, 40, .inl (HVUp (SVH v))), .inl (0, 40, .inl (HVRk (SVH v))), .inl (0, 40, .inl (HVPa (SVH v))), .inl (0, 40, .inl (SVOw v)), .inl (0, 40, .inl (SVPg v)), .inl (0, 40, .inl (SVFt v)), .inl (0, 40, .inl (SVQu v)), .inl (0, 6, .inl (SVRo v)), .inl (0, 6, .inl (SVPd v)), .inl (2, 6, .inl (SVPs v))]) ?_ rfl rfl rfl rfl
  refine go_s 1 X (pc2 := 1) (st2 := [.int a]) rfl ?_
  refine r_if_lt X 43 rfl rfl (fun c1 => ?_) (fun c1 => ?_)
  · rw [if_pos c1] at h
    refine go_s 1 X (pc2 := 44) (st2 := [.int 0]) rfl ?_
    cases h
    exact r_zret X (ty := .boolean) rfl rfl rfl ⟨rfl, rfl⟩ (by decide) (by decide)
  · rw [if_neg c1] at h
    refine go_s 3 X (pc2 := 9) (st2 := [.int (SVJc v), .int a]) rfl ?_
    refine r_icmp_ge X 43 rfl rfl (fun c2 => ?_) (fun c2 => ?_)
    · rw [if_pos c2] at h
      refine go_s 1 X (pc2 := 44) (st2 := [.int 0]) rfl ?_
      cases h
      exact r_zret X (ty := .boolean) rfl rfl rfl ⟨rfl, rfl⟩ (by decide) (by decide)
    · rw [if_neg c2] at h
      refine go_s 2 X (pc2 := 15) (st2 := [.int 40, .int a]) rfl ?_
      refine r_icmp_ge X 43 rfl rfl (fun c3 => ?_) (fun c3 => ?_)
      · rw [if_pos c3] at h
        refine go_s 1 X (pc2 := 44) (st2 := [.int 0]) rfl ?_
        cases h
        exact r_zret X (ty := .boolean) rfl rfl rfl ⟨rfl, rfl⟩ (by decide) (by decide)
      · rw [if_neg c3] at h
        refine go_s 3 X (pc2 := 23) (st2 := [.int a, .ref 10]) rfl ?_
        by_cases b4 : oob a 40
        · rw [if_pos b4] at h; cases h
        rw [if_neg b4] at h
        refine r_iald X rfl rfl b4 ?_
        refine r_if_ne X 43 rfl rfl (fun c5 => ?_) (fun c5 => ?_)
        · rw [if_neg c5] at h
          refine go_s 1 X (pc2 := 44) (st2 := [.int 0]) rfl ?_
          cases h
          exact r_zret X (ty := .boolean) rfl rfl rfl ⟨rfl, rfl⟩ (by decide) (by decide)
        · rw [if_pos c5] at h
          refine go_s 3 X (pc2 := 32) (st2 := [.int a, .ref 11]) rfl ?_
          by_cases b6 : oob a 40
          · rw [if_pos b6] at h; cases h
          rw [if_neg b6] at h
          refine r_iald X rfl rfl b6 ?_
          obtain ⟨r8, hq7, h⟩ := obind_inv h
          refine q_callS X [] [] (AH2 := [.inr (7, [.ref 1, .int (SVJc v), .ref 8, .ref 9, .ref 10, .ref 11, .ref 12, .ref 13, .ref 14]), .inr (0, [.ref 2, .ref 3, .ref 4, .ref 5, .ref 6, .int (HVCm (SVH v)), .int (HVSw (SVH v)), .ref 7]), .inl (0, 40, .inl (HVPr (SVH v))), .inl (0, 40, .inl (HVLf (SVH v))), .inl (0, 40, .inl (HVRt (SVH v))), .inl (0, 40, .inl (HVUp (SVH v))), .inl (0, 40, .inl (HVRk (SVH v))), .inl (0, 40, .inl (HVPa (SVH v))), .inl (0, 40, .inl (SVOw v)), .inl (0, 40, .inl (SVPg v)), .inl (0, 40, .inl (SVFt v)), .inl (0, 40, .inl (SVQu v)), .inl (0, 6, .inl (SVRo v)), .inl (0, 6, .inl (SVPd v)), .inl (2, 6, .inl (SVPs v))]) (st2 := [.int r8]) (c_X7_isQueue _ _ hq7) ⟨rfl, rfl⟩ rfl k_X7_isQueue l_X7_56 rfl rfl (fit_of hR (by decide) (by decide) (by decide) (by decide)) (Nat.le_of_ble_eq_true rfl) (by decide) rfl rfl rfl ?_
          refine r_if_eq X 43 rfl rfl (fun c10 => ?_) (fun c10 => ?_)
          · rw [if_pos c10] at h
            refine go_s 1 X (pc2 := 44) (st2 := [.int 0]) rfl ?_
            cases h
            exact r_zret X (ty := .boolean) rfl rfl rfl ⟨rfl, rfl⟩ (by decide) (by decide)
          · rw [if_neg c10] at h
            refine go_s 2 X (pc2 := 44) (st2 := [.int 1]) rfl ?_
            cases h
            exact r_zret X (ty := .boolean) rfl rfl rfl ⟨rfl, rfl⟩ (by decide) (by decide)
def f_X0_unlink (v : HV) (a : Int32) : Option (Unit × HV) :=
  if oob a 40 then none else
  if oob a 40 then none else
  if oob a 40 then none else
  if oob a 40 then none else
  some ((), ((HVPr v), (upd (HVLf v) (Int32.toNatClampNeg a) (-1)), (upd (HVRt v) (Int32.toNatClampNeg a) (-1)), (upd (HVUp v) (Int32.toNatClampNeg a) (-1)), (upd (HVRk v) (Int32.toNatClampNeg a) 0), (HVCm v), (HVSw v), (HVPa v)))
set_option maxHeartbeats 400000 in
set_option maxRecDepth 20000 in
theorem c_X0_unlink (v : HV) (a : Int32) (r : Unit) (w : HV) (h : f_X0_unlink v a = some (r, w)) : Sem z_X0_unlink 0 0 0 [.ref 0, .int a] (WH v) (PST (.inl none) (WH w)) := by
  refine Sem.of zo_X0_unlink (by decide +kernel) (Nat.le_of_ble_eq_true rfl) fun κ X hE hR hN => ?_
  unfold f_X0_unlink at h
  refine AW.eq (pc' := 0) (ls' := [some (.ref 0), some (.int a)]) (st' := []) (AH' := [.inr (0, [.ref 1, .ref 2, .ref 3, .ref 4, .ref 5, .int (HVCm v), .int (HVSw v), .ref 6]), .inl (0, 40, .inl (HVPr v)), .inl (0, 40, .inl (HVLf v)), .inl (0, 40, .inl (HVRt v)), .inl (0, 40, .inl (HVUp v)), .inl (0, 40, .inl (HVRk v)), .inl (0, 40, .inl (HVPa v))]) ?_ rfl rfl rfl rfl
  refine go_s 4 X (pc2 := 6) (st2 := [.int (-1), .int a, .ref 2]) rfl ?_
  by_cases b1 : oob a 40
  · rw [if_pos b1] at h; cases h
  rw [if_neg b1] at h
  refine r_iast X rfl rfl b1 ?_
  refine go_s 4 X (pc2 := 13) (st2 := [.int (-1), .int a, .ref 3]) rfl ?_
  by_cases b2 : oob a 40
  · rw [if_pos b2] at h; cases h
  rw [if_neg b2] at h
  refine r_iast X rfl rfl b2 ?_
  refine go_s 4 X (pc2 := 20) (st2 := [.int (-1), .int a, .ref 4]) rfl ?_
  by_cases b3 : oob a 40
  · rw [if_pos b3] at h; cases h
  rw [if_neg b3] at h
  refine r_iast X rfl rfl b3 ?_
  refine go_s 4 X (pc2 := 27) (st2 := [.int 0, .int a, .ref 5]) rfl ?_
  by_cases b4 : oob a 40
  · rw [if_pos b4] at h; cases h
  rw [if_neg b4] at h
  refine r_iast X rfl rfl b4 ?_
  cases h
  exact r_vret X rfl rfl ⟨rfl, rfl⟩ (by decide) (by decide)
def f_X0_takeOut_h91 : Nat → Int32 → Int32 → Int32 → Int32 → Int32 → Int32 → HV → Option (Int32 × HV)
  | 0, _, _, _, _, _, _, _ => none
  | n + 1, l1, l2, l3, l4, l5, l6, v =>
    if 40 ≤ l6 then
      some (l1, v)
    else
      (f_X0_isNode l5).bind fun r26 =>
      if r26 = 0 then
        some (l1, v)
      else
        bnd2 (f_X0_settle v l5) fun r30 w31 =>
        if oob l5 40 then none else
        f_X0_takeOut_h91 n l1 l2 l3 l4 ((HVUp w31) (Int32.toNatClampNeg l5)) (l6 + 1) w31
def f_X0_takeOut (v : HV) (a : Int32) (b : Int32) : Option (Int32 × HV) :=
  (f_X0_isNode b).bind fun r2 =>
  if r2 = 0 then
    some (a, v)
  else
    if oob b 40 then none else
    if oob b 40 then none else
    if oob b 40 then none else
    bnd2 (f_X0_merge v ((HVLf v) (Int32.toNatClampNeg b)) ((HVRt v) (Int32.toNatClampNeg b))) fun r9 w10 =>
    bnd2 (f_X0_unlink w10 b) fun r12 w13 =>
    (f_X0_isNode ((HVUp v) (Int32.toNatClampNeg b))).bind fun r15 =>
    if r15 = 0 then
      some (r9, w13)
    else
      if oob ((HVUp v) (Int32.toNatClampNeg b)) 40 then none else
      if ((HVLf w13) (Int32.toNatClampNeg ((HVUp v) (Int32.toNatClampNeg b)))) = b then
        if oob ((HVUp v) (Int32.toNatClampNeg b)) 40 then none else
        bnd2 (f_X0_setAbove ((HVPr w13), (upd (HVLf w13) (Int32.toNatClampNeg ((HVUp v) (Int32.toNatClampNeg b))) r9), (HVRt w13), (HVUp w13), (HVRk w13), (HVCm w13), (HVSw w13), (HVPa w13)) r9 ((HVUp v) (Int32.toNatClampNeg b))) fun r35 w36 =>
        f_X0_takeOut_h91 FU a b ((HVUp v) (Int32.toNatClampNeg b)) r9 ((HVUp v) (Int32.toNatClampNeg b)) 0 w36
      else
        if oob ((HVUp v) (Int32.toNatClampNeg b)) 40 then none else
        bnd2 (f_X0_setAbove ((HVPr w13), (HVLf w13), (upd (HVRt w13) (Int32.toNatClampNeg ((HVUp v) (Int32.toNatClampNeg b))) r9), (HVUp w13), (HVRk w13), (HVCm w13), (HVSw w13), (HVPa w13)) r9 ((HVUp v) (Int32.toNatClampNeg b))) fun r22 w23 =>
        f_X0_takeOut_h91 FU a b ((HVUp v) (Int32.toNatClampNeg b)) r9 ((HVUp v) (Int32.toNatClampNeg b)) 0 w23
set_option maxHeartbeats 400000 in
set_option maxRecDepth 20000 in
theorem a_X0_takeOut_h91 {κ : KX} (X : CX κ z_X0_takeOut) (hR : κR κ = rmM 3 0 0) : ∀ (n : Nat) (l1 : Int32) (l2 : Int32) (l3 : Int32) (l4 : Int32) (l5 : Int32) (l6 : Int32) (v : HV) (r : Int32) (w : HV) (h : f_X0_takeOut_h91 n l1 l2 l3 l4 l5 l6 v = some (r, w)), AW κ (QM κ (PST (.inl (some (.int r))) (WH w)) 0 0) 91 [some (.ref 0), some (.int l1), some (.int l2), some (.int l3), some (.int l4), some (.int l5), some (.int l6)] [] (WH v) 0 0 := by
  intro n
  induction n with
  | zero =>
    intro l1 l2 l3 l4 l5 l6 v r w h
    unfold f_X0_takeOut_h91 at h
    cases h
  | succ n ih =>
    intro l1 l2 l3 l4 l5 l6 v r w h
    unfold f_X0_takeOut_h91 at h
    refine AW.eq (pc' := 91) (ls' := [some (.ref 0), some (.int l1), some (.int l2), some (.int l3), some (.int l4), some (.int l5), some (.int l6)]) (st' := []) (AH' := [.inr (0, [.ref 1, .ref 2, .ref 3, .ref 4, .ref 5, .int (HVCm v), .int (HVSw v), .ref 6]), .inl (0, 40, .inl (HVPr v)), .inl (0, 40, .inl (HVLf v)), .inl (0, 40, .inl (HVRt v)), .inl (0, 40, .inl (HVUp v)), .inl (0, 40, .inl (HVRk v)), .inl (0, 40, .inl (HVPa v))]) ?_ rfl rfl rfl rfl
    refine go_s 2 X (pc2 := 95) (st2 := [.int 40, .int l6]) rfl ?_
    refine r_icmp_ge X 127 rfl rfl (fun c24 => ?_) (fun c24 => ?_)
    · rw [if_pos c24] at h
      refine go_s 1 X (pc2 := 128) (st2 := [.int l1]) rfl ?_
      cases h
      exact r_iret X rfl rfl ⟨rfl, rfl⟩ (by decide) (by decide)
    · rw [if_neg c24] at h
      refine go_s 1 X (pc2 := 100) (st2 := [.int l5]) rfl ?_
      obtain ⟨r26, hq25, h⟩ := obind_inv h
      refine q_callS X [] [] (AH2 := [.inr (0, [.ref 1, .ref 2, .ref 3, .ref 4, .ref 5, .int (HVCm v), .int (HVSw v), .ref 6]), .inl (0, 40, .inl (HVPr v)), .inl (0, 40, .inl (HVLf v)), .inl (0, 40, .inl (HVRt v)), .inl (0, 40, .inl (HVUp v)), .inl (0, 40, .inl (HVRk v)), .inl (0, 40, .inl (HVPa v))]) (st2 := [.int r26]) (c_X0_isNode _ _ hq25) ⟨rfl, rfl⟩ rfl k_X0_isNode l_X0_41 rfl rfl (fit_of hR (by decide) (by decide) (by decide) (by decide)) (Nat.le_of_ble_eq_true rfl) (by decide) rfl rfl rfl ?_
      refine r_if_eq X 127 rfl rfl (fun c28 => ?_) (fun c28 => ?_)
      · rw [if_pos c28] at h
        refine go_s 1 X (pc2 := 128) (st2 := [.int l1]) rfl ?_
        cases h
        exact r_iret X rfl rfl ⟨rfl, rfl⟩ (by decide) (by decide)
      · rw [if_neg c28] at h
        refine go_s 2 X (pc2 := 109) (st2 := [.int l5, .ref 0]) rfl ?_
        obtain ⟨r30, w31, hq29, h⟩ := bnd2_inv h
        refine q_callV X [0, 1, 2, 3, 4, 5, 6] [] (AH2 := [.inr (0, [.ref 1, .ref 2, .ref 3, .ref 4, .ref 5, .int (HVCm w31), .int (HVSw w31), .ref 6]), .inl (0, 40, .inl (HVPr w31)), .inl (0, 40, .inl (HVLf w31)), .inl (0, 40, .inl (HVRt w31)), .inl (0, 40, .inl (HVUp w31)), .inl (0, 40, .inl (HVRk w31)), .inl (0, 40, .inl (HVPa w31))]) (st2 := []) (c_X0_settle _ _ _ _ hq29) ⟨rfl, rfl⟩ rfl k_X0_settle l_X0_61 rfl rfl rfl rfl rfl (fit_of hR (by decide) (by decide) (by decide) (by decide)) (Nat.le_of_ble_eq_true rfl) (by decide) rfl rfl rfl ?_
        refine go_s 3 X (pc2 := 118) (st2 := [.int l5, .ref 4]) rfl ?_
        by_cases b32 : oob l5 40
        · rw [if_pos b32] at h; cases h
        rw [if_neg b32] at h
        refine r_iald X rfl rfl b32 ?_
        refine go_l 3 X (pc2 := 91) (ls2 := [some (.ref 0), some (.int l1), some (.int l2), some (.int l3), some (.int l4), some (.int ((HVUp w31) (Int32.toNatClampNeg l5))), some (.int (l6 + 1))]) (st2 := []) rfl ?_
        exact AW.eq (ih _ _ _ _ _ _ _ _ _ h) rfl rfl rfl rfl
set_option maxHeartbeats 400000 in
set_option maxRecDepth 20000 in
theorem c_X0_takeOut (v : HV) (a : Int32) (b : Int32) (r : Int32) (w : HV) (h : f_X0_takeOut v a b = some (r, w)) : Sem z_X0_takeOut 3 0 0 [.ref 0, .int a, .int b] (WH v) (PST (.inl (some (.int r))) (WH w)) := by
  refine Sem.of zo_X0_takeOut (by decide +kernel) (Nat.le_of_ble_eq_true rfl) fun κ X hE hR hN => ?_
  unfold f_X0_takeOut at h
  refine AW.eq (pc' := 0) (ls' := [some (.ref 0), some (.int a), some (.int b), none, none, none, none]) (st' := []) (AH' := [.inr (0, [.ref 1, .ref 2, .ref 3, .ref 4, .ref 5, .int (HVCm v), .int (HVSw v), .ref 6]), .inl (0, 40, .inl (HVPr v)), .inl (0, 40, .inl (HVLf v)), .inl (0, 40, .inl (HVRt v)), .inl (0, 40, .inl (HVUp v)), .inl (0, 40, .inl (HVRk v)), .inl (0, 40, .inl (HVPa v))]) ?_ rfl rfl rfl rfl
  refine go_s 1 X (pc2 := 1) (st2 := [.int b]) rfl ?_
  obtain ⟨r2, hq1, h⟩ := obind_inv h
  refine q_callS X [] [] (AH2 := [.inr (0, [.ref 1, .ref 2, .ref 3, .ref 4, .ref 5, .int (HVCm v), .int (HVSw v), .ref 6]), .inl (0, 40, .inl (HVPr v)), .inl (0, 40, .inl (HVLf v)), .inl (0, 40, .inl (HVRt v)), .inl (0, 40, .inl (HVUp v)), .inl (0, 40, .inl (HVRk v)), .inl (0, 40, .inl (HVPa v))]) (st2 := [.int r2]) (c_X0_isNode _ _ hq1) ⟨rfl, rfl⟩ rfl k_X0_isNode l_X0_41 rfl rfl (fit_of hR (by decide) (by decide) (by decide) (by decide)) (Nat.le_of_ble_eq_true rfl) (by decide) rfl rfl rfl ?_
  refine r_if_ne X 9 rfl rfl (fun c4 => ?_) (fun c4 => ?_)
  · rw [if_neg c4] at h
    refine go_s 3 X (pc2 := 14) (st2 := [.int b, .ref 4]) rfl ?_
    by_cases b5 : oob b 40
    · rw [if_pos b5] at h; cases h
    rw [if_neg b5] at h
    refine r_iald X rfl rfl b5 ?_
    refine go_l 5 X (pc2 := 22) (ls2 := [some (.ref 0), some (.int a), some (.int b), some (.int ((HVUp v) (Int32.toNatClampNeg b))), none, none, none]) (st2 := [.int b, .ref 2, .ref 0]) rfl ?_
    by_cases b6 : oob b 40
    · rw [if_pos b6] at h; cases h
    rw [if_neg b6] at h
    refine r_iald X rfl rfl b6 ?_
    refine go_s 3 X (pc2 := 28) (st2 := [.int b, .ref 3, .int ((HVLf v) (Int32.toNatClampNeg b)), .ref 0]) rfl ?_
    by_cases b7 : oob b 40
    · rw [if_pos b7] at h; cases h
    rw [if_neg b7] at h
    refine r_iald X rfl rfl b7 ?_
    obtain ⟨r9, w10, hq8, h⟩ := bnd2_inv h
    refine q_callV X [0, 1, 2, 3, 4, 5, 6] [] (AH2 := [.inr (0, [.ref 1, .ref 2, .ref 3, .ref 4, .ref 5, .int (HVCm w10), .int (HVSw w10), .ref 6]), .inl (0, 40, .inl (HVPr w10)), .inl (0, 40, .inl (HVLf w10)), .inl (0, 40, .inl (HVRt w10)), .inl (0, 40, .inl (HVUp w10)), .inl (0, 40, .inl (HVRk w10)), .inl (0, 40, .inl (HVPa w10))]) (st2 := [.int r9]) (c_X0_merge _ _ _ _ _ hq8) ⟨rfl, rfl⟩ rfl k_X0_merge l_X0_68 rfl rfl rfl rfl rfl (fit_of hR (by decide) (by decide) (by decide) (by decide)) (Nat.le_of_ble_eq_true rfl) (by decide) rfl rfl rfl ?_
    refine go_l 3 X (pc2 := 36) (ls2 := [some (.ref 0), some (.int a), some (.int b), some (.int ((HVUp v) (Int32.toNatClampNeg b))), some (.int r9), none, none]) (st2 := [.int b, .ref 0]) rfl ?_
    obtain ⟨r12, w13, hq11, h⟩ := bnd2_inv h
    refine q_callV X [0, 1, 2, 3, 4, 5, 6] [] (AH2 := [.inr (0, [.ref 1, .ref 2, .ref 3, .ref 4, .ref 5, .int (HVCm w13), .int (HVSw w13), .ref 6]), .inl (0, 40, .inl (HVPr w13)), .inl (0, 40, .inl (HVLf w13)), .inl (0, 40, .inl (HVRt w13)), .inl (0, 40, .inl (HVUp w13)), .inl (0, 40, .inl (HVRk w13)), .inl (0, 40, .inl (HVPa w13))]) (st2 := []) (c_X0_unlink _ _ _ _ hq11) ⟨rfl, rfl⟩ rfl k_X0_unlink l_X0_49 rfl rfl rfl rfl rfl (fit_of hR (by decide) (by decide) (by decide) (by decide)) (Nat.le_of_ble_eq_true rfl) (by decide) rfl rfl rfl ?_
    refine go_s 1 X (pc2 := 40) (st2 := [.int ((HVUp v) (Int32.toNatClampNeg b))]) rfl ?_
    obtain ⟨r15, hq14, h⟩ := obind_inv h
    refine q_callS X [] [] (AH2 := [.inr (0, [.ref 1, .ref 2, .ref 3, .ref 4, .ref 5, .int (HVCm w13), .int (HVSw w13), .ref 6]), .inl (0, 40, .inl (HVPr w13)), .inl (0, 40, .inl (HVLf w13)), .inl (0, 40, .inl (HVRt w13)), .inl (0, 40, .inl (HVUp w13)), .inl (0, 40, .inl (HVRk w13)), .inl (0, 40, .inl (HVPa w13))]) (st2 := [.int r15]) (c_X0_isNode _ _ hq14) ⟨rfl, rfl⟩ rfl k_X0_isNode l_X0_41 rfl rfl (fit_of hR (by decide) (by decide) (by decide) (by decide)) (Nat.le_of_ble_eq_true rfl) (by decide) rfl rfl rfl ?_
    refine r_if_ne X 49 rfl rfl (fun c17 => ?_) (fun c17 => ?_)
    · rw [if_neg c17] at h
      refine go_s 3 X (pc2 := 54) (st2 := [.int ((HVUp v) (Int32.toNatClampNeg b)), .ref 2]) rfl ?_
      by_cases b18 : oob ((HVUp v) (Int32.toNatClampNeg b)) 40
      · rw [if_pos b18] at h; cases h
      rw [if_neg b18] at h
      refine r_iald X rfl rfl b18 ?_
      refine go_s 1 X (pc2 := 56) (st2 := [.int b, .int ((HVLf w13) (Int32.toNatClampNeg ((HVUp v) (Int32.toNatClampNeg b))))]) rfl ?_
      refine r_icmp_ne X 70 rfl rfl (fun c19 => ?_) (fun c19 => ?_)
      · rw [if_neg c19] at h
        refine go_s 4 X (pc2 := 77) (st2 := [.int r9, .int ((HVUp v) (Int32.toNatClampNeg b)), .ref 3]) rfl ?_
        by_cases b20 : oob ((HVUp v) (Int32.toNatClampNeg b)) 40
        · rw [if_pos b20] at h; cases h
        rw [if_neg b20] at h
        refine r_iast X rfl rfl b20 ?_
        refine go_s 3 X (pc2 := 82) (st2 := [.int ((HVUp v) (Int32.toNatClampNeg b)), .int r9, .ref 0]) rfl ?_
        obtain ⟨r22, w23, hq21, h⟩ := bnd2_inv h
        refine q_callV X [0, 1, 2, 3, 4, 5, 6] [] (AH2 := [.inr (0, [.ref 1, .ref 2, .ref 3, .ref 4, .ref 5, .int (HVCm w23), .int (HVSw w23), .ref 6]), .inl (0, 40, .inl (HVPr w23)), .inl (0, 40, .inl (HVLf w23)), .inl (0, 40, .inl (HVRt w23)), .inl (0, 40, .inl (HVUp w23)), .inl (0, 40, .inl (HVRk w23)), .inl (0, 40, .inl (HVPa w23))]) (st2 := []) (c_X0_setAbove _ _ _ _ _ hq21) ⟨rfl, rfl⟩ rfl k_X0_setAbove l_X0_57 rfl rfl rfl rfl rfl (fit_of hR (by decide) (by decide) (by decide) (by decide)) (Nat.le_of_ble_eq_true rfl) (by decide) rfl rfl rfl ?_
        refine go_l 4 X (pc2 := 91) (ls2 := [some (.ref 0), some (.int a), some (.int b), some (.int ((HVUp v) (Int32.toNatClampNeg b))), some (.int r9), some (.int ((HVUp v) (Int32.toNatClampNeg b))), some (.int 0)]) (st2 := []) rfl ?_
        exact AW.eq (a_X0_takeOut_h91 X hR FU _ _ _ _ _ _ _ _ _ h) rfl rfl rfl rfl
      · rw [if_pos c19] at h
        refine go_s 4 X (pc2 := 66) (st2 := [.int r9, .int ((HVUp v) (Int32.toNatClampNeg b)), .ref 2]) rfl ?_
        by_cases b33 : oob ((HVUp v) (Int32.toNatClampNeg b)) 40
        · rw [if_pos b33] at h; cases h
        rw [if_neg b33] at h
        refine r_iast X rfl rfl b33 ?_
        refine go_s 4 X (pc2 := 82) (st2 := [.int ((HVUp v) (Int32.toNatClampNeg b)), .int r9, .ref 0]) rfl ?_
        obtain ⟨r35, w36, hq34, h⟩ := bnd2_inv h
        refine q_callV X [0, 1, 2, 3, 4, 5, 6] [] (AH2 := [.inr (0, [.ref 1, .ref 2, .ref 3, .ref 4, .ref 5, .int (HVCm w36), .int (HVSw w36), .ref 6]), .inl (0, 40, .inl (HVPr w36)), .inl (0, 40, .inl (HVLf w36)), .inl (0, 40, .inl (HVRt w36)), .inl (0, 40, .inl (HVUp w36)), .inl (0, 40, .inl (HVRk w36)), .inl (0, 40, .inl (HVPa w36))]) (st2 := []) (c_X0_setAbove _ _ _ _ _ hq34) ⟨rfl, rfl⟩ rfl k_X0_setAbove l_X0_57 rfl rfl rfl rfl rfl (fit_of hR (by decide) (by decide) (by decide) (by decide)) (Nat.le_of_ble_eq_true rfl) (by decide) rfl rfl rfl ?_
        refine go_l 4 X (pc2 := 91) (ls2 := [some (.ref 0), some (.int a), some (.int b), some (.int ((HVUp v) (Int32.toNatClampNeg b))), some (.int r9), some (.int ((HVUp v) (Int32.toNatClampNeg b))), some (.int 0)]) (st2 := []) rfl ?_
        exact AW.eq (a_X0_takeOut_h91 X hR FU _ _ _ _ _ _ _ _ _ h) rfl rfl rfl rfl
    · rw [if_pos c17] at h
      refine go_s 1 X (pc2 := 48) (st2 := [.int r9]) rfl ?_
      cases h
      exact r_iret X rfl rfl ⟨rfl, rfl⟩ (by decide) (by decide)
  · rw [if_pos c4] at h
    refine go_s 1 X (pc2 := 8) (st2 := [.int a]) rfl ?_
    cases h
    exact r_iret X rfl rfl ⟨rfl, rfl⟩ (by decide) (by decide)
