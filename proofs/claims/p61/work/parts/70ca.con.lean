/-! ===== 70ca: contracts, by program ===== -/
set_option maxHeartbeats 6000000 in
set_option maxRecDepth 20000 in
theorem c_X0_isNode (a : Int32) (r : Int32) (h : f_X0_isNode a = some r) : Sem z_X0_isNode 0 0 0 [.int a] [] (PST (.inl (some (.int r))) []) := by
  refine Sem.of zo_X0_isNode (by decide +kernel) (Nat.le_of_ble_eq_true rfl) fun κ X hE hR hN => ?_
  unfold f_X0_isNode at h
  refine AW.eq (pc' := 0) (ls' := [some (.int a)]) (st' := []) (AH' := []) ?_ rfl rfl rfl rfl
  refine go_s 1 X (pc2 := 1) (st2 := [.int a]) rfl ?_
  refine r_if_lt X 14 rfl rfl (fun c1 => ?_) (fun c1 => ?_)
  · rw [if_pos c1] at h
    refine go_s 1 X (pc2 := 15) (st2 := [.int 0]) rfl ?_
    cases h
    exact r_zret X (ty := .boolean) rfl rfl rfl ⟨rfl, rfl⟩ (by decide) (by decide)
  · rw [if_neg c1] at h
    refine go_s 2 X (pc2 := 7) (st2 := [.int 40, .int a]) rfl ?_
    refine r_icmp_ge X 14 rfl rfl (fun c2 => ?_) (fun c2 => ?_)
    · rw [if_pos c2] at h
      refine go_s 1 X (pc2 := 15) (st2 := [.int 0]) rfl ?_
      cases h
      exact r_zret X (ty := .boolean) rfl rfl rfl ⟨rfl, rfl⟩ (by decide) (by decide)
    · rw [if_neg c2] at h
      refine go_s 2 X (pc2 := 15) (st2 := [.int 1]) rfl ?_
      cases h
      exact r_zret X (ty := .boolean) rfl rfl rfl ⟨rfl, rfl⟩ (by decide) (by decide)
set_option maxHeartbeats 6000000 in
set_option maxRecDepth 20000 in
theorem a_X0_ancestors_h4 {κ : KX} (X : CX κ z_X0_ancestors) (hR : κR κ = rmM 1 0 0) : ∀ (n : Nat) (l1 : Int32) (l2 : Int32) (l3 : Int32) (v : HV) (r : Int32) (h : f_X0_ancestors_h4 n l1 l2 l3 v = some r), AW κ (QM κ (PST (.inl (some (.int r))) (WH v)) 0 0) 4 [some (.ref 0), some (.int l1), some (.int l2), some (.int l3)] [] (WH v) 0 0 := by
  intro n
  induction n with
  | zero =>
    intro l1 l2 l3 v r h
    unfold f_X0_ancestors_h4 at h
    cases h
  | succ n ih =>
    intro l1 l2 l3 v r h
    unfold f_X0_ancestors_h4 at h
    refine AW.eq (pc' := 4) (ls' := [some (.ref 0), some (.int l1), some (.int l2), some (.int l3)]) (st' := []) (AH' := [.inr (0, [.ref 1, .ref 2, .ref 3, .ref 4, .ref 5, .int (HVCm v), .int (HVSw v), .ref 6]), .inl (0, 40, .inl (HVPr v)), .inl (0, 40, .inl (HVLf v)), .inl (0, 40, .inl (HVRt v)), .inl (0, 40, .inl (HVUp v)), .inl (0, 40, .inl (HVRk v)), .inl (0, 40, .inl (HVPa v))]) ?_ rfl rfl rfl rfl
    refine go_s 2 X (pc2 := 7) (st2 := [.int 40, .int l2]) rfl ?_
    refine r_icmp_ge X 42 rfl rfl (fun c1 => ?_) (fun c1 => ?_)
    · rw [if_pos c1] at h
      refine go_s 1 X (pc2 := 43) (st2 := [.int l2]) rfl ?_
      cases h
      exact r_iret X rfl rfl ⟨rfl, rfl⟩ (by decide) (by decide)
    · rw [if_neg c1] at h
      refine go_s 1 X (pc2 := 11) (st2 := [.int l3]) rfl ?_
      obtain ⟨r3, hq2, h⟩ := obind_inv h
      refine q_callS X [] [] (AH2 := [.inr (0, [.ref 1, .ref 2, .ref 3, .ref 4, .ref 5, .int (HVCm v), .int (HVSw v), .ref 6]), .inl (0, 40, .inl (HVPr v)), .inl (0, 40, .inl (HVLf v)), .inl (0, 40, .inl (HVRt v)), .inl (0, 40, .inl (HVUp v)), .inl (0, 40, .inl (HVRk v)), .inl (0, 40, .inl (HVPa v))]) (st2 := [.int r3]) (c_X0_isNode _ _ hq2) ⟨rfl, rfl⟩ rfl k_X0_isNode l_X0_41 rfl rfl (fit_of hR (by decide) (by decide) (by decide) (by decide)) (Nat.le_of_ble_eq_true rfl) (by decide) rfl rfl rfl ?_
      refine r_if_eq X 42 rfl rfl (fun c5 => ?_) (fun c5 => ?_)
      · rw [if_pos c5] at h
        refine go_s 1 X (pc2 := 43) (st2 := [.int l2]) rfl ?_
        cases h
        exact r_iret X rfl rfl ⟨rfl, rfl⟩ (by decide) (by decide)
      · rw [if_neg c5] at h
        refine go_s 3 X (pc2 := 22) (st2 := [.int l3, .ref 4]) rfl ?_
        by_cases b6 : oob l3 40
        · rw [if_pos b6] at h; cases h
        rw [if_neg b6] at h
        refine r_iald X rfl rfl b6 ?_
        obtain ⟨r8, hq7, h⟩ := obind_inv h
        refine q_callS X [] [] (AH2 := [.inr (0, [.ref 1, .ref 2, .ref 3, .ref 4, .ref 5, .int (HVCm v), .int (HVSw v), .ref 6]), .inl (0, 40, .inl (HVPr v)), .inl (0, 40, .inl (HVLf v)), .inl (0, 40, .inl (HVRt v)), .inl (0, 40, .inl (HVUp v)), .inl (0, 40, .inl (HVRk v)), .inl (0, 40, .inl (HVPa v))]) (st2 := [.int r8]) (c_X0_isNode _ _ hq7) ⟨rfl, rfl⟩ rfl k_X0_isNode l_X0_41 rfl rfl (fit_of hR (by decide) (by decide) (by decide) (by decide)) (Nat.le_of_ble_eq_true rfl) (by decide) rfl rfl rfl ?_
        refine r_if_eq X 42 rfl rfl (fun c10 => ?_) (fun c10 => ?_)
        · rw [if_pos c10] at h
          refine go_s 1 X (pc2 := 43) (st2 := [.int l2]) rfl ?_
          cases h
          exact r_iret X rfl rfl ⟨rfl, rfl⟩ (by decide) (by decide)
        · rw [if_neg c10] at h
          refine go_s 3 X (pc2 := 34) (st2 := [.int l3, .ref 4]) rfl ?_
          by_cases b11 : oob l3 40
          · rw [if_pos b11] at h; cases h
          rw [if_neg b11] at h
          refine r_iald X rfl rfl b11 ?_
          refine go_l 3 X (pc2 := 4) (ls2 := [some (.ref 0), some (.int l1), some (.int (l2 + 1)), some (.int ((HVUp v) (Int32.toNatClampNeg l3)))]) (st2 := []) rfl ?_
          exact AW.eq (ih _ _ _ _ _ h) rfl rfl rfl rfl
set_option maxHeartbeats 6000000 in
set_option maxRecDepth 20000 in
theorem c_X0_ancestors (v : HV) (a : Int32) (r : Int32) (h : f_X0_ancestors v a = some r) : Sem z_X0_ancestors 1 0 0 [.ref 0, .int a] (WH v) (PST (.inl (some (.int r))) (WH v)) := by
  refine Sem.of zo_X0_ancestors (by decide +kernel) (Nat.le_of_ble_eq_true rfl) fun κ X hE hR hN => ?_
  unfold f_X0_ancestors at h
  refine AW.eq (pc' := 0) (ls' := [some (.ref 0), some (.int a), none, none]) (st' := []) (AH' := [.inr (0, [.ref 1, .ref 2, .ref 3, .ref 4, .ref 5, .int (HVCm v), .int (HVSw v), .ref 6]), .inl (0, 40, .inl (HVPr v)), .inl (0, 40, .inl (HVLf v)), .inl (0, 40, .inl (HVRt v)), .inl (0, 40, .inl (HVUp v)), .inl (0, 40, .inl (HVRk v)), .inl (0, 40, .inl (HVPa v))]) ?_ rfl rfl rfl rfl
  refine go_l 4 X (pc2 := 4) (ls2 := [some (.ref 0), some (.int a), some (.int 0), some (.int a)]) (st2 := []) rfl ?_
  exact AW.eq (a_X0_ancestors_h4 X hR FU _ _ _ _ _ h) rfl rfl rfl rfl
set_option maxHeartbeats 6000000 in
set_option maxRecDepth 20000 in
theorem c_X0_clearCounters (v : HV) (r : Unit) (w : HV) (h : f_X0_clearCounters v = some (r, w)) : Sem z_X0_clearCounters 0 0 0 [.ref 0] (WH v) (PST (.inl none) (WH w)) := by
  refine Sem.of zo_X0_clearCounters (by decide +kernel) (Nat.le_of_ble_eq_true rfl) fun κ X hE hR hN => ?_
  unfold f_X0_clearCounters at h
  refine AW.eq (pc' := 0) (ls' := [some (.ref 0)]) (st' := []) (AH' := [.inr (0, [.ref 1, .ref 2, .ref 3, .ref 4, .ref 5, .int (HVCm v), .int (HVSw v), .ref 6]), .inl (0, 40, .inl (HVPr v)), .inl (0, 40, .inl (HVLf v)), .inl (0, 40, .inl (HVRt v)), .inl (0, 40, .inl (HVUp v)), .inl (0, 40, .inl (HVRk v)), .inl (0, 40, .inl (HVPa v))]) ?_ rfl rfl rfl rfl
  refine go 6 X (pc2 := 10) (ls2 := [some (.ref 0)]) (st2 := []) (AH2 := [.inr (0, [.ref 1, .ref 2, .ref 3, .ref 4, .ref 5, .int 0, .int 0, .ref 6]), .inl (0, 40, .inl (HVPr v)), .inl (0, 40, .inl (HVLf v)), .inl (0, 40, .inl (HVRt v)), .inl (0, 40, .inl (HVUp v)), .inl (0, 40, .inl (HVRk v)), .inl (0, 40, .inl (HVPa v))]) rfl ?_
  cases h
  exact r_vret X rfl rfl ⟨rfl, rfl⟩ (by decide) (by decide)
set_option maxHeartbeats 6000000 in
set_option maxRecDepth 20000 in
theorem c_X0_comesBefore (v : HV) (a : Int32) (b : Int32) (c : Int32) (r : Int32) (h : f_X0_comesBefore v a b c = some r) : Sem z_X0_comesBefore 0 0 0 [.ref 0, .int a, .int b, .int c] (WH v) (PST (.inl (some (.int r))) (WH v)) := by
  refine Sem.of zo_X0_comesBefore (by decide +kernel) (Nat.le_of_ble_eq_true rfl) fun κ X hE hR hN => ?_
  unfold f_X0_comesBefore at h
  refine AW.eq (pc' := 0) (ls' := [some (.ref 0), some (.int a), some (.int b), some (.int c)]) (st' := []) (AH' := [.inr (0, [.ref 1, .ref 2, .ref 3, .ref 4, .ref 5, .int (HVCm v), .int (HVSw v), .ref 6]), .inl (0, 40, .inl (HVPr v)), .inl (0, 40, .inl (HVLf v)), .inl (0, 40, .inl (HVRt v)), .inl (0, 40, .inl (HVUp v)), .inl (0, 40, .inl (HVRk v)), .inl (0, 40, .inl (HVPa v))]) ?_ rfl rfl rfl rfl
  refine go_s 3 X (pc2 := 5) (st2 := [.int a, .ref 1]) rfl ?_
  by_cases b1 : oob a 40
  · rw [if_pos b1] at h; cases h
  rw [if_neg b1] at h
  refine r_iald X rfl rfl b1 ?_
  refine go_s 1 X (pc2 := 7) (st2 := [.int c, .int ((HVPr v) (Int32.toNatClampNeg a))]) rfl ?_
  refine r_icmp_lt X 25 rfl rfl (fun c2 => ?_) (fun c2 => ?_)
  · rw [if_pos c2] at h
    refine go_s 2 X (pc2 := 30) (st2 := [.int 1]) rfl ?_
    cases h
    exact r_zret X (ty := .boolean) rfl rfl rfl ⟨rfl, rfl⟩ (by decide) (by decide)
  · rw [if_neg c2] at h
    refine go_s 3 X (pc2 := 15) (st2 := [.int a, .ref 1]) rfl ?_
    by_cases b3 : oob a 40
    · rw [if_pos b3] at h; cases h
    rw [if_neg b3] at h
    refine r_iald X rfl rfl b3 ?_
    refine go_s 1 X (pc2 := 17) (st2 := [.int c, .int ((HVPr v) (Int32.toNatClampNeg a))]) rfl ?_
    refine r_icmp_ne X 29 rfl rfl (fun c4 => ?_) (fun c4 => ?_)
    · rw [if_neg c4] at h
      refine go_s 1 X (pc2 := 30) (st2 := [.int 0]) rfl ?_
      cases h
      exact r_zret X (ty := .boolean) rfl rfl rfl ⟨rfl, rfl⟩ (by decide) (by decide)
    · rw [if_pos c4] at h
      refine go_s 2 X (pc2 := 22) (st2 := [.int b, .int a]) rfl ?_
      refine r_icmp_ge X 29 rfl rfl (fun c5 => ?_) (fun c5 => ?_)
      · rw [if_pos c5] at h
        refine go_s 1 X (pc2 := 30) (st2 := [.int 0]) rfl ?_
        cases h
        exact r_zret X (ty := .boolean) rfl rfl rfl ⟨rfl, rfl⟩ (by decide) (by decide)
      · rw [if_neg c5] at h
        refine go_s 2 X (pc2 := 30) (st2 := [.int 1]) rfl ?_
        cases h
        exact r_zret X (ty := .boolean) rfl rfl rfl ⟨rfl, rfl⟩ (by decide) (by decide)
set_option maxHeartbeats 6000000 in
set_option maxRecDepth 20000 in
theorem c_X0_copyFrom (v : P_HV_HV) (r : Unit) (w : P_HV_HV) (h : f_X0_copyFrom v = some (r, w)) : Sem z_X0_copyFrom 2 0 0 [.ref 0, .ref 7] (WP_HV_HV v) (PST (.inl none) (WP_HV_HV w)) := by
  refine Sem.of zo_X0_copyFrom (by decide +kernel) (Nat.le_of_ble_eq_true rfl) fun κ X hE hR hN => ?_
  unfold f_X0_copyFrom at h
  refine AW.eq (pc' := 0) (ls' := [some (.ref 0), some (.ref 7)]) (st' := []) (AH' := [.inr (0, [.ref 1, .ref 2, .ref 3, .ref 4, .ref 5, .int (HVCm (P_HV_HVA v)), .int (HVSw (P_HV_HVA v)), .ref 6]), .inl (0, 40, .inl (HVPr (P_HV_HVA v))), .inl (0, 40, .inl (HVLf (P_HV_HVA v))), .inl (0, 40, .inl (HVRt (P_HV_HVA v))), .inl (0, 40, .inl (HVUp (P_HV_HVA v))), .inl (0, 40, .inl (HVRk (P_HV_HVA v))), .inl (0, 40, .inl (HVPa (P_HV_HVA v))), .inr (0, [.ref 8, .ref 9, .ref 10, .ref 11, .ref 12, .int (HVCm (P_HV_HVB v)), .int (HVSw (P_HV_HVB v)), .ref 13]), .inl (0, 40, .inl (HVPr (P_HV_HVB v))), .inl (0, 40, .inl (HVLf (P_HV_HVB v))), .inl (0, 40, .inl (HVRt (P_HV_HVB v))), .inl (0, 40, .inl (HVUp (P_HV_HVB v))), .inl (0, 40, .inl (HVRk (P_HV_HVB v))), .inl (0, 40, .inl (HVPa (P_HV_HVB v)))]) ?_ rfl rfl rfl rfl
  refine go_s 4 X (pc2 := 8) (st2 := [.ref 1, .ref 8]) rfl ?_
  refine q_callS X [8, 1] [] (AH2 := [.inr (0, [.ref 1, .ref 2, .ref 3, .ref 4, .ref 5, .int (HVCm (P_HV_HVA v)), .int (HVSw (P_HV_HVA v)), .ref 6]), .inl (0, 40, .inl (va_cpy (HVPr (P_HV_HVB v)) (HVPr (P_HV_HVA v)) 0 0 40)), .inl (0, 40, .inl (HVLf (P_HV_HVA v))), .inl (0, 40, .inl (HVRt (P_HV_HVA v))), .inl (0, 40, .inl (HVUp (P_HV_HVA v))), .inl (0, 40, .inl (HVRk (P_HV_HVA v))), .inl (0, 40, .inl (HVPa (P_HV_HVA v))), .inr (0, [.ref 8, .ref 9, .ref 10, .ref 11, .ref 12, .int (HVCm (P_HV_HVB v)), .int (HVSw (P_HV_HVB v)), .ref 13]), .inl (0, 40, .inl (HVPr (P_HV_HVB v))), .inl (0, 40, .inl (HVLf (P_HV_HVB v))), .inl (0, 40, .inl (HVRt (P_HV_HVB v))), .inl (0, 40, .inl (HVUp (P_HV_HVB v))), .inl (0, 40, .inl (HVRk (P_HV_HVB v))), .inl (0, 40, .inl (HVPa (P_HV_HVB v)))]) (st2 := []) (c_copyRow 40 (HVPr (P_HV_HVB v)) (HVPr (P_HV_HVA v)) (by decide)) ⟨rfl, rfl⟩ rfl k_X8_copyRow l_X0_37 rfl rfl (fit_of hR (by decide) (by decide) (by decide) (by decide)) (Nat.le_of_ble_eq_true rfl) (by decide) rfl rfl rfl ?_
  refine go_s 4 X (pc2 := 19) (st2 := [.ref 2, .ref 9]) rfl ?_
  refine q_callS X [9, 2] [] (AH2 := [.inr (0, [.ref 1, .ref 2, .ref 3, .ref 4, .ref 5, .int (HVCm (P_HV_HVA v)), .int (HVSw (P_HV_HVA v)), .ref 6]), .inl (0, 40, .inl (va_cpy (HVPr (P_HV_HVB v)) (HVPr (P_HV_HVA v)) 0 0 40)), .inl (0, 40, .inl (va_cpy (HVLf (P_HV_HVB v)) (HVLf (P_HV_HVA v)) 0 0 40)), .inl (0, 40, .inl (HVRt (P_HV_HVA v))), .inl (0, 40, .inl (HVUp (P_HV_HVA v))), .inl (0, 40, .inl (HVRk (P_HV_HVA v))), .inl (0, 40, .inl (HVPa (P_HV_HVA v))), .inr (0, [.ref 8, .ref 9, .ref 10, .ref 11, .ref 12, .int (HVCm (P_HV_HVB v)), .int (HVSw (P_HV_HVB v)), .ref 13]), .inl (0, 40, .inl (HVPr (P_HV_HVB v))), .inl (0, 40, .inl (HVLf (P_HV_HVB v))), .inl (0, 40, .inl (HVRt (P_HV_HVB v))), .inl (0, 40, .inl (HVUp (P_HV_HVB v))), .inl (0, 40, .inl (HVRk (P_HV_HVB v))), .inl (0, 40, .inl (HVPa (P_HV_HVB v)))]) (st2 := []) (c_copyRow 40 (HVLf (P_HV_HVB v)) (HVLf (P_HV_HVA v)) (by decide)) ⟨rfl, rfl⟩ rfl k_X8_copyRow l_X0_37 rfl rfl (fit_of hR (by decide) (by decide) (by decide) (by decide)) (Nat.le_of_ble_eq_true rfl) (by decide) rfl rfl rfl ?_
  refine go_s 4 X (pc2 := 30) (st2 := [.ref 3, .ref 10]) rfl ?_
  refine q_callS X [10, 3] [] (AH2 := [.inr (0, [.ref 1, .ref 2, .ref 3, .ref 4, .ref 5, .int (HVCm (P_HV_HVA v)), .int (HVSw (P_HV_HVA v)), .ref 6]), .inl (0, 40, .inl (va_cpy (HVPr (P_HV_HVB v)) (HVPr (P_HV_HVA v)) 0 0 40)), .inl (0, 40, .inl (va_cpy (HVLf (P_HV_HVB v)) (HVLf (P_HV_HVA v)) 0 0 40)), .inl (0, 40, .inl (va_cpy (HVRt (P_HV_HVB v)) (HVRt (P_HV_HVA v)) 0 0 40)), .inl (0, 40, .inl (HVUp (P_HV_HVA v))), .inl (0, 40, .inl (HVRk (P_HV_HVA v))), .inl (0, 40, .inl (HVPa (P_HV_HVA v))), .inr (0, [.ref 8, .ref 9, .ref 10, .ref 11, .ref 12, .int (HVCm (P_HV_HVB v)), .int (HVSw (P_HV_HVB v)), .ref 13]), .inl (0, 40, .inl (HVPr (P_HV_HVB v))), .inl (0, 40, .inl (HVLf (P_HV_HVB v))), .inl (0, 40, .inl (HVRt (P_HV_HVB v))), .inl (0, 40, .inl (HVUp (P_HV_HVB v))), .inl (0, 40, .inl (HVRk (P_HV_HVB v))), .inl (0, 40, .inl (HVPa (P_HV_HVB v)))]) (st2 := []) (c_copyRow 40 (HVRt (P_HV_HVB v)) (HVRt (P_HV_HVA v)) (by decide)) ⟨rfl, rfl⟩ rfl k_X8_copyRow l_X0_37 rfl rfl (fit_of hR (by decide) (by decide) (by decide) (by decide)) (Nat.le_of_ble_eq_true rfl) (by decide) rfl rfl rfl ?_
  refine go_s 4 X (pc2 := 41) (st2 := [.ref 4, .ref 11]) rfl ?_
  refine q_callS X [11, 4] [] (AH2 := [.inr (0, [.ref 1, .ref 2, .ref 3, .ref 4, .ref 5, .int (HVCm (P_HV_HVA v)), .int (HVSw (P_HV_HVA v)), .ref 6]), .inl (0, 40, .inl (va_cpy (HVPr (P_HV_HVB v)) (HVPr (P_HV_HVA v)) 0 0 40)), .inl (0, 40, .inl (va_cpy (HVLf (P_HV_HVB v)) (HVLf (P_HV_HVA v)) 0 0 40)), .inl (0, 40, .inl (va_cpy (HVRt (P_HV_HVB v)) (HVRt (P_HV_HVA v)) 0 0 40)), .inl (0, 40, .inl (va_cpy (HVUp (P_HV_HVB v)) (HVUp (P_HV_HVA v)) 0 0 40)), .inl (0, 40, .inl (HVRk (P_HV_HVA v))), .inl (0, 40, .inl (HVPa (P_HV_HVA v))), .inr (0, [.ref 8, .ref 9, .ref 10, .ref 11, .ref 12, .int (HVCm (P_HV_HVB v)), .int (HVSw (P_HV_HVB v)), .ref 13]), .inl (0, 40, .inl (HVPr (P_HV_HVB v))), .inl (0, 40, .inl (HVLf (P_HV_HVB v))), .inl (0, 40, .inl (HVRt (P_HV_HVB v))), .inl (0, 40, .inl (HVUp (P_HV_HVB v))), .inl (0, 40, .inl (HVRk (P_HV_HVB v))), .inl (0, 40, .inl (HVPa (P_HV_HVB v)))]) (st2 := []) (c_copyRow 40 (HVUp (P_HV_HVB v)) (HVUp (P_HV_HVA v)) (by decide)) ⟨rfl, rfl⟩ rfl k_X8_copyRow l_X0_37 rfl rfl (fit_of hR (by decide) (by decide) (by decide) (by decide)) (Nat.le_of_ble_eq_true rfl) (by decide) rfl rfl rfl ?_
  refine go_s 4 X (pc2 := 52) (st2 := [.ref 5, .ref 12]) rfl ?_
  refine q_callS X [12, 5] [] (AH2 := [.inr (0, [.ref 1, .ref 2, .ref 3, .ref 4, .ref 5, .int (HVCm (P_HV_HVA v)), .int (HVSw (P_HV_HVA v)), .ref 6]), .inl (0, 40, .inl (va_cpy (HVPr (P_HV_HVB v)) (HVPr (P_HV_HVA v)) 0 0 40)), .inl (0, 40, .inl (va_cpy (HVLf (P_HV_HVB v)) (HVLf (P_HV_HVA v)) 0 0 40)), .inl (0, 40, .inl (va_cpy (HVRt (P_HV_HVB v)) (HVRt (P_HV_HVA v)) 0 0 40)), .inl (0, 40, .inl (va_cpy (HVUp (P_HV_HVB v)) (HVUp (P_HV_HVA v)) 0 0 40)), .inl (0, 40, .inl (va_cpy (HVRk (P_HV_HVB v)) (HVRk (P_HV_HVA v)) 0 0 40)), .inl (0, 40, .inl (HVPa (P_HV_HVA v))), .inr (0, [.ref 8, .ref 9, .ref 10, .ref 11, .ref 12, .int (HVCm (P_HV_HVB v)), .int (HVSw (P_HV_HVB v)), .ref 13]), .inl (0, 40, .inl (HVPr (P_HV_HVB v))), .inl (0, 40, .inl (HVLf (P_HV_HVB v))), .inl (0, 40, .inl (HVRt (P_HV_HVB v))), .inl (0, 40, .inl (HVUp (P_HV_HVB v))), .inl (0, 40, .inl (HVRk (P_HV_HVB v))), .inl (0, 40, .inl (HVPa (P_HV_HVB v)))]) (st2 := []) (c_copyRow 40 (HVRk (P_HV_HVB v)) (HVRk (P_HV_HVA v)) (by decide)) ⟨rfl, rfl⟩ rfl k_X8_copyRow l_X0_37 rfl rfl (fit_of hR (by decide) (by decide) (by decide) (by decide)) (Nat.le_of_ble_eq_true rfl) (by decide) rfl rfl rfl ?_
  refine go 8 X (pc2 := 71) (ls2 := [some (.ref 0), some (.ref 7)]) (st2 := []) (AH2 := [.inr (0, [.ref 1, .ref 2, .ref 3, .ref 4, .ref 5, .int (HVCm (P_HV_HVB v)), .int (HVSw (P_HV_HVB v)), .ref 6]), .inl (0, 40, .inl (va_cpy (HVPr (P_HV_HVB v)) (HVPr (P_HV_HVA v)) 0 0 40)), .inl (0, 40, .inl (va_cpy (HVLf (P_HV_HVB v)) (HVLf (P_HV_HVA v)) 0 0 40)), .inl (0, 40, .inl (va_cpy (HVRt (P_HV_HVB v)) (HVRt (P_HV_HVA v)) 0 0 40)), .inl (0, 40, .inl (va_cpy (HVUp (P_HV_HVB v)) (HVUp (P_HV_HVA v)) 0 0 40)), .inl (0, 40, .inl (va_cpy (HVRk (P_HV_HVB v)) (HVRk (P_HV_HVA v)) 0 0 40)), .inl (0, 40, .inl (HVPa (P_HV_HVA v))), .inr (0, [.ref 8, .ref 9, .ref 10, .ref 11, .ref 12, .int (HVCm (P_HV_HVB v)), .int (HVSw (P_HV_HVB v)), .ref 13]), .inl (0, 40, .inl (HVPr (P_HV_HVB v))), .inl (0, 40, .inl (HVLf (P_HV_HVB v))), .inl (0, 40, .inl (HVRt (P_HV_HVB v))), .inl (0, 40, .inl (HVUp (P_HV_HVB v))), .inl (0, 40, .inl (HVRk (P_HV_HVB v))), .inl (0, 40, .inl (HVPa (P_HV_HVB v)))]) rfl ?_
  cases h
  exact r_vret X rfl rfl ⟨rfl, rfl⟩ (by decide) (by decide)
set_option maxHeartbeats 6000000 in
set_option maxRecDepth 20000 in
theorem c_X0_isChildOf (v : HV) (a : Int32) (b : Int32) (r : Int32) (h : f_X0_isChildOf v a b = some r) : Sem z_X0_isChildOf 1 0 0 [.ref 0, .int a, .int b] (WH v) (PST (.inl (some (.int r))) (WH v)) := by
  refine Sem.of zo_X0_isChildOf (by decide +kernel) (Nat.le_of_ble_eq_true rfl) fun κ X hE hR hN => ?_
  unfold f_X0_isChildOf at h
  refine AW.eq (pc' := 0) (ls' := [some (.ref 0), some (.int a), some (.int b)]) (st' := []) (AH' := [.inr (0, [.ref 1, .ref 2, .ref 3, .ref 4, .ref 5, .int (HVCm v), .int (HVSw v), .ref 6]), .inl (0, 40, .inl (HVPr v)), .inl (0, 40, .inl (HVLf v)), .inl (0, 40, .inl (HVRt v)), .inl (0, 40, .inl (HVUp v)), .inl (0, 40, .inl (HVRk v)), .inl (0, 40, .inl (HVPa v))]) ?_ rfl rfl rfl rfl
  refine go_s 1 X (pc2 := 1) (st2 := [.int a]) rfl ?_
  obtain ⟨r2, hq1, h⟩ := obind_inv h
  refine q_callS X [] [] (AH2 := [.inr (0, [.ref 1, .ref 2, .ref 3, .ref 4, .ref 5, .int (HVCm v), .int (HVSw v), .ref 6]), .inl (0, 40, .inl (HVPr v)), .inl (0, 40, .inl (HVLf v)), .inl (0, 40, .inl (HVRt v)), .inl (0, 40, .inl (HVUp v)), .inl (0, 40, .inl (HVRk v)), .inl (0, 40, .inl (HVPa v))]) (st2 := [.int r2]) (c_X0_isNode _ _ hq1) ⟨rfl, rfl⟩ rfl k_X0_isNode l_X0_41 rfl rfl (fit_of hR (by decide) (by decide) (by decide) (by decide)) (Nat.le_of_ble_eq_true rfl) (by decide) rfl rfl rfl ?_
  refine r_if_eq X 17 rfl rfl (fun c4 => ?_) (fun c4 => ?_)
  · rw [if_pos c4] at h
    refine go_s 2 X (pc2 := 22) (st2 := [.int 1]) rfl ?_
    cases h
    exact r_zret X (ty := .boolean) rfl rfl rfl ⟨rfl, rfl⟩ (by decide) (by decide)
  · rw [if_neg c4] at h
    refine go_s 3 X (pc2 := 12) (st2 := [.int a, .ref 4]) rfl ?_
    by_cases b5 : oob a 40
    · rw [if_pos b5] at h; cases h
    rw [if_neg b5] at h
    refine r_iald X rfl rfl b5 ?_
    refine go_s 1 X (pc2 := 14) (st2 := [.int b, .int ((HVUp v) (Int32.toNatClampNeg a))]) rfl ?_
    refine r_icmp_ne X 21 rfl rfl (fun c6 => ?_) (fun c6 => ?_)
    · rw [if_neg c6] at h
      refine go_s 1 X (pc2 := 22) (st2 := [.int 0]) rfl ?_
      cases h
      exact r_zret X (ty := .boolean) rfl rfl rfl ⟨rfl, rfl⟩ (by decide) (by decide)
    · rw [if_pos c6] at h
      refine go_s 2 X (pc2 := 22) (st2 := [.int 1]) rfl ?_
      cases h
      exact r_zret X (ty := .boolean) rfl rfl rfl ⟨rfl, rfl⟩ (by decide) (by decide)
set_option maxHeartbeats 6000000 in
set_option maxRecDepth 20000 in
theorem c_X0_isOutside (v : HV) (a : Int32) (r : Int32) (h : f_X0_isOutside v a = some r) : Sem z_X0_isOutside 1 0 0 [.ref 0, .int a] (WH v) (PST (.inl (some (.int r))) (WH v)) := by
  refine Sem.of zo_X0_isOutside (by decide +kernel) (Nat.le_of_ble_eq_true rfl) fun κ X hE hR hN => ?_
  unfold f_X0_isOutside at h
  refine AW.eq (pc' := 0) (ls' := [some (.ref 0), some (.int a)]) (st' := []) (AH' := [.inr (0, [.ref 1, .ref 2, .ref 3, .ref 4, .ref 5, .int (HVCm v), .int (HVSw v), .ref 6]), .inl (0, 40, .inl (HVPr v)), .inl (0, 40, .inl (HVLf v)), .inl (0, 40, .inl (HVRt v)), .inl (0, 40, .inl (HVUp v)), .inl (0, 40, .inl (HVRk v)), .inl (0, 40, .inl (HVPa v))]) ?_ rfl rfl rfl rfl
  refine go_s 1 X (pc2 := 1) (st2 := [.int a]) rfl ?_
  obtain ⟨r2, hq1, h⟩ := obind_inv h
  refine q_callS X [] [] (AH2 := [.inr (0, [.ref 1, .ref 2, .ref 3, .ref 4, .ref 5, .int (HVCm v), .int (HVSw v), .ref 6]), .inl (0, 40, .inl (HVPr v)), .inl (0, 40, .inl (HVLf v)), .inl (0, 40, .inl (HVRt v)), .inl (0, 40, .inl (HVUp v)), .inl (0, 40, .inl (HVRk v)), .inl (0, 40, .inl (HVPa v))]) (st2 := [.int r2]) (c_X0_isNode _ _ hq1) ⟨rfl, rfl⟩ rfl k_X0_isNode l_X0_41 rfl rfl (fit_of hR (by decide) (by decide) (by decide) (by decide)) (Nat.le_of_ble_eq_true rfl) (by decide) rfl rfl rfl ?_
  refine r_if_eq X 50 rfl rfl (fun c4 => ?_) (fun c4 => ?_)
  · rw [if_pos c4] at h
    refine go_s 1 X (pc2 := 51) (st2 := [.int 0]) rfl ?_
    cases h
    exact r_zret X (ty := .boolean) rfl rfl rfl ⟨rfl, rfl⟩ (by decide) (by decide)
  · rw [if_neg c4] at h
    refine go_s 3 X (pc2 := 12) (st2 := [.int a, .ref 2]) rfl ?_
    by_cases b5 : oob a 40
    · rw [if_pos b5] at h; cases h
    rw [if_neg b5] at h
    refine r_iald X rfl rfl b5 ?_
    refine go_s 1 X (pc2 := 14) (st2 := [.int (-1), .int ((HVLf v) (Int32.toNatClampNeg a))]) rfl ?_
    refine r_icmp_ne X 50 rfl rfl (fun c6 => ?_) (fun c6 => ?_)
    · rw [if_neg c6] at h
      refine go_s 1 X (pc2 := 51) (st2 := [.int 0]) rfl ?_
      cases h
      exact r_zret X (ty := .boolean) rfl rfl rfl ⟨rfl, rfl⟩ (by decide) (by decide)
    · rw [if_pos c6] at h
      refine go_s 3 X (pc2 := 22) (st2 := [.int a, .ref 3]) rfl ?_
      by_cases b7 : oob a 40
      · rw [if_pos b7] at h; cases h
      rw [if_neg b7] at h
      refine r_iald X rfl rfl b7 ?_
      refine go_s 1 X (pc2 := 24) (st2 := [.int (-1), .int ((HVRt v) (Int32.toNatClampNeg a))]) rfl ?_
      refine r_icmp_ne X 50 rfl rfl (fun c8 => ?_) (fun c8 => ?_)
      · rw [if_neg c8] at h
        refine go_s 1 X (pc2 := 51) (st2 := [.int 0]) rfl ?_
        cases h
        exact r_zret X (ty := .boolean) rfl rfl rfl ⟨rfl, rfl⟩ (by decide) (by decide)
      · rw [if_pos c8] at h
        refine go_s 3 X (pc2 := 32) (st2 := [.int a, .ref 4]) rfl ?_
        by_cases b9 : oob a 40
        · rw [if_pos b9] at h; cases h
        rw [if_neg b9] at h
        refine r_iald X rfl rfl b9 ?_
        refine go_s 1 X (pc2 := 34) (st2 := [.int (-1), .int ((HVUp v) (Int32.toNatClampNeg a))]) rfl ?_
        refine r_icmp_ne X 50 rfl rfl (fun c10 => ?_) (fun c10 => ?_)
        · rw [if_neg c10] at h
          refine go_s 1 X (pc2 := 51) (st2 := [.int 0]) rfl ?_
          cases h
          exact r_zret X (ty := .boolean) rfl rfl rfl ⟨rfl, rfl⟩ (by decide) (by decide)
        · rw [if_pos c10] at h
          refine go_s 3 X (pc2 := 42) (st2 := [.int a, .ref 5]) rfl ?_
          by_cases b11 : oob a 40
          · rw [if_pos b11] at h; cases h
          rw [if_neg b11] at h
          refine r_iald X rfl rfl b11 ?_
          refine r_if_ne X 50 rfl rfl (fun c12 => ?_) (fun c12 => ?_)
          · rw [if_neg c12] at h
            refine go_s 1 X (pc2 := 51) (st2 := [.int 0]) rfl ?_
            cases h
            exact r_zret X (ty := .boolean) rfl rfl rfl ⟨rfl, rfl⟩ (by decide) (by decide)
          · rw [if_pos c12] at h
            refine go_s 2 X (pc2 := 51) (st2 := [.int 1]) rfl ?_
            cases h
            exact r_zret X (ty := .boolean) rfl rfl rfl ⟨rfl, rfl⟩ (by decide) (by decide)
set_option maxHeartbeats 6000000 in
set_option maxRecDepth 20000 in
theorem c_X0_precedes (v : HV) (a : Int32) (b : Int32) (r : Int32) (h : f_X0_precedes v a b = some r) : Sem z_X0_precedes 1 0 0 [.ref 0, .int a, .int b] (WH v) (PST (.inl (some (.int r))) (WH v)) := by
  refine Sem.of zo_X0_precedes (by decide +kernel) (Nat.le_of_ble_eq_true rfl) fun κ X hE hR hN => ?_
  unfold f_X0_precedes at h
  refine AW.eq (pc' := 0) (ls' := [some (.ref 0), some (.int a), some (.int b)]) (st' := []) (AH' := [.inr (0, [.ref 1, .ref 2, .ref 3, .ref 4, .ref 5, .int (HVCm v), .int (HVSw v), .ref 6]), .inl (0, 40, .inl (HVPr v)), .inl (0, 40, .inl (HVLf v)), .inl (0, 40, .inl (HVRt v)), .inl (0, 40, .inl (HVUp v)), .inl (0, 40, .inl (HVRk v)), .inl (0, 40, .inl (HVPa v))]) ?_ rfl rfl rfl rfl
  refine go_s 1 X (pc2 := 1) (st2 := [.int a]) rfl ?_
  obtain ⟨r2, hq1, h⟩ := obind_inv h
  refine q_callS X [] [] (AH2 := [.inr (0, [.ref 1, .ref 2, .ref 3, .ref 4, .ref 5, .int (HVCm v), .int (HVSw v), .ref 6]), .inl (0, 40, .inl (HVPr v)), .inl (0, 40, .inl (HVLf v)), .inl (0, 40, .inl (HVRt v)), .inl (0, 40, .inl (HVUp v)), .inl (0, 40, .inl (HVRk v)), .inl (0, 40, .inl (HVPa v))]) (st2 := [.int r2]) (c_X0_isNode _ _ hq1) ⟨rfl, rfl⟩ rfl k_X0_isNode l_X0_41 rfl rfl (fit_of hR (by decide) (by decide) (by decide) (by decide)) (Nat.le_of_ble_eq_true rfl) (by decide) rfl rfl rfl ?_
  refine r_if_eq X 14 rfl rfl (fun c4 => ?_) (fun c4 => ?_)
  · rw [if_pos c4] at h
    refine go_s 1 X (pc2 := 15) (st2 := [.int 0]) rfl ?_
    cases h
    exact r_zret X (ty := .boolean) rfl rfl rfl ⟨rfl, rfl⟩ (by decide) (by decide)
  · rw [if_neg c4] at h
    refine go_s 1 X (pc2 := 8) (st2 := [.int b]) rfl ?_
    obtain ⟨r6, hq5, h⟩ := obind_inv h
    refine q_callS X [] [] (AH2 := [.inr (0, [.ref 1, .ref 2, .ref 3, .ref 4, .ref 5, .int (HVCm v), .int (HVSw v), .ref 6]), .inl (0, 40, .inl (HVPr v)), .inl (0, 40, .inl (HVLf v)), .inl (0, 40, .inl (HVRt v)), .inl (0, 40, .inl (HVUp v)), .inl (0, 40, .inl (HVRk v)), .inl (0, 40, .inl (HVPa v))]) (st2 := [.int r6]) (c_X0_isNode _ _ hq5) ⟨rfl, rfl⟩ rfl k_X0_isNode l_X0_41 rfl rfl (fit_of hR (by decide) (by decide) (by decide) (by decide)) (Nat.le_of_ble_eq_true rfl) (by decide) rfl rfl rfl ?_
    refine r_if_ne X 16 rfl rfl (fun c8 => ?_) (fun c8 => ?_)
    · rw [if_neg c8] at h
      refine go_s 6 X (pc2 := 24) (st2 := [.int b, .ref 1, .int b, .int a, .ref 0]) rfl ?_
      by_cases b9 : oob b 40
      · rw [if_pos b9] at h; cases h
      rw [if_neg b9] at h
      refine r_iald X rfl rfl b9 ?_
      obtain ⟨r11, hq10, h⟩ := obind_inv h
      refine q_callV X [0, 1, 2, 3, 4, 5, 6] [] (AH2 := [.inr (0, [.ref 1, .ref 2, .ref 3, .ref 4, .ref 5, .int (HVCm v), .int (HVSw v), .ref 6]), .inl (0, 40, .inl (HVPr v)), .inl (0, 40, .inl (HVLf v)), .inl (0, 40, .inl (HVRt v)), .inl (0, 40, .inl (HVUp v)), .inl (0, 40, .inl (HVRk v)), .inl (0, 40, .inl (HVPa v))]) (st2 := [.int r11]) (c_X0_comesBefore _ _ _ _ _ hq10) ⟨rfl, rfl⟩ rfl k_X0_comesBefore l_X0_45 rfl rfl rfl rfl rfl (fit_of hR (by decide) (by decide) (by decide) (by decide)) (Nat.le_of_ble_eq_true rfl) (by decide) rfl rfl rfl ?_
      by_cases b13 : ¬ (r11 = 0 ∨ r11 = 1)
      · rw [if_pos b13] at h; cases h
      rw [if_neg b13] at h
      cases h
      exact r_zret X (ty := .boolean) rfl rfl (nar_b b13) ⟨rfl, rfl⟩ (by decide) (by decide)
    · rw [if_pos c8] at h
      refine go_s 1 X (pc2 := 15) (st2 := [.int 0]) rfl ?_
      cases h
      exact r_zret X (ty := .boolean) rfl rfl rfl ⟨rfl, rfl⟩ (by decide) (by decide)
set_option maxHeartbeats 6000000 in
set_option maxRecDepth 20000 in
theorem c_X0_rankOf (v : HV) (a : Int32) (r : Int32) (h : f_X0_rankOf v a = some r) : Sem z_X0_rankOf 0 0 0 [.ref 0, .int a] (WH v) (PST (.inl (some (.int r))) (WH v)) := by
  refine Sem.of zo_X0_rankOf (by decide +kernel) (Nat.le_of_ble_eq_true rfl) fun κ X hE hR hN => ?_
  unfold f_X0_rankOf at h
  refine AW.eq (pc' := 0) (ls' := [some (.ref 0), some (.int a)]) (st' := []) (AH' := [.inr (0, [.ref 1, .ref 2, .ref 3, .ref 4, .ref 5, .int (HVCm v), .int (HVSw v), .ref 6]), .inl (0, 40, .inl (HVPr v)), .inl (0, 40, .inl (HVLf v)), .inl (0, 40, .inl (HVRt v)), .inl (0, 40, .inl (HVUp v)), .inl (0, 40, .inl (HVRk v)), .inl (0, 40, .inl (HVPa v))]) ?_ rfl rfl rfl rfl
  refine go_s 1 X (pc2 := 1) (st2 := [.int a]) rfl ?_
  refine r_if_lt X 19 rfl rfl (fun c1 => ?_) (fun c1 => ?_)
  · rw [if_pos c1] at h
    refine go_s 1 X (pc2 := 20) (st2 := [.int 0]) rfl ?_
    cases h
    exact r_iret X rfl rfl ⟨rfl, rfl⟩ (by decide) (by decide)
  · rw [if_neg c1] at h
    refine go_s 2 X (pc2 := 7) (st2 := [.int 40, .int a]) rfl ?_
    refine r_icmp_ge X 19 rfl rfl (fun c2 => ?_) (fun c2 => ?_)
    · rw [if_pos c2] at h
      refine go_s 1 X (pc2 := 20) (st2 := [.int 0]) rfl ?_
      cases h
      exact r_iret X rfl rfl ⟨rfl, rfl⟩ (by decide) (by decide)
    · rw [if_neg c2] at h
      refine go_s 3 X (pc2 := 15) (st2 := [.int a, .ref 5]) rfl ?_
      by_cases b3 : oob a 40
      · rw [if_pos b3] at h; cases h
      rw [if_neg b3] at h
      refine r_iald X rfl rfl b3 ?_
      refine go_s 1 X (pc2 := 20) (st2 := [.int ((HVRk v) (Int32.toNatClampNeg a))]) rfl ?_
      cases h
      exact r_iret X rfl rfl ⟨rfl, rfl⟩ (by decide) (by decide)
set_option maxHeartbeats 6000000 in
set_option maxRecDepth 20000 in
theorem c_X0_isSound (v : HV) (a : Int32) (r : Int32) (h : f_X0_isSound v a = some r) : Sem z_X0_isSound 2 0 0 [.ref 0, .int a] (WH v) (PST (.inl (some (.int r))) (WH v)) := by
  refine Sem.of zo_X0_isSound (by decide +kernel) (Nat.le_of_ble_eq_true rfl) fun κ X hE hR hN => ?_
  unfold f_X0_isSound at h
  refine AW.eq (pc' := 0) (ls' := [some (.ref 0), some (.int a)]) (st' := []) (AH' := [.inr (0, [.ref 1, .ref 2, .ref 3, .ref 4, .ref 5, .int (HVCm v), .int (HVSw v), .ref 6]), .inl (0, 40, .inl (HVPr v)), .inl (0, 40, .inl (HVLf v)), .inl (0, 40, .inl (HVRt v)), .inl (0, 40, .inl (HVUp v)), .inl (0, 40, .inl (HVRk v)), .inl (0, 40, .inl (HVPa v))]) ?_ rfl rfl rfl rfl
  refine go_s 1 X (pc2 := 1) (st2 := [.int a]) rfl ?_
  obtain ⟨r2, hq1, h⟩ := obind_inv h
  refine q_callS X [] [] (AH2 := [.inr (0, [.ref 1, .ref 2, .ref 3, .ref 4, .ref 5, .int (HVCm v), .int (HVSw v), .ref 6]), .inl (0, 40, .inl (HVPr v)), .inl (0, 40, .inl (HVLf v)), .inl (0, 40, .inl (HVRt v)), .inl (0, 40, .inl (HVUp v)), .inl (0, 40, .inl (HVRk v)), .inl (0, 40, .inl (HVPa v))]) (st2 := [.int r2]) (c_X0_isNode _ _ hq1) ⟨rfl, rfl⟩ rfl k_X0_isNode l_X0_41 rfl rfl (fit_of hR (by decide) (by decide) (by decide) (by decide)) (Nat.le_of_ble_eq_true rfl) (by decide) rfl rfl rfl ?_
  refine r_if_eq X 21 rfl rfl (fun c4 => ?_) (fun c4 => ?_)
  · rw [if_pos c4] at h
    refine go_s 1 X (pc2 := 22) (st2 := [.int 0]) rfl ?_
    cases h
    exact r_zret X (ty := .boolean) rfl rfl rfl ⟨rfl, rfl⟩ (by decide) (by decide)
  · rw [if_neg c4] at h
    refine go_s 5 X (pc2 := 14) (st2 := [.int a, .ref 4, .int a, .ref 0]) rfl ?_
    by_cases b5 : oob a 40
    · rw [if_pos b5] at h; cases h
    rw [if_neg b5] at h
    refine r_iald X rfl rfl b5 ?_
    obtain ⟨r7, hq6, h⟩ := obind_inv h
    refine q_callV X [0, 1, 2, 3, 4, 5, 6] [] (AH2 := [.inr (0, [.ref 1, .ref 2, .ref 3, .ref 4, .ref 5, .int (HVCm v), .int (HVSw v), .ref 6]), .inl (0, 40, .inl (HVPr v)), .inl (0, 40, .inl (HVLf v)), .inl (0, 40, .inl (HVRt v)), .inl (0, 40, .inl (HVUp v)), .inl (0, 40, .inl (HVRk v)), .inl (0, 40, .inl (HVPa v))]) (st2 := [.int r7]) (c_X0_precedes _ _ _ _ hq6) ⟨rfl, rfl⟩ rfl k_X0_precedes l_X0_53 rfl rfl rfl rfl rfl (fit_of hR (by decide) (by decide) (by decide) (by decide)) (Nat.le_of_ble_eq_true rfl) (by decide) rfl rfl rfl ?_
    refine r_if_eq X 23 rfl rfl (fun c9 => ?_) (fun c9 => ?_)
    · rw [if_pos c9] at h
      refine go_s 4 X (pc2 := 29) (st2 := [.int a, .ref 2, .ref 0]) rfl ?_
      by_cases b10 : oob a 40
      · rw [if_pos b10] at h; cases h
      rw [if_neg b10] at h
      refine r_iald X rfl rfl b10 ?_
      refine go_s 1 X (pc2 := 31) (st2 := [.int a, .int ((HVLf v) (Int32.toNatClampNeg a)), .ref 0]) rfl ?_
      obtain ⟨r12, hq11, h⟩ := obind_inv h
      refine q_callV X [0, 1, 2, 3, 4, 5, 6] [] (AH2 := [.inr (0, [.ref 1, .ref 2, .ref 3, .ref 4, .ref 5, .int (HVCm v), .int (HVSw v), .ref 6]), .inl (0, 40, .inl (HVPr v)), .inl (0, 40, .inl (HVLf v)), .inl (0, 40, .inl (HVRt v)), .inl (0, 40, .inl (HVUp v)), .inl (0, 40, .inl (HVRk v)), .inl (0, 40, .inl (HVPa v))]) (st2 := [.int r12]) (c_X0_isChildOf _ _ _ _ hq11) ⟨rfl, rfl⟩ rfl k_X0_isChildOf l_X0_77 rfl rfl rfl rfl rfl (fit_of hR (by decide) (by decide) (by decide) (by decide)) (Nat.le_of_ble_eq_true rfl) (by decide) rfl rfl rfl ?_
      refine r_if_eq X 141 rfl rfl (fun c14 => ?_) (fun c14 => ?_)
      · rw [if_pos c14] at h
        refine go_s 1 X (pc2 := 142) (st2 := [.int 0]) rfl ?_
        cases h
        exact r_zret X (ty := .boolean) rfl rfl rfl ⟨rfl, rfl⟩ (by decide) (by decide)
      · rw [if_neg c14] at h
        refine go_s 4 X (pc2 := 43) (st2 := [.int a, .ref 3, .ref 0]) rfl ?_
        by_cases b15 : oob a 40
        · rw [if_pos b15] at h; cases h
        rw [if_neg b15] at h
        refine r_iald X rfl rfl b15 ?_
        refine go_s 1 X (pc2 := 45) (st2 := [.int a, .int ((HVRt v) (Int32.toNatClampNeg a)), .ref 0]) rfl ?_
        obtain ⟨r17, hq16, h⟩ := obind_inv h
        refine q_callV X [0, 1, 2, 3, 4, 5, 6] [] (AH2 := [.inr (0, [.ref 1, .ref 2, .ref 3, .ref 4, .ref 5, .int (HVCm v), .int (HVSw v), .ref 6]), .inl (0, 40, .inl (HVPr v)), .inl (0, 40, .inl (HVLf v)), .inl (0, 40, .inl (HVRt v)), .inl (0, 40, .inl (HVUp v)), .inl (0, 40, .inl (HVRk v)), .inl (0, 40, .inl (HVPa v))]) (st2 := [.int r17]) (c_X0_isChildOf _ _ _ _ hq16) ⟨rfl, rfl⟩ rfl k_X0_isChildOf l_X0_77 rfl rfl rfl rfl rfl (fit_of hR (by decide) (by decide) (by decide) (by decide)) (Nat.le_of_ble_eq_true rfl) (by decide) rfl rfl rfl ?_
        refine r_if_eq X 141 rfl rfl (fun c19 => ?_) (fun c19 => ?_)
        · rw [if_pos c19] at h
          refine go_s 1 X (pc2 := 142) (st2 := [.int 0]) rfl ?_
          cases h
          exact r_zret X (ty := .boolean) rfl rfl rfl ⟨rfl, rfl⟩ (by decide) (by decide)
        · rw [if_neg c19] at h
          refine go_s 4 X (pc2 := 57) (st2 := [.int a, .ref 2, .ref 0]) rfl ?_
          by_cases b20 : oob a 40
          · rw [if_pos b20] at h; cases h
          rw [if_neg b20] at h
          refine r_iald X rfl rfl b20 ?_
          obtain ⟨r22, hq21, h⟩ := obind_inv h
          refine q_callV X [0, 1, 2, 3, 4, 5, 6] [] (AH2 := [.inr (0, [.ref 1, .ref 2, .ref 3, .ref 4, .ref 5, .int (HVCm v), .int (HVSw v), .ref 6]), .inl (0, 40, .inl (HVPr v)), .inl (0, 40, .inl (HVLf v)), .inl (0, 40, .inl (HVRt v)), .inl (0, 40, .inl (HVUp v)), .inl (0, 40, .inl (HVRk v)), .inl (0, 40, .inl (HVPa v))]) (st2 := [.int r22]) (c_X0_rankOf _ _ _ hq21) ⟨rfl, rfl⟩ rfl k_X0_rankOf l_X0_64 rfl rfl rfl rfl rfl (fit_of hR (by decide) (by decide) (by decide) (by decide)) (Nat.le_of_ble_eq_true rfl) (by decide) rfl rfl rfl ?_
          refine go_s 4 X (pc2 := 67) (st2 := [.int a, .ref 3, .ref 0, .int r22]) rfl ?_
          by_cases b24 : oob a 40
          · rw [if_pos b24] at h; cases h
          rw [if_neg b24] at h
          refine r_iald X rfl rfl b24 ?_
          obtain ⟨r26, hq25, h⟩ := obind_inv h
          refine q_callV X [0, 1, 2, 3, 4, 5, 6] [] (AH2 := [.inr (0, [.ref 1, .ref 2, .ref 3, .ref 4, .ref 5, .int (HVCm v), .int (HVSw v), .ref 6]), .inl (0, 40, .inl (HVPr v)), .inl (0, 40, .inl (HVLf v)), .inl (0, 40, .inl (HVRt v)), .inl (0, 40, .inl (HVUp v)), .inl (0, 40, .inl (HVRk v)), .inl (0, 40, .inl (HVPa v))]) (st2 := [.int r26, .int r22]) (c_X0_rankOf _ _ _ hq25) ⟨rfl, rfl⟩ rfl k_X0_rankOf l_X0_64 rfl rfl rfl rfl rfl (fit_of hR (by decide) (by decide) (by decide) (by decide)) (Nat.le_of_ble_eq_true rfl) (by decide) rfl rfl rfl ?_
          refine r_icmp_lt X 141 rfl rfl (fun c28 => ?_) (fun c28 => ?_)
          · rw [if_pos c28] at h
            refine go_s 1 X (pc2 := 142) (st2 := [.int 0]) rfl ?_
            cases h
            exact r_zret X (ty := .boolean) rfl rfl rfl ⟨rfl, rfl⟩ (by decide) (by decide)
          · rw [if_neg c28] at h
            refine go_s 3 X (pc2 := 79) (st2 := [.int a, .ref 5]) rfl ?_
            by_cases b29 : oob a 40
            · rw [if_pos b29] at h; cases h
            rw [if_neg b29] at h
            refine r_iald X rfl rfl b29 ?_
            refine go_s 5 X (pc2 := 87) (st2 := [.int a, .ref 3, .ref 0, .int 1, .int ((HVRk v) (Int32.toNatClampNeg a))]) rfl ?_
            by_cases b30 : oob a 40
            · rw [if_pos b30] at h; cases h
            rw [if_neg b30] at h
            refine r_iald X rfl rfl b30 ?_
            obtain ⟨r32, hq31, h⟩ := obind_inv h
            refine q_callV X [0, 1, 2, 3, 4, 5, 6] [] (AH2 := [.inr (0, [.ref 1, .ref 2, .ref 3, .ref 4, .ref 5, .int (HVCm v), .int (HVSw v), .ref 6]), .inl (0, 40, .inl (HVPr v)), .inl (0, 40, .inl (HVLf v)), .inl (0, 40, .inl (HVRt v)), .inl (0, 40, .inl (HVUp v)), .inl (0, 40, .inl (HVRk v)), .inl (0, 40, .inl (HVPa v))]) (st2 := [.int r32, .int 1, .int ((HVRk v) (Int32.toNatClampNeg a))]) (c_X0_rankOf _ _ _ hq31) ⟨rfl, rfl⟩ rfl k_X0_rankOf l_X0_64 rfl rfl rfl rfl rfl (fit_of hR (by decide) (by decide) (by decide) (by decide)) (Nat.le_of_ble_eq_true rfl) (by decide) rfl rfl rfl ?_
            refine go_s 1 X (pc2 := 92) (st2 := [.int (1 + r32), .int ((HVRk v) (Int32.toNatClampNeg a))]) rfl ?_
            refine r_icmp_ne X 141 rfl rfl (fun c34 => ?_) (fun c34 => ?_)
            · rw [if_neg c34] at h
              refine go_s 1 X (pc2 := 142) (st2 := [.int 0]) rfl ?_
              cases h
              exact r_zret X (ty := .boolean) rfl rfl rfl ⟨rfl, rfl⟩ (by decide) (by decide)
            · rw [if_pos c34] at h
              refine go_s 3 X (pc2 := 100) (st2 := [.int a, .ref 4]) rfl ?_
              by_cases b35 : oob a 40
              · rw [if_pos b35] at h; cases h
              rw [if_neg b35] at h
              refine r_iald X rfl rfl b35 ?_
              obtain ⟨r37, hq36, h⟩ := obind_inv h
              refine q_callS X [] [] (AH2 := [.inr (0, [.ref 1, .ref 2, .ref 3, .ref 4, .ref 5, .int (HVCm v), .int (HVSw v), .ref 6]), .inl (0, 40, .inl (HVPr v)), .inl (0, 40, .inl (HVLf v)), .inl (0, 40, .inl (HVRt v)), .inl (0, 40, .inl (HVUp v)), .inl (0, 40, .inl (HVRk v)), .inl (0, 40, .inl (HVPa v))]) (st2 := [.int r37]) (c_X0_isNode _ _ hq36) ⟨rfl, rfl⟩ rfl k_X0_isNode l_X0_41 rfl rfl (fit_of hR (by decide) (by decide) (by decide) (by decide)) (Nat.le_of_ble_eq_true rfl) (by decide) rfl rfl rfl ?_
              refine r_if_eq X 137 rfl rfl (fun c39 => ?_) (fun c39 => ?_)
              · rw [if_pos c39] at h
                refine go_s 2 X (pc2 := 142) (st2 := [.int 1]) rfl ?_
                cases h
                exact r_zret X (ty := .boolean) rfl rfl rfl ⟨rfl, rfl⟩ (by decide) (by decide)
              · rw [if_neg c39] at h
                refine go_s 5 X (pc2 := 116) (st2 := [.int a, .ref 4, .ref 2]) rfl ?_
                by_cases b40 : oob a 40
                · rw [if_pos b40] at h; cases h
                rw [if_neg b40] at h
                refine r_iald X rfl rfl b40 ?_
                by_cases b41 : oob ((HVUp v) (Int32.toNatClampNeg a)) 40
                · rw [if_pos b41] at h; cases h
                rw [if_neg b41] at h
                refine r_iald X rfl rfl b41 ?_
                refine go_s 1 X (pc2 := 119) (st2 := [.int a, .int ((HVLf v) (Int32.toNatClampNeg ((HVUp v) (Int32.toNatClampNeg a))))]) rfl ?_
                refine r_icmp_eq X 137 rfl rfl (fun c42 => ?_) (fun c42 => ?_)
                · rw [if_pos c42] at h
                  refine go_s 2 X (pc2 := 142) (st2 := [.int 1]) rfl ?_
                  cases h
                  exact r_zret X (ty := .boolean) rfl rfl rfl ⟨rfl, rfl⟩ (by decide) (by decide)
                · rw [if_neg c42] at h
                  refine go_s 5 X (pc2 := 131) (st2 := [.int a, .ref 4, .ref 3]) rfl ?_
                  by_cases b43 : oob a 40
                  · rw [if_pos b43] at h; cases h
                  rw [if_neg b43] at h
                  refine r_iald X rfl rfl b43 ?_
                  by_cases b44 : oob ((HVUp v) (Int32.toNatClampNeg a)) 40
                  · rw [if_pos b44] at h; cases h
                  rw [if_neg b44] at h
                  refine r_iald X rfl rfl b44 ?_
                  refine go_s 1 X (pc2 := 134) (st2 := [.int a, .int ((HVRt v) (Int32.toNatClampNeg ((HVUp v) (Int32.toNatClampNeg a))))]) rfl ?_
                  refine r_icmp_ne X 141 rfl rfl (fun c45 => ?_) (fun c45 => ?_)
                  · rw [if_neg c45] at h
                    refine go_s 1 X (pc2 := 142) (st2 := [.int 0]) rfl ?_
                    cases h
                    exact r_zret X (ty := .boolean) rfl rfl rfl ⟨rfl, rfl⟩ (by decide) (by decide)
                  · rw [if_pos c45] at h
                    refine go_s 2 X (pc2 := 142) (st2 := [.int 1]) rfl ?_
                    cases h
                    exact r_zret X (ty := .boolean) rfl rfl rfl ⟨rfl, rfl⟩ (by decide) (by decide)
    · rw [if_neg c9] at h
      refine go_s 1 X (pc2 := 22) (st2 := [.int 0]) rfl ?_
      cases h
      exact r_zret X (ty := .boolean) rfl rfl rfl ⟨rfl, rfl⟩ (by decide) (by decide)
set_option maxHeartbeats 6000000 in
set_option maxRecDepth 20000 in
theorem c_X0_setAbove (v : HV) (a : Int32) (b : Int32) (r : Unit) (w : HV) (h : f_X0_setAbove v a b = some (r, w)) : Sem z_X0_setAbove 1 0 0 [.ref 0, .int a, .int b] (WH v) (PST (.inl none) (WH w)) := by
  refine Sem.of zo_X0_setAbove (by decide +kernel) (Nat.le_of_ble_eq_true rfl) fun κ X hE hR hN => ?_
  unfold f_X0_setAbove at h
  refine AW.eq (pc' := 0) (ls' := [some (.ref 0), some (.int a), some (.int b)]) (st' := []) (AH' := [.inr (0, [.ref 1, .ref 2, .ref 3, .ref 4, .ref 5, .int (HVCm v), .int (HVSw v), .ref 6]), .inl (0, 40, .inl (HVPr v)), .inl (0, 40, .inl (HVLf v)), .inl (0, 40, .inl (HVRt v)), .inl (0, 40, .inl (HVUp v)), .inl (0, 40, .inl (HVRk v)), .inl (0, 40, .inl (HVPa v))]) ?_ rfl rfl rfl rfl
  refine go_s 1 X (pc2 := 1) (st2 := [.int a]) rfl ?_
  obtain ⟨r2, hq1, h⟩ := obind_inv h
  refine q_callS X [] [] (AH2 := [.inr (0, [.ref 1, .ref 2, .ref 3, .ref 4, .ref 5, .int (HVCm v), .int (HVSw v), .ref 6]), .inl (0, 40, .inl (HVPr v)), .inl (0, 40, .inl (HVLf v)), .inl (0, 40, .inl (HVRt v)), .inl (0, 40, .inl (HVUp v)), .inl (0, 40, .inl (HVRk v)), .inl (0, 40, .inl (HVPa v))]) (st2 := [.int r2]) (c_X0_isNode _ _ hq1) ⟨rfl, rfl⟩ rfl k_X0_isNode l_X0_41 rfl rfl (fit_of hR (by decide) (by decide) (by decide) (by decide)) (Nat.le_of_ble_eq_true rfl) (by decide) rfl rfl rfl ?_
  refine r_if_eq X 14 rfl rfl (fun c4 => ?_) (fun c4 => ?_)
  · rw [if_pos c4] at h
    cases h
    exact r_vret X rfl rfl ⟨rfl, rfl⟩ (by decide) (by decide)
  · rw [if_neg c4] at h
    refine go_s 4 X (pc2 := 13) (st2 := [.int b, .int a, .ref 4]) rfl ?_
    by_cases b5 : oob a 40
    · rw [if_pos b5] at h; cases h
    rw [if_neg b5] at h
    refine r_iast X rfl rfl b5 ?_
    cases h
    exact r_vret X rfl rfl ⟨rfl, rfl⟩ (by decide) (by decide)
set_option maxHeartbeats 6000000 in
set_option maxRecDepth 20000 in
theorem c_X0_settle (v : HV) (a : Int32) (r : Unit) (w : HV) (h : f_X0_settle v a = some (r, w)) : Sem z_X0_settle 1 0 0 [.ref 0, .int a] (WH v) (PST (.inl none) (WH w)) := by
  refine Sem.of zo_X0_settle (by decide +kernel) (Nat.le_of_ble_eq_true rfl) fun κ X hE hR hN => ?_
  unfold f_X0_settle at h
  refine AW.eq (pc' := 0) (ls' := [some (.ref 0), some (.int a), none]) (st' := []) (AH' := [.inr (0, [.ref 1, .ref 2, .ref 3, .ref 4, .ref 5, .int (HVCm v), .int (HVSw v), .ref 6]), .inl (0, 40, .inl (HVPr v)), .inl (0, 40, .inl (HVLf v)), .inl (0, 40, .inl (HVRt v)), .inl (0, 40, .inl (HVUp v)), .inl (0, 40, .inl (HVRk v)), .inl (0, 40, .inl (HVPa v))]) ?_ rfl rfl rfl rfl
  refine go_s 4 X (pc2 := 6) (st2 := [.int a, .ref 2, .ref 0]) rfl ?_
  by_cases b1 : oob a 40
  · rw [if_pos b1] at h; cases h
  rw [if_neg b1] at h
  refine r_iald X rfl rfl b1 ?_
  obtain ⟨r3, hq2, h⟩ := obind_inv h
  refine q_callV X [0, 1, 2, 3, 4, 5, 6] [] (AH2 := [.inr (0, [.ref 1, .ref 2, .ref 3, .ref 4, .ref 5, .int (HVCm v), .int (HVSw v), .ref 6]), .inl (0, 40, .inl (HVPr v)), .inl (0, 40, .inl (HVLf v)), .inl (0, 40, .inl (HVRt v)), .inl (0, 40, .inl (HVUp v)), .inl (0, 40, .inl (HVRk v)), .inl (0, 40, .inl (HVPa v))]) (st2 := [.int r3]) (c_X0_rankOf _ _ _ hq2) ⟨rfl, rfl⟩ rfl k_X0_rankOf l_X0_64 rfl rfl rfl rfl rfl (fit_of hR (by decide) (by decide) (by decide) (by decide)) (Nat.le_of_ble_eq_true rfl) (by decide) rfl rfl rfl ?_
  refine go_s 4 X (pc2 := 16) (st2 := [.int a, .ref 3, .ref 0, .int r3]) rfl ?_
  by_cases b5 : oob a 40
  · rw [if_pos b5] at h; cases h
  rw [if_neg b5] at h
  refine r_iald X rfl rfl b5 ?_
  obtain ⟨r7, hq6, h⟩ := obind_inv h
  refine q_callV X [0, 1, 2, 3, 4, 5, 6] [] (AH2 := [.inr (0, [.ref 1, .ref 2, .ref 3, .ref 4, .ref 5, .int (HVCm v), .int (HVSw v), .ref 6]), .inl (0, 40, .inl (HVPr v)), .inl (0, 40, .inl (HVLf v)), .inl (0, 40, .inl (HVRt v)), .inl (0, 40, .inl (HVUp v)), .inl (0, 40, .inl (HVRk v)), .inl (0, 40, .inl (HVPa v))]) (st2 := [.int r7, .int r3]) (c_X0_rankOf _ _ _ hq6) ⟨rfl, rfl⟩ rfl k_X0_rankOf l_X0_64 rfl rfl rfl rfl rfl (fit_of hR (by decide) (by decide) (by decide) (by decide)) (Nat.le_of_ble_eq_true rfl) (by decide) rfl rfl rfl ?_
  refine r_icmp_ge X 59 rfl rfl (fun c9 => ?_) (fun c9 => ?_)
  · rw [if_pos c9] at h
    refine go_s 8 X (pc2 := 71) (st2 := [.int a, .ref 3, .ref 0, .int 1, .int a, .ref 5]) rfl ?_
    by_cases b10 : oob a 40
    · rw [if_pos b10] at h; cases h
    rw [if_neg b10] at h
    refine r_iald X rfl rfl b10 ?_
    obtain ⟨r12, hq11, h⟩ := obind_inv h
    refine q_callV X [0, 1, 2, 3, 4, 5, 6] [] (AH2 := [.inr (0, [.ref 1, .ref 2, .ref 3, .ref 4, .ref 5, .int (HVCm v), .int (HVSw v), .ref 6]), .inl (0, 40, .inl (HVPr v)), .inl (0, 40, .inl (HVLf v)), .inl (0, 40, .inl (HVRt v)), .inl (0, 40, .inl (HVUp v)), .inl (0, 40, .inl (HVRk v)), .inl (0, 40, .inl (HVPa v))]) (st2 := [.int r12, .int 1, .int a, .ref 5]) (c_X0_rankOf _ _ _ hq11) ⟨rfl, rfl⟩ rfl k_X0_rankOf l_X0_64 rfl rfl rfl rfl rfl (fit_of hR (by decide) (by decide) (by decide) (by decide)) (Nat.le_of_ble_eq_true rfl) (by decide) rfl rfl rfl ?_
    refine go_s 1 X (pc2 := 76) (st2 := [.int (1 + r12), .int a, .ref 5]) rfl ?_
    by_cases b14 : oob a 40
    · rw [if_pos b14] at h; cases h
    rw [if_neg b14] at h
    refine r_iast X rfl rfl b14 ?_
    cases h
    exact r_vret X rfl rfl ⟨rfl, rfl⟩ (by decide) (by decide)
  · rw [if_neg c9] at h
    refine go_s 3 X (pc2 := 28) (st2 := [.int a, .ref 2]) rfl ?_
    by_cases b15 : oob a 40
    · rw [if_pos b15] at h; cases h
    rw [if_neg b15] at h
    refine r_iald X rfl rfl b15 ?_
    refine go_l 7 X (pc2 := 40) (ls2 := [some (.ref 0), some (.int a), some (.int ((HVLf v) (Int32.toNatClampNeg a)))]) (st2 := [.int a, .ref 3, .int a, .ref 2]) rfl ?_
    by_cases b16 : oob a 40
    · rw [if_pos b16] at h; cases h
    rw [if_neg b16] at h
    refine r_iald X rfl rfl b16 ?_
    by_cases b17 : oob a 40
    · rw [if_pos b17] at h; cases h
    rw [if_neg b17] at h
    refine r_iast X rfl rfl b17 ?_
    refine go_s 4 X (pc2 := 48) (st2 := [.int ((HVLf v) (Int32.toNatClampNeg a)), .int a, .ref 3]) rfl ?_
    by_cases b18 : oob a 40
    · rw [if_pos b18] at h; cases h
    rw [if_neg b18] at h
    refine r_iast X rfl rfl b18 ?_
    refine go 14 X (pc2 := 71) (ls2 := [some (.ref 0), some (.int a), some (.int ((HVLf v) (Int32.toNatClampNeg a)))]) (st2 := [.int a, .ref 3, .ref 0, .int 1, .int a, .ref 5]) (AH2 := [.inr (0, [.ref 1, .ref 2, .ref 3, .ref 4, .ref 5, .int (HVCm v), .int ((HVSw v) + 1), .ref 6]), .inl (0, 40, .inl (HVPr v)), .inl (0, 40, .inl (upd (HVLf v) (Int32.toNatClampNeg a) ((HVRt v) (Int32.toNatClampNeg a)))), .inl (0, 40, .inl (upd (HVRt v) (Int32.toNatClampNeg a) ((HVLf v) (Int32.toNatClampNeg a)))), .inl (0, 40, .inl (HVUp v)), .inl (0, 40, .inl (HVRk v)), .inl (0, 40, .inl (HVPa v))]) rfl ?_
    by_cases b19 : oob a 40
    · rw [if_pos b19] at h; cases h
    rw [if_neg b19] at h
    refine r_iald X rfl rfl b19 ?_
    obtain ⟨r21, hq20, h⟩ := obind_inv h
    refine q_callV X [0, 1, 2, 3, 4, 5, 6] [] (AH2 := [.inr (0, [.ref 1, .ref 2, .ref 3, .ref 4, .ref 5, .int (HVCm v), .int ((HVSw v) + 1), .ref 6]), .inl (0, 40, .inl (HVPr v)), .inl (0, 40, .inl (upd (HVLf v) (Int32.toNatClampNeg a) ((HVRt v) (Int32.toNatClampNeg a)))), .inl (0, 40, .inl (upd (HVRt v) (Int32.toNatClampNeg a) ((HVLf v) (Int32.toNatClampNeg a)))), .inl (0, 40, .inl (HVUp v)), .inl (0, 40, .inl (HVRk v)), .inl (0, 40, .inl (HVPa v))]) (st2 := [.int r21, .int 1, .int a, .ref 5]) (c_X0_rankOf _ _ _ hq20) ⟨rfl, rfl⟩ rfl k_X0_rankOf l_X0_64 rfl rfl rfl rfl rfl (fit_of hR (by decide) (by decide) (by decide) (by decide)) (Nat.le_of_ble_eq_true rfl) (by decide) rfl rfl rfl ?_
    refine go_s 1 X (pc2 := 76) (st2 := [.int (1 + r21), .int a, .ref 5]) rfl ?_
    by_cases b23 : oob a 40
    · rw [if_pos b23] at h; cases h
    rw [if_neg b23] at h
    refine r_iast X rfl rfl b23 ?_
    cases h
    exact r_vret X rfl rfl ⟨rfl, rfl⟩ (by decide) (by decide)
set_option maxHeartbeats 6000000 in
set_option maxRecDepth 20000 in
theorem a_X0_merge_h113 {κ : KX} (X : CX κ z_X0_merge) (hR : κR κ = rmM 2 0 0) : ∀ (n : Nat) (l1 : Int32) (l2 : Int32) (l3 : Int32) (l4 : Int32) (l5 : Int32) (l6 : Int32) (l7 : Int32) (v : HV) (r : Int32) (w : HV) (h : f_X0_merge_h113 n l1 l2 l3 l4 l5 l6 l7 v = some (r, w)), AW κ (QM κ (PST (.inl (some (.int r))) (WH w)) 0 0) 113 [some (.ref 0), some (.int l1), some (.int l2), some (.int l3), some (.int l4), some (.int l5), some (.int l6), some (.int l7), none] [] (WH v) 0 0 := by
  intro n
  induction n with
  | zero =>
    intro l1 l2 l3 l4 l5 l6 l7 v r w h
    unfold f_X0_merge_h113 at h
    cases h
  | succ n ih =>
    intro l1 l2 l3 l4 l5 l6 l7 v r w h
    unfold f_X0_merge_h113 at h
    refine AW.eq (pc' := 113) (ls' := [some (.ref 0), some (.int l1), some (.int l2), some (.int l3), some (.int l4), some (.int l5), some (.int l6), some (.int l7), none]) (st' := []) (AH' := [.inr (0, [.ref 1, .ref 2, .ref 3, .ref 4, .ref 5, .int (HVCm v), .int (HVSw v), .ref 6]), .inl (0, 40, .inl (HVPr v)), .inl (0, 40, .inl (HVLf v)), .inl (0, 40, .inl (HVRt v)), .inl (0, 40, .inl (HVUp v)), .inl (0, 40, .inl (HVRk v)), .inl (0, 40, .inl (HVPa v))]) ?_ rfl rfl rfl rfl
    refine go_s 1 X (pc2 := 115) (st2 := [.int l7]) rfl ?_
    refine r_if_lt X 160 rfl rfl (fun c6 => ?_) (fun c6 => ?_)
    · rw [if_pos c6] at h
      refine go_s 3 X (pc2 := 164) (st2 := [.int (-1), .int l6, .ref 0]) rfl ?_
      obtain ⟨r8, w9, hq7, h⟩ := bnd2_inv h
      refine q_callV X [0, 1, 2, 3, 4, 5, 6] [] (AH2 := [.inr (0, [.ref 1, .ref 2, .ref 3, .ref 4, .ref 5, .int (HVCm w9), .int (HVSw w9), .ref 6]), .inl (0, 40, .inl (HVPr w9)), .inl (0, 40, .inl (HVLf w9)), .inl (0, 40, .inl (HVRt w9)), .inl (0, 40, .inl (HVUp w9)), .inl (0, 40, .inl (HVRk w9)), .inl (0, 40, .inl (HVPa w9))]) (st2 := []) (c_X0_setAbove _ _ _ _ _ hq7) ⟨rfl, rfl⟩ rfl k_X0_setAbove l_X0_57 rfl rfl rfl rfl rfl (fit_of hR (by decide) (by decide) (by decide) (by decide)) (Nat.le_of_ble_eq_true rfl) (by decide) rfl rfl rfl ?_
      refine go_s 1 X (pc2 := 169) (st2 := [.int l6]) rfl ?_
      cases h
      exact r_iret X rfl rfl ⟨rfl, rfl⟩ (by decide) (by decide)
    · rw [if_neg c6] at h
      refine go_s 3 X (pc2 := 124) (st2 := [.int l7, .ref 6]) rfl ?_
      by_cases b10 : oob l7 40
      · rw [if_pos b10] at h; cases h
      rw [if_neg b10] at h
      refine r_iald X rfl rfl b10 ?_
      refine go_l 5 X (pc2 := 135) (ls2 := [some (.ref 0), some (.int l1), some (.int l2), some (.int l3), some (.int l4), some (.int l5), some (.int l6), some (.int l7), some (.int ((HVPa v) (Int32.toNatClampNeg l7)))]) (st2 := [.int l6, .int ((HVPa v) (Int32.toNatClampNeg l7)), .ref 3]) rfl ?_
      by_cases b11 : oob ((HVPa v) (Int32.toNatClampNeg l7)) 40
      · rw [if_pos b11] at h; cases h
      rw [if_neg b11] at h
      refine r_iast X rfl rfl b11 ?_
      refine go_s 3 X (pc2 := 141) (st2 := [.int ((HVPa v) (Int32.toNatClampNeg l7)), .int l6, .ref 0]) rfl ?_
      obtain ⟨r13, w14, hq12, h⟩ := bnd2_inv h
      refine q_callV X [0, 1, 2, 3, 4, 5, 6] [] (AH2 := [.inr (0, [.ref 1, .ref 2, .ref 3, .ref 4, .ref 5, .int (HVCm w14), .int (HVSw w14), .ref 6]), .inl (0, 40, .inl (HVPr w14)), .inl (0, 40, .inl (HVLf w14)), .inl (0, 40, .inl (HVRt w14)), .inl (0, 40, .inl (HVUp w14)), .inl (0, 40, .inl (HVRk w14)), .inl (0, 40, .inl (HVPa w14))]) (st2 := []) (c_X0_setAbove _ _ _ _ _ hq12) ⟨rfl, rfl⟩ rfl k_X0_setAbove l_X0_57 rfl rfl rfl rfl rfl (fit_of hR (by decide) (by decide) (by decide) (by decide)) (Nat.le_of_ble_eq_true rfl) (by decide) rfl rfl rfl ?_
      refine go_s 2 X (pc2 := 147) (st2 := [.int ((HVPa v) (Int32.toNatClampNeg l7)), .ref 0]) rfl ?_
      obtain ⟨r16, w17, hq15, h⟩ := bnd2_inv h
      refine q_callV X [0, 1, 2, 3, 4, 5, 6] [] (AH2 := [.inr (0, [.ref 1, .ref 2, .ref 3, .ref 4, .ref 5, .int (HVCm w17), .int (HVSw w17), .ref 6]), .inl (0, 40, .inl (HVPr w17)), .inl (0, 40, .inl (HVLf w17)), .inl (0, 40, .inl (HVRt w17)), .inl (0, 40, .inl (HVUp w17)), .inl (0, 40, .inl (HVRk w17)), .inl (0, 40, .inl (HVPa w17))]) (st2 := []) (c_X0_settle _ _ _ _ hq15) ⟨rfl, rfl⟩ rfl k_X0_settle l_X0_61 rfl rfl rfl rfl rfl (fit_of hR (by decide) (by decide) (by decide) (by decide)) (Nat.le_of_ble_eq_true rfl) (by decide) rfl rfl rfl ?_
      refine go_l 4 X (pc2 := 113) (ls2 := [some (.ref 0), some (.int l1), some (.int l2), some (.int l3), some (.int l4), some (.int l5), some (.int ((HVPa v) (Int32.toNatClampNeg l7))), some (.int (l7 + (-1))), some (.int ((HVPa v) (Int32.toNatClampNeg l7)))]) (st2 := []) rfl ?_
      refine AW.forget (ls' := [some (.ref 0), some (.int l1), some (.int l2), some (.int l3), some (.int l4), some (.int l5), some (.int ((HVPa v) (Int32.toNatClampNeg l7))), some (.int (l7 + (-1))), none]) rfl (subL_of ⟨rfl, ⟨rfl, ⟨rfl, ⟨rfl, ⟨rfl, ⟨rfl, ⟨rfl, ⟨rfl, trivial⟩⟩⟩⟩⟩⟩⟩⟩) ?_
      exact AW.eq (ih _ _ _ _ _ _ _ _ _ _ h) rfl rfl rfl rfl
set_option maxHeartbeats 6000000 in
set_option maxRecDepth 20000 in
theorem a_X0_merge_h8 {κ : KX} (X : CX κ z_X0_merge) (hR : κR κ = rmM 2 0 0) : ∀ (n : Nat) (l1 : Int32) (l2 : Int32) (l3 : Int32) (l4 : Int32) (l5 : Int32) (v : HV) (r : Int32) (w : HV) (h : f_X0_merge_h8 n l1 l2 l3 l4 l5 v = some (r, w)), AW κ (QM κ (PST (.inl (some (.int r))) (WH w)) 0 0) 8 [some (.ref 0), some (.int l1), some (.int l2), some (.int l3), some (.int l4), some (.int l5), none, none, none] [] (WH v) 0 0 := by
  intro n
  induction n with
  | zero =>
    intro l1 l2 l3 l4 l5 v r w h
    unfold f_X0_merge_h8 at h
    cases h
  | succ n ih =>
    intro l1 l2 l3 l4 l5 v r w h
    unfold f_X0_merge_h8 at h
    refine AW.eq (pc' := 8) (ls' := [some (.ref 0), some (.int l1), some (.int l2), some (.int l3), some (.int l4), some (.int l5), none, none, none]) (st' := []) (AH' := [.inr (0, [.ref 1, .ref 2, .ref 3, .ref 4, .ref 5, .int (HVCm v), .int (HVSw v), .ref 6]), .inl (0, 40, .inl (HVPr v)), .inl (0, 40, .inl (HVLf v)), .inl (0, 40, .inl (HVRt v)), .inl (0, 40, .inl (HVUp v)), .inl (0, 40, .inl (HVRk v)), .inl (0, 40, .inl (HVPa v))]) ?_ rfl rfl rfl rfl
    refine go_s 2 X (pc2 := 12) (st2 := [.int 40, .int l5]) rfl ?_
    refine r_icmp_ge X 92 rfl rfl (fun c1 => ?_) (fun c1 => ?_)
    · rw [if_pos c1] at h
      refine go_s 1 X (pc2 := 93) (st2 := [.int l3]) rfl ?_
      obtain ⟨r3, hq2, h⟩ := obind_inv h
      refine q_callS X [] [] (AH2 := [.inr (0, [.ref 1, .ref 2, .ref 3, .ref 4, .ref 5, .int (HVCm v), .int (HVSw v), .ref 6]), .inl (0, 40, .inl (HVPr v)), .inl (0, 40, .inl (HVLf v)), .inl (0, 40, .inl (HVRt v)), .inl (0, 40, .inl (HVUp v)), .inl (0, 40, .inl (HVRk v)), .inl (0, 40, .inl (HVPa v))]) (st2 := [.int r3]) (c_X0_isNode _ _ hq2) ⟨rfl, rfl⟩ rfl k_X0_isNode l_X0_41 rfl rfl (fit_of hR (by decide) (by decide) (by decide) (by decide)) (Nat.le_of_ble_eq_true rfl) (by decide) rfl rfl rfl ?_
      refine r_if_eq X 103 rfl rfl (fun c5 => ?_) (fun c5 => ?_)
      · rw [if_pos c5] at h
        refine go_l 6 X (pc2 := 113) (ls2 := [some (.ref 0), some (.int l1), some (.int l2), some (.int l3), some (.int l4), some (.int l5), some (.int l4), some (.int (l5 - 1)), none]) (st2 := []) rfl ?_
        exact AW.eq (a_X0_merge_h113 X hR FU _ _ _ _ _ _ _ _ _ _ h) rfl rfl rfl rfl
      · rw [if_neg c5] at h
        refine go_l 7 X (pc2 := 113) (ls2 := [some (.ref 0), some (.int l1), some (.int l2), some (.int l3), some (.int l4), some (.int l5), some (.int l3), some (.int (l5 - 1)), none]) (st2 := []) rfl ?_
        exact AW.eq (a_X0_merge_h113 X hR FU _ _ _ _ _ _ _ _ _ _ h) rfl rfl rfl rfl
    · rw [if_neg c1] at h
      refine go_s 1 X (pc2 := 16) (st2 := [.int l3]) rfl ?_
      obtain ⟨r19, hq18, h⟩ := obind_inv h
      refine q_callS X [] [] (AH2 := [.inr (0, [.ref 1, .ref 2, .ref 3, .ref 4, .ref 5, .int (HVCm v), .int (HVSw v), .ref 6]), .inl (0, 40, .inl (HVPr v)), .inl (0, 40, .inl (HVLf v)), .inl (0, 40, .inl (HVRt v)), .inl (0, 40, .inl (HVUp v)), .inl (0, 40, .inl (HVRk v)), .inl (0, 40, .inl (HVPa v))]) (st2 := [.int r19]) (c_X0_isNode _ _ hq18) ⟨rfl, rfl⟩ rfl k_X0_isNode l_X0_41 rfl rfl (fit_of hR (by decide) (by decide) (by decide) (by decide)) (Nat.le_of_ble_eq_true rfl) (by decide) rfl rfl rfl ?_
      refine r_if_eq X 92 rfl rfl (fun c21 => ?_) (fun c21 => ?_)
      · rw [if_pos c21] at h
        refine go_s 1 X (pc2 := 93) (st2 := [.int l3]) rfl ?_
        obtain ⟨r23, hq22, h⟩ := obind_inv h
        refine q_callS X [] [] (AH2 := [.inr (0, [.ref 1, .ref 2, .ref 3, .ref 4, .ref 5, .int (HVCm v), .int (HVSw v), .ref 6]), .inl (0, 40, .inl (HVPr v)), .inl (0, 40, .inl (HVLf v)), .inl (0, 40, .inl (HVRt v)), .inl (0, 40, .inl (HVUp v)), .inl (0, 40, .inl (HVRk v)), .inl (0, 40, .inl (HVPa v))]) (st2 := [.int r23]) (c_X0_isNode _ _ hq22) ⟨rfl, rfl⟩ rfl k_X0_isNode l_X0_41 rfl rfl (fit_of hR (by decide) (by decide) (by decide) (by decide)) (Nat.le_of_ble_eq_true rfl) (by decide) rfl rfl rfl ?_
        refine r_if_eq X 103 rfl rfl (fun c25 => ?_) (fun c25 => ?_)
        · rw [if_pos c25] at h
          refine go_l 6 X (pc2 := 113) (ls2 := [some (.ref 0), some (.int l1), some (.int l2), some (.int l3), some (.int l4), some (.int l5), some (.int l4), some (.int (l5 - 1)), none]) (st2 := []) rfl ?_
          exact AW.eq (a_X0_merge_h113 X hR FU _ _ _ _ _ _ _ _ _ _ h) rfl rfl rfl rfl
        · rw [if_neg c25] at h
          refine go_l 7 X (pc2 := 113) (ls2 := [some (.ref 0), some (.int l1), some (.int l2), some (.int l3), some (.int l4), some (.int l5), some (.int l3), some (.int (l5 - 1)), none]) (st2 := []) rfl ?_
          exact AW.eq (a_X0_merge_h113 X hR FU _ _ _ _ _ _ _ _ _ _ h) rfl rfl rfl rfl
      · rw [if_neg c21] at h
        refine go_s 1 X (pc2 := 24) (st2 := [.int l4]) rfl ?_
        obtain ⟨r27, hq26, h⟩ := obind_inv h
        refine q_callS X [] [] (AH2 := [.inr (0, [.ref 1, .ref 2, .ref 3, .ref 4, .ref 5, .int (HVCm v), .int (HVSw v), .ref 6]), .inl (0, 40, .inl (HVPr v)), .inl (0, 40, .inl (HVLf v)), .inl (0, 40, .inl (HVRt v)), .inl (0, 40, .inl (HVUp v)), .inl (0, 40, .inl (HVRk v)), .inl (0, 40, .inl (HVPa v))]) (st2 := [.int r27]) (c_X0_isNode _ _ hq26) ⟨rfl, rfl⟩ rfl k_X0_isNode l_X0_41 rfl rfl (fit_of hR (by decide) (by decide) (by decide) (by decide)) (Nat.le_of_ble_eq_true rfl) (by decide) rfl rfl rfl ?_
        refine r_if_eq X 92 rfl rfl (fun c29 => ?_) (fun c29 => ?_)
        · rw [if_pos c29] at h
          refine go_s 1 X (pc2 := 93) (st2 := [.int l3]) rfl ?_
          obtain ⟨r31, hq30, h⟩ := obind_inv h
          refine q_callS X [] [] (AH2 := [.inr (0, [.ref 1, .ref 2, .ref 3, .ref 4, .ref 5, .int (HVCm v), .int (HVSw v), .ref 6]), .inl (0, 40, .inl (HVPr v)), .inl (0, 40, .inl (HVLf v)), .inl (0, 40, .inl (HVRt v)), .inl (0, 40, .inl (HVUp v)), .inl (0, 40, .inl (HVRk v)), .inl (0, 40, .inl (HVPa v))]) (st2 := [.int r31]) (c_X0_isNode _ _ hq30) ⟨rfl, rfl⟩ rfl k_X0_isNode l_X0_41 rfl rfl (fit_of hR (by decide) (by decide) (by decide) (by decide)) (Nat.le_of_ble_eq_true rfl) (by decide) rfl rfl rfl ?_
          refine r_if_eq X 103 rfl rfl (fun c33 => ?_) (fun c33 => ?_)
          · rw [if_pos c33] at h
            refine go_l 6 X (pc2 := 113) (ls2 := [some (.ref 0), some (.int l1), some (.int l2), some (.int l3), some (.int l4), some (.int l5), some (.int l4), some (.int (l5 - 1)), none]) (st2 := []) rfl ?_
            exact AW.eq (a_X0_merge_h113 X hR FU _ _ _ _ _ _ _ _ _ _ h) rfl rfl rfl rfl
          · rw [if_neg c33] at h
            refine go_l 7 X (pc2 := 113) (ls2 := [some (.ref 0), some (.int l1), some (.int l2), some (.int l3), some (.int l4), some (.int l5), some (.int l3), some (.int (l5 - 1)), none]) (st2 := []) rfl ?_
            exact AW.eq (a_X0_merge_h113 X hR FU _ _ _ _ _ _ _ _ _ _ h) rfl rfl rfl rfl
        · rw [if_neg c29] at h
          refine go 9 X (pc2 := 44) (ls2 := [some (.ref 0), some (.int l1), some (.int l2), some (.int l3), some (.int l4), some (.int l5), none, none, none]) (st2 := [.int l4, .int l3, .ref 0]) (AH2 := [.inr (0, [.ref 1, .ref 2, .ref 3, .ref 4, .ref 5, .int ((HVCm v) + 1), .int (HVSw v), .ref 6]), .inl (0, 40, .inl (HVPr v)), .inl (0, 40, .inl (HVLf v)), .inl (0, 40, .inl (HVRt v)), .inl (0, 40, .inl (HVUp v)), .inl (0, 40, .inl (HVRk v)), .inl (0, 40, .inl (HVPa v))]) rfl ?_
          obtain ⟨r35, hq34, h⟩ := obind_inv h
          refine q_callV X [0, 1, 2, 3, 4, 5, 6] [] (AH2 := [.inr (0, [.ref 1, .ref 2, .ref 3, .ref 4, .ref 5, .int ((HVCm v) + 1), .int (HVSw v), .ref 6]), .inl (0, 40, .inl (HVPr v)), .inl (0, 40, .inl (HVLf v)), .inl (0, 40, .inl (HVRt v)), .inl (0, 40, .inl (HVUp v)), .inl (0, 40, .inl (HVRk v)), .inl (0, 40, .inl (HVPa v))]) (st2 := [.int r35]) (c_X0_precedes _ _ _ _ hq34) ⟨rfl, rfl⟩ rfl k_X0_precedes l_X0_53 rfl rfl rfl rfl rfl (fit_of hR (by decide) (by decide) (by decide) (by decide)) (Nat.le_of_ble_eq_true rfl) (by decide) rfl rfl rfl ?_
          refine r_if_eq X 68 rfl rfl (fun c37 => ?_) (fun c37 => ?_)
          · rw [if_pos c37] at h
            refine go_s 4 X (pc2 := 76) (st2 := [.int l4, .int l5, .ref 6]) rfl ?_
            by_cases b38 : oob l5 40
            · rw [if_pos b38] at h; cases h
            rw [if_neg b38] at h
            refine r_iast X rfl rfl b38 ?_
            refine go_s 3 X (pc2 := 83) (st2 := [.int l4, .ref 3]) rfl ?_
            by_cases b39 : oob l4 40
            · rw [if_pos b39] at h; cases h
            rw [if_neg b39] at h
            refine r_iald X rfl rfl b39 ?_
            refine go_l 3 X (pc2 := 8) (ls2 := [some (.ref 0), some (.int l1), some (.int l2), some (.int l3), some (.int ((HVRt v) (Int32.toNatClampNeg l4))), some (.int (l5 + 1)), none, none, none]) (st2 := []) rfl ?_
            exact AW.eq (ih _ _ _ _ _ _ _ _ h) rfl rfl rfl rfl
          · rw [if_neg c37] at h
            refine go_s 4 X (pc2 := 57) (st2 := [.int l3, .int l5, .ref 6]) rfl ?_
            by_cases b40 : oob l5 40
            · rw [if_pos b40] at h; cases h
            rw [if_neg b40] at h
            refine r_iast X rfl rfl b40 ?_
            refine go_s 3 X (pc2 := 63) (st2 := [.int l3, .ref 3]) rfl ?_
            by_cases b41 : oob l3 40
            · rw [if_pos b41] at h; cases h
            rw [if_neg b41] at h
            refine r_iald X rfl rfl b41 ?_
            refine go_l 4 X (pc2 := 8) (ls2 := [some (.ref 0), some (.int l1), some (.int l2), some (.int ((HVRt v) (Int32.toNatClampNeg l3))), some (.int l4), some (.int (l5 + 1)), none, none, none]) (st2 := []) rfl ?_
            exact AW.eq (ih _ _ _ _ _ _ _ _ h) rfl rfl rfl rfl
set_option maxHeartbeats 6000000 in
set_option maxRecDepth 20000 in
theorem c_X0_merge (v : HV) (a : Int32) (b : Int32) (r : Int32) (w : HV) (h : f_X0_merge v a b = some (r, w)) : Sem z_X0_merge 2 0 0 [.ref 0, .int a, .int b] (WH v) (PST (.inl (some (.int r))) (WH w)) := by
  refine Sem.of zo_X0_merge (by decide +kernel) (Nat.le_of_ble_eq_true rfl) fun κ X hE hR hN => ?_
  unfold f_X0_merge at h
  refine AW.eq (pc' := 0) (ls' := [some (.ref 0), some (.int a), some (.int b), none, none, none, none, none, none]) (st' := []) (AH' := [.inr (0, [.ref 1, .ref 2, .ref 3, .ref 4, .ref 5, .int (HVCm v), .int (HVSw v), .ref 6]), .inl (0, 40, .inl (HVPr v)), .inl (0, 40, .inl (HVLf v)), .inl (0, 40, .inl (HVRt v)), .inl (0, 40, .inl (HVUp v)), .inl (0, 40, .inl (HVRk v)), .inl (0, 40, .inl (HVPa v))]) ?_ rfl rfl rfl rfl
  refine go_l 6 X (pc2 := 8) (ls2 := [some (.ref 0), some (.int a), some (.int b), some (.int a), some (.int b), some (.int 0), none, none, none]) (st2 := []) rfl ?_
  exact AW.eq (a_X0_merge_h8 X hR FU _ _ _ _ _ _ _ _ h) rfl rfl rfl rfl
set_option maxHeartbeats 6000000 in
set_option maxRecDepth 20000 in
theorem c_X0_unlink (v : HV) (a : Int32) (r : Unit) (w : HV) (h : f_X0_unlink v a = some (r, w)) : Sem z_X0_unlink 0 0 0 [.ref 0, .int a] (WH v) (PST (.inl none) (WH w)) := by
  refine Sem.of zo_X0_unlink (by decide +kernel) (Nat.le_of_ble_eq_true rfl) fun κ X hE hR hN => ?_
  unfold f_X0_unlink at h
  refine AW.eq (pc' := 0) (ls' := [some (.ref 0), some (.int a)]) (st' := []) (AH' := [.inr (0, [.ref 1, .ref 2, .ref 3, .ref 4, .ref 5, .int (HVCm v), .int (HVSw v), .ref 6]), .inl (0, 40, .inl (HVPr v)), .inl (0, 40, .inl (HVLf v)), .inl (0, 40, .inl (HVRt v)), .inl (0, 40, .inl (HVUp v)), .inl (0, 40, .inl (HVRk v)), .inl (0, 40, .inl (HVPa v))]) ?_ rfl rfl rfl rfl
  refine go_s 4 X (pc2 := 6) (st2 := [.int (-1), .int a, .ref 2]) rfl ?_
  by_cases b1 : oob a 40
  · rw [if_pos b1] at h; cases h
  rw [if_neg b1] at h
  refine r_iast X rfl rfl b1 ?_
  refine go_s 4 X (pc2 := 13) (st2 := [.int (-1), .int a, .ref 3]) rfl ?_
  by_cases b2 : oob a 40
  · rw [if_pos b2] at h; cases h
  rw [if_neg b2] at h
  refine r_iast X rfl rfl b2 ?_
  refine go_s 4 X (pc2 := 20) (st2 := [.int (-1), .int a, .ref 4]) rfl ?_
  by_cases b3 : oob a 40
  · rw [if_pos b3] at h; cases h
  rw [if_neg b3] at h
  refine r_iast X rfl rfl b3 ?_
  refine go_s 4 X (pc2 := 27) (st2 := [.int 0, .int a, .ref 5]) rfl ?_
  by_cases b4 : oob a 40
  · rw [if_pos b4] at h; cases h
  rw [if_neg b4] at h
  refine r_iast X rfl rfl b4 ?_
  cases h
  exact r_vret X rfl rfl ⟨rfl, rfl⟩ (by decide) (by decide)
set_option maxHeartbeats 6000000 in
set_option maxRecDepth 20000 in
theorem c_X0_plant (v : HV) (a : Int32) (b : Int32) (r : Unit) (w : HV) (h : f_X0_plant v a b = some (r, w)) : Sem z_X0_plant 1 0 0 [.ref 0, .int a, .int b] (WH v) (PST (.inl none) (WH w)) := by
  refine Sem.of zo_X0_plant (by decide +kernel) (Nat.le_of_ble_eq_true rfl) fun κ X hE hR hN => ?_
  unfold f_X0_plant at h
  refine AW.eq (pc' := 0) (ls' := [some (.ref 0), some (.int a), some (.int b)]) (st' := []) (AH' := [.inr (0, [.ref 1, .ref 2, .ref 3, .ref 4, .ref 5, .int (HVCm v), .int (HVSw v), .ref 6]), .inl (0, 40, .inl (HVPr v)), .inl (0, 40, .inl (HVLf v)), .inl (0, 40, .inl (HVRt v)), .inl (0, 40, .inl (HVUp v)), .inl (0, 40, .inl (HVRk v)), .inl (0, 40, .inl (HVPa v))]) ?_ rfl rfl rfl rfl
  refine go_s 1 X (pc2 := 1) (st2 := [.int a]) rfl ?_
  obtain ⟨r2, hq1, h⟩ := obind_inv h
  refine q_callS X [] [] (AH2 := [.inr (0, [.ref 1, .ref 2, .ref 3, .ref 4, .ref 5, .int (HVCm v), .int (HVSw v), .ref 6]), .inl (0, 40, .inl (HVPr v)), .inl (0, 40, .inl (HVLf v)), .inl (0, 40, .inl (HVRt v)), .inl (0, 40, .inl (HVUp v)), .inl (0, 40, .inl (HVRk v)), .inl (0, 40, .inl (HVPa v))]) (st2 := [.int r2]) (c_X0_isNode _ _ hq1) ⟨rfl, rfl⟩ rfl k_X0_isNode l_X0_41 rfl rfl (fit_of hR (by decide) (by decide) (by decide) (by decide)) (Nat.le_of_ble_eq_true rfl) (by decide) rfl rfl rfl ?_
  refine r_if_eq X 26 rfl rfl (fun c4 => ?_) (fun c4 => ?_)
  · rw [if_pos c4] at h
    cases h
    exact r_vret X rfl rfl ⟨rfl, rfl⟩ (by decide) (by decide)
  · rw [if_neg c4] at h
    refine go_s 4 X (pc2 := 13) (st2 := [.int b, .int a, .ref 1]) rfl ?_
    by_cases b5 : oob a 40
    · rw [if_pos b5] at h; cases h
    rw [if_neg b5] at h
    refine r_iast X rfl rfl b5 ?_
    refine go_s 2 X (pc2 := 16) (st2 := [.int a, .ref 0]) rfl ?_
    obtain ⟨r7, w8, hq6, h⟩ := bnd2_inv h
    refine q_callV X [0, 1, 2, 3, 4, 5, 6] [] (AH2 := [.inr (0, [.ref 1, .ref 2, .ref 3, .ref 4, .ref 5, .int (HVCm w8), .int (HVSw w8), .ref 6]), .inl (0, 40, .inl (HVPr w8)), .inl (0, 40, .inl (HVLf w8)), .inl (0, 40, .inl (HVRt w8)), .inl (0, 40, .inl (HVUp w8)), .inl (0, 40, .inl (HVRk w8)), .inl (0, 40, .inl (HVPa w8))]) (st2 := []) (c_X0_unlink _ _ _ _ hq6) ⟨rfl, rfl⟩ rfl k_X0_unlink l_X0_49 rfl rfl rfl rfl rfl (fit_of hR (by decide) (by decide) (by decide) (by decide)) (Nat.le_of_ble_eq_true rfl) (by decide) rfl rfl rfl ?_
    refine go_s 4 X (pc2 := 25) (st2 := [.int 1, .int a, .ref 5]) rfl ?_
    by_cases b9 : oob a 40
    · rw [if_pos b9] at h; cases h
    rw [if_neg b9] at h
    refine r_iast X rfl rfl b9 ?_
    cases h
    exact r_vret X rfl rfl ⟨rfl, rfl⟩ (by decide) (by decide)
set_option maxHeartbeats 6000000 in
set_option maxRecDepth 20000 in
theorem a_X0_takeOut_h91 {κ : KX} (X : CX κ z_X0_takeOut) (hR : κR κ = rmM 3 0 0) : ∀ (n : Nat) (l1 : Int32) (l2 : Int32) (l3 : Int32) (l4 : Int32) (l5 : Int32) (l6 : Int32) (v : HV) (r : Int32) (w : HV) (h : f_X0_takeOut_h91 n l1 l2 l3 l4 l5 l6 v = some (r, w)), AW κ (QM κ (PST (.inl (some (.int r))) (WH w)) 0 0) 91 [some (.ref 0), some (.int l1), some (.int l2), some (.int l3), some (.int l4), some (.int l5), some (.int l6)] [] (WH v) 0 0 := by
  intro n
  induction n with
  | zero =>
    intro l1 l2 l3 l4 l5 l6 v r w h
    unfold f_X0_takeOut_h91 at h
    cases h
  | succ n ih =>
    intro l1 l2 l3 l4 l5 l6 v r w h
    unfold f_X0_takeOut_h91 at h
    refine AW.eq (pc' := 91) (ls' := [some (.ref 0), some (.int l1), some (.int l2), some (.int l3), some (.int l4), some (.int l5), some (.int l6)]) (st' := []) (AH' := [.inr (0, [.ref 1, .ref 2, .ref 3, .ref 4, .ref 5, .int (HVCm v), .int (HVSw v), .ref 6]), .inl (0, 40, .inl (HVPr v)), .inl (0, 40, .inl (HVLf v)), .inl (0, 40, .inl (HVRt v)), .inl (0, 40, .inl (HVUp v)), .inl (0, 40, .inl (HVRk v)), .inl (0, 40, .inl (HVPa v))]) ?_ rfl rfl rfl rfl
    refine go_s 2 X (pc2 := 95) (st2 := [.int 40, .int l6]) rfl ?_
    refine r_icmp_ge X 127 rfl rfl (fun c24 => ?_) (fun c24 => ?_)
    · rw [if_pos c24] at h
      refine go_s 1 X (pc2 := 128) (st2 := [.int l1]) rfl ?_
      cases h
      exact r_iret X rfl rfl ⟨rfl, rfl⟩ (by decide) (by decide)
    · rw [if_neg c24] at h
      refine go_s 1 X (pc2 := 100) (st2 := [.int l5]) rfl ?_
      obtain ⟨r26, hq25, h⟩ := obind_inv h
      refine q_callS X [] [] (AH2 := [.inr (0, [.ref 1, .ref 2, .ref 3, .ref 4, .ref 5, .int (HVCm v), .int (HVSw v), .ref 6]), .inl (0, 40, .inl (HVPr v)), .inl (0, 40, .inl (HVLf v)), .inl (0, 40, .inl (HVRt v)), .inl (0, 40, .inl (HVUp v)), .inl (0, 40, .inl (HVRk v)), .inl (0, 40, .inl (HVPa v))]) (st2 := [.int r26]) (c_X0_isNode _ _ hq25) ⟨rfl, rfl⟩ rfl k_X0_isNode l_X0_41 rfl rfl (fit_of hR (by decide) (by decide) (by decide) (by decide)) (Nat.le_of_ble_eq_true rfl) (by decide) rfl rfl rfl ?_
      refine r_if_eq X 127 rfl rfl (fun c28 => ?_) (fun c28 => ?_)
      · rw [if_pos c28] at h
        refine go_s 1 X (pc2 := 128) (st2 := [.int l1]) rfl ?_
        cases h
        exact r_iret X rfl rfl ⟨rfl, rfl⟩ (by decide) (by decide)
      · rw [if_neg c28] at h
        refine go_s 2 X (pc2 := 109) (st2 := [.int l5, .ref 0]) rfl ?_
        obtain ⟨r30, w31, hq29, h⟩ := bnd2_inv h
        refine q_callV X [0, 1, 2, 3, 4, 5, 6] [] (AH2 := [.inr (0, [.ref 1, .ref 2, .ref 3, .ref 4, .ref 5, .int (HVCm w31), .int (HVSw w31), .ref 6]), .inl (0, 40, .inl (HVPr w31)), .inl (0, 40, .inl (HVLf w31)), .inl (0, 40, .inl (HVRt w31)), .inl (0, 40, .inl (HVUp w31)), .inl (0, 40, .inl (HVRk w31)), .inl (0, 40, .inl (HVPa w31))]) (st2 := []) (c_X0_settle _ _ _ _ hq29) ⟨rfl, rfl⟩ rfl k_X0_settle l_X0_61 rfl rfl rfl rfl rfl (fit_of hR (by decide) (by decide) (by decide) (by decide)) (Nat.le_of_ble_eq_true rfl) (by decide) rfl rfl rfl ?_
        refine go_s 3 X (pc2 := 118) (st2 := [.int l5, .ref 4]) rfl ?_
        by_cases b32 : oob l5 40
        · rw [if_pos b32] at h; cases h
        rw [if_neg b32] at h
        refine r_iald X rfl rfl b32 ?_
        refine go_l 3 X (pc2 := 91) (ls2 := [some (.ref 0), some (.int l1), some (.int l2), some (.int l3), some (.int l4), some (.int ((HVUp w31) (Int32.toNatClampNeg l5))), some (.int (l6 + 1))]) (st2 := []) rfl ?_
        exact AW.eq (ih _ _ _ _ _ _ _ _ _ h) rfl rfl rfl rfl
set_option maxHeartbeats 6000000 in
set_option maxRecDepth 20000 in
theorem c_X0_takeOut (v : HV) (a : Int32) (b : Int32) (r : Int32) (w : HV) (h : f_X0_takeOut v a b = some (r, w)) : Sem z_X0_takeOut 3 0 0 [.ref 0, .int a, .int b] (WH v) (PST (.inl (some (.int r))) (WH w)) := by
  refine Sem.of zo_X0_takeOut (by decide +kernel) (Nat.le_of_ble_eq_true rfl) fun κ X hE hR hN => ?_
  unfold f_X0_takeOut at h
  refine AW.eq (pc' := 0) (ls' := [some (.ref 0), some (.int a), some (.int b), none, none, none, none]) (st' := []) (AH' := [.inr (0, [.ref 1, .ref 2, .ref 3, .ref 4, .ref 5, .int (HVCm v), .int (HVSw v), .ref 6]), .inl (0, 40, .inl (HVPr v)), .inl (0, 40, .inl (HVLf v)), .inl (0, 40, .inl (HVRt v)), .inl (0, 40, .inl (HVUp v)), .inl (0, 40, .inl (HVRk v)), .inl (0, 40, .inl (HVPa v))]) ?_ rfl rfl rfl rfl
  refine go_s 1 X (pc2 := 1) (st2 := [.int b]) rfl ?_
  obtain ⟨r2, hq1, h⟩ := obind_inv h
  refine q_callS X [] [] (AH2 := [.inr (0, [.ref 1, .ref 2, .ref 3, .ref 4, .ref 5, .int (HVCm v), .int (HVSw v), .ref 6]), .inl (0, 40, .inl (HVPr v)), .inl (0, 40, .inl (HVLf v)), .inl (0, 40, .inl (HVRt v)), .inl (0, 40, .inl (HVUp v)), .inl (0, 40, .inl (HVRk v)), .inl (0, 40, .inl (HVPa v))]) (st2 := [.int r2]) (c_X0_isNode _ _ hq1) ⟨rfl, rfl⟩ rfl k_X0_isNode l_X0_41 rfl rfl (fit_of hR (by decide) (by decide) (by decide) (by decide)) (Nat.le_of_ble_eq_true rfl) (by decide) rfl rfl rfl ?_
  refine r_if_ne X 9 rfl rfl (fun c4 => ?_) (fun c4 => ?_)
  · rw [if_neg c4] at h
    refine go_s 3 X (pc2 := 14) (st2 := [.int b, .ref 4]) rfl ?_
    by_cases b5 : oob b 40
    · rw [if_pos b5] at h; cases h
    rw [if_neg b5] at h
    refine r_iald X rfl rfl b5 ?_
    refine go_l 5 X (pc2 := 22) (ls2 := [some (.ref 0), some (.int a), some (.int b), some (.int ((HVUp v) (Int32.toNatClampNeg b))), none, none, none]) (st2 := [.int b, .ref 2, .ref 0]) rfl ?_
    by_cases b6 : oob b 40
    · rw [if_pos b6] at h; cases h
    rw [if_neg b6] at h
    refine r_iald X rfl rfl b6 ?_
    refine go_s 3 X (pc2 := 28) (st2 := [.int b, .ref 3, .int ((HVLf v) (Int32.toNatClampNeg b)), .ref 0]) rfl ?_
    by_cases b7 : oob b 40
    · rw [if_pos b7] at h; cases h
    rw [if_neg b7] at h
    refine r_iald X rfl rfl b7 ?_
    obtain ⟨r9, w10, hq8, h⟩ := bnd2_inv h
    refine q_callV X [0, 1, 2, 3, 4, 5, 6] [] (AH2 := [.inr (0, [.ref 1, .ref 2, .ref 3, .ref 4, .ref 5, .int (HVCm w10), .int (HVSw w10), .ref 6]), .inl (0, 40, .inl (HVPr w10)), .inl (0, 40, .inl (HVLf w10)), .inl (0, 40, .inl (HVRt w10)), .inl (0, 40, .inl (HVUp w10)), .inl (0, 40, .inl (HVRk w10)), .inl (0, 40, .inl (HVPa w10))]) (st2 := [.int r9]) (c_X0_merge _ _ _ _ _ hq8) ⟨rfl, rfl⟩ rfl k_X0_merge l_X0_68 rfl rfl rfl rfl rfl (fit_of hR (by decide) (by decide) (by decide) (by decide)) (Nat.le_of_ble_eq_true rfl) (by decide) rfl rfl rfl ?_
    refine go_l 3 X (pc2 := 36) (ls2 := [some (.ref 0), some (.int a), some (.int b), some (.int ((HVUp v) (Int32.toNatClampNeg b))), some (.int r9), none, none]) (st2 := [.int b, .ref 0]) rfl ?_
    obtain ⟨r12, w13, hq11, h⟩ := bnd2_inv h
    refine q_callV X [0, 1, 2, 3, 4, 5, 6] [] (AH2 := [.inr (0, [.ref 1, .ref 2, .ref 3, .ref 4, .ref 5, .int (HVCm w13), .int (HVSw w13), .ref 6]), .inl (0, 40, .inl (HVPr w13)), .inl (0, 40, .inl (HVLf w13)), .inl (0, 40, .inl (HVRt w13)), .inl (0, 40, .inl (HVUp w13)), .inl (0, 40, .inl (HVRk w13)), .inl (0, 40, .inl (HVPa w13))]) (st2 := []) (c_X0_unlink _ _ _ _ hq11) ⟨rfl, rfl⟩ rfl k_X0_unlink l_X0_49 rfl rfl rfl rfl rfl (fit_of hR (by decide) (by decide) (by decide) (by decide)) (Nat.le_of_ble_eq_true rfl) (by decide) rfl rfl rfl ?_
    refine go_s 1 X (pc2 := 40) (st2 := [.int ((HVUp v) (Int32.toNatClampNeg b))]) rfl ?_
    obtain ⟨r15, hq14, h⟩ := obind_inv h
    refine q_callS X [] [] (AH2 := [.inr (0, [.ref 1, .ref 2, .ref 3, .ref 4, .ref 5, .int (HVCm w13), .int (HVSw w13), .ref 6]), .inl (0, 40, .inl (HVPr w13)), .inl (0, 40, .inl (HVLf w13)), .inl (0, 40, .inl (HVRt w13)), .inl (0, 40, .inl (HVUp w13)), .inl (0, 40, .inl (HVRk w13)), .inl (0, 40, .inl (HVPa w13))]) (st2 := [.int r15]) (c_X0_isNode _ _ hq14) ⟨rfl, rfl⟩ rfl k_X0_isNode l_X0_41 rfl rfl (fit_of hR (by decide) (by decide) (by decide) (by decide)) (Nat.le_of_ble_eq_true rfl) (by decide) rfl rfl rfl ?_
    refine r_if_ne X 49 rfl rfl (fun c17 => ?_) (fun c17 => ?_)
    · rw [if_neg c17] at h
      refine go_s 3 X (pc2 := 54) (st2 := [.int ((HVUp v) (Int32.toNatClampNeg b)), .ref 2]) rfl ?_
      by_cases b18 : oob ((HVUp v) (Int32.toNatClampNeg b)) 40
      · rw [if_pos b18] at h; cases h
      rw [if_neg b18] at h
      refine r_iald X rfl rfl b18 ?_
      refine go_s 1 X (pc2 := 56) (st2 := [.int b, .int ((HVLf w13) (Int32.toNatClampNeg ((HVUp v) (Int32.toNatClampNeg b))))]) rfl ?_
      refine r_icmp_ne X 70 rfl rfl (fun c19 => ?_) (fun c19 => ?_)
      · rw [if_neg c19] at h
        refine go_s 4 X (pc2 := 77) (st2 := [.int r9, .int ((HVUp v) (Int32.toNatClampNeg b)), .ref 3]) rfl ?_
        by_cases b20 : oob ((HVUp v) (Int32.toNatClampNeg b)) 40
        · rw [if_pos b20] at h; cases h
        rw [if_neg b20] at h
        refine r_iast X rfl rfl b20 ?_
        refine go_s 3 X (pc2 := 82) (st2 := [.int ((HVUp v) (Int32.toNatClampNeg b)), .int r9, .ref 0]) rfl ?_
        obtain ⟨r22, w23, hq21, h⟩ := bnd2_inv h
        refine q_callV X [0, 1, 2, 3, 4, 5, 6] [] (AH2 := [.inr (0, [.ref 1, .ref 2, .ref 3, .ref 4, .ref 5, .int (HVCm w23), .int (HVSw w23), .ref 6]), .inl (0, 40, .inl (HVPr w23)), .inl (0, 40, .inl (HVLf w23)), .inl (0, 40, .inl (HVRt w23)), .inl (0, 40, .inl (HVUp w23)), .inl (0, 40, .inl (HVRk w23)), .inl (0, 40, .inl (HVPa w23))]) (st2 := []) (c_X0_setAbove _ _ _ _ _ hq21) ⟨rfl, rfl⟩ rfl k_X0_setAbove l_X0_57 rfl rfl rfl rfl rfl (fit_of hR (by decide) (by decide) (by decide) (by decide)) (Nat.le_of_ble_eq_true rfl) (by decide) rfl rfl rfl ?_
        refine go_l 4 X (pc2 := 91) (ls2 := [some (.ref 0), some (.int a), some (.int b), some (.int ((HVUp v) (Int32.toNatClampNeg b))), some (.int r9), some (.int ((HVUp v) (Int32.toNatClampNeg b))), some (.int 0)]) (st2 := []) rfl ?_
        exact AW.eq (a_X0_takeOut_h91 X hR FU _ _ _ _ _ _ _ _ _ h) rfl rfl rfl rfl
      · rw [if_pos c19] at h
        refine go_s 4 X (pc2 := 66) (st2 := [.int r9, .int ((HVUp v) (Int32.toNatClampNeg b)), .ref 2]) rfl ?_
        by_cases b33 : oob ((HVUp v) (Int32.toNatClampNeg b)) 40
        · rw [if_pos b33] at h; cases h
        rw [if_neg b33] at h
        refine r_iast X rfl rfl b33 ?_
        refine go_s 4 X (pc2 := 82) (st2 := [.int ((HVUp v) (Int32.toNatClampNeg b)), .int r9, .ref 0]) rfl ?_
        obtain ⟨r35, w36, hq34, h⟩ := bnd2_inv h
        refine q_callV X [0, 1, 2, 3, 4, 5, 6] [] (AH2 := [.inr (0, [.ref 1, .ref 2, .ref 3, .ref 4, .ref 5, .int (HVCm w36), .int (HVSw w36), .ref 6]), .inl (0, 40, .inl (HVPr w36)), .inl (0, 40, .inl (HVLf w36)), .inl (0, 40, .inl (HVRt w36)), .inl (0, 40, .inl (HVUp w36)), .inl (0, 40, .inl (HVRk w36)), .inl (0, 40, .inl (HVPa w36))]) (st2 := []) (c_X0_setAbove _ _ _ _ _ hq34) ⟨rfl, rfl⟩ rfl k_X0_setAbove l_X0_57 rfl rfl rfl rfl rfl (fit_of hR (by decide) (by decide) (by decide) (by decide)) (Nat.le_of_ble_eq_true rfl) (by decide) rfl rfl rfl ?_
        refine go_l 4 X (pc2 := 91) (ls2 := [some (.ref 0), some (.int a), some (.int b), some (.int ((HVUp v) (Int32.toNatClampNeg b))), some (.int r9), some (.int ((HVUp v) (Int32.toNatClampNeg b))), some (.int 0)]) (st2 := []) rfl ?_
        exact AW.eq (a_X0_takeOut_h91 X hR FU _ _ _ _ _ _ _ _ _ h) rfl rfl rfl rfl
    · rw [if_pos c17] at h
      refine go_s 1 X (pc2 := 48) (st2 := [.int r9]) rfl ?_
      cases h
      exact r_iret X rfl rfl ⟨rfl, rfl⟩ (by decide) (by decide)
  · rw [if_pos c4] at h
    refine go_s 1 X (pc2 := 8) (st2 := [.int a]) rfl ?_
    cases h
    exact r_iret X rfl rfl ⟨rfl, rfl⟩ (by decide) (by decide)
set_option maxHeartbeats 6000000 in
set_option maxRecDepth 20000 in
theorem c_X1_clear (v : YV) (r : Unit) (w : YV) (h : f_X1_clear v = some (r, w)) : Sem z_X1_clear 0 0 0 [.ref 0] (WY v) (PST (.inl none) (WY w)) := by
  refine Sem.of zo_X1_clear (by decide +kernel) (Nat.le_of_ble_eq_true rfl) fun κ X hE hR hN => ?_
  unfold f_X1_clear at h
  refine AW.eq (pc' := 0) (ls' := [some (.ref 0)]) (st' := []) (AH' := [.inr (1, [.ref 1, .int (YVCt v), .int (YVNx v)]), .inl (4, 8, .inr (.inr (.inr (.inr (hA 2))))), .inr (7, [.ref 3, .int (SVJc ((YVKs v) 0)), .ref 10, .ref 11, .ref 12, .ref 13, .ref 14, .ref 15, .ref 16]), .inr (0, [.ref 4, .ref 5, .ref 6, .ref 7, .ref 8, .int (HVCm (SVH ((YVKs v) 0))), .int (HVSw (SVH ((YVKs v) 0))), .ref 9]), .inl (0, 40, .inl (HVPr (SVH ((YVKs v) 0)))), .inl (0, 40, .inl (HVLf (SVH ((YVKs v) 0)))), .inl (0, 40, .inl (HVRt (SVH ((YVKs v) 0)))), .inl (0, 40, .inl (HVUp (SVH ((YVKs v) 0)))), .inl (0, 40, .inl (HVRk (SVH ((YVKs v) 0)))), .inl (0, 40, .inl (HVPa (SVH ((YVKs v) 0)))), .inl (0, 40, .inl (SVOw ((YVKs v) 0))), .inl (0, 40, .inl (SVPg ((YVKs v) 0))), .inl (0, 40, .inl (SVFt ((YVKs v) 0))), .inl (0, 40, .inl (SVQu ((YVKs v) 0))), .inl (0, 6, .inl (SVRo ((YVKs v) 0))), .inl (0, 6, .inl (SVPd ((YVKs v) 0))), .inl (2, 6, .inl (SVPs ((YVKs v) 0))), .inr (7, [.ref 18, .int (SVJc ((YVKs v) 1)), .ref 25, .ref 26, .ref 27, .ref 28, .ref 29, .ref 30, .ref 31]), .inr (0, [.ref 19, .ref 20, .ref 21, .ref 22, .ref 23, .int (HVCm (SVH ((YVKs v) 1))), .int (HVSw (SVH ((YVKs v) 1))), .ref 24]), .inl (0, 40, .inl (HVPr (SVH ((YVKs v) 1)))), .inl (0, 40, .inl (HVLf (SVH ((YVKs v) 1)))), .inl (0, 40, .inl (HVRt (SVH ((YVKs v) 1)))), .inl (0, 40, .inl (HVUp (SVH ((YVKs v) 1)))), .inl (0, 40, .inl (HVRk (SVH ((YVKs v) 1)))), .inl (0, 40, .inl (HVPa (SVH ((YVKs v) 1)))), .inl (0, 40, .inl (SVOw ((YVKs v) 1))), .inl (0, 40, .inl (SVPg ((YVKs v) 1))), .inl (0, 40, .inl (SVFt ((YVKs v) 1))), .inl (0, 40, .inl (SVQu ((YVKs v) 1))), .inl (0, 6, .inl (SVRo ((YVKs v) 1))), .inl (0, 6, .inl (SVPd ((YVKs v) 1))), .inl (2, 6, .inl (SVPs ((YVKs v) 1))), .inr (7, [.ref 33, .int (SVJc ((YVKs v) 2)), .ref 40, .ref 41, .ref 42, .ref 43, .ref 44, .ref 45, .ref 46]), .inr (0, [.ref 34, .ref 35, .ref 36, .ref 37, .ref 38, .int (HVCm (SVH ((YVKs v) 2))), .int (HVSw (SVH ((YVKs v) 2))), .ref 39]), .inl (0, 40, .inl (HVPr (SVH ((YVKs v) 2)))), .inl (0, 40, .inl (HVLf (SVH ((YVKs v) 2)))), .inl (0, 40, .inl (HVRt (SVH ((YVKs v) 2)))), .inl (0, 40, .inl (HVUp (SVH ((YVKs v) 2)))), .inl (0, 40, .inl (HVRk (SVH ((YVKs v) 2)))), .inl (0, 40, .inl (HVPa (SVH ((YVKs v) 2)))), .inl (0, 40, .inl (SVOw ((YVKs v) 2))), .inl (0, 40, .inl (SVPg ((YVKs v) 2))), .inl (0, 40, .inl (SVFt ((YVKs v) 2))), .inl (0, 40, .inl (SVQu ((YVKs v) 2))), .inl (0, 6, .inl (SVRo ((YVKs v) 2))), .inl (0, 6, .inl (SVPd ((YVKs v) 2))), .inl (2, 6, .inl (SVPs ((YVKs v) 2))), .inr (7, [.ref 48, .int (SVJc ((YVKs v) 3)), .ref 55, .ref 56, .ref 57, .ref 58, .ref 59, .ref 60, .ref 61]), .inr (0, [.ref 49, .ref 50, .ref 51, .ref 52, .ref 53, .int (HVCm (SVH ((YVKs v) 3))), .int (HVSw (SVH ((YVKs v) 3))), .ref 54]), .inl (0, 40, .inl (HVPr (SVH ((YVKs v) 3)))), .inl (0, 40, .inl (HVLf (SVH ((YVKs v) 3)))), .inl (0, 40, .inl (HVRt (SVH ((YVKs v) 3)))), .inl (0, 40, .inl (HVUp (SVH ((YVKs v) 3)))), .inl (0, 40, .inl (HVRk (SVH ((YVKs v) 3)))), .inl (0, 40, .inl (HVPa (SVH ((YVKs v) 3)))), .inl (0, 40, .inl (SVOw ((YVKs v) 3))), .inl (0, 40, .inl (SVPg ((YVKs v) 3))), .inl (0, 40, .inl (SVFt ((YVKs v) 3))), .inl (0, 40, .inl (SVQu ((YVKs v) 3))), .inl (0, 6, .inl (SVRo ((YVKs v) 3))), .inl (0, 6, .inl (SVPd ((YVKs v) 3))), .inl (2, 6, .inl (SVPs ((YVKs v) 3))), .inr (7, [.ref 63, .int (SVJc ((YVKs v) 4)), .ref 70, .ref 71, .ref 72, .ref 73, .ref 74, .ref 75, .ref 76]), .inr (0, [.ref 64, .ref 65, .ref 66, .ref 67, .ref 68, .int (HVCm (SVH ((YVKs v) 4))), .int (HVSw (SVH ((YVKs v) 4))), .ref 69]), .inl (0, 40, .inl (HVPr (SVH ((YVKs v) 4)))), .inl (0, 40, .inl (HVLf (SVH ((YVKs v) 4)))), .inl (0, 40, .inl (HVRt (SVH ((YVKs v) 4)))), .inl (0, 40, .inl (HVUp (SVH ((YVKs v) 4)))), .inl (0, 40, .inl (HVRk (SVH ((YVKs v) 4)))), .inl (0, 40, .inl (HVPa (SVH ((YVKs v) 4)))), .inl (0, 40, .inl (SVOw ((YVKs v) 4))), .inl (0, 40, .inl (SVPg ((YVKs v) 4))), .inl (0, 40, .inl (SVFt ((YVKs v) 4))), .inl (0, 40, .inl (SVQu ((YVKs v) 4))), .inl (0, 6, .inl (SVRo ((YVKs v) 4))), .inl (0, 6, .inl (SVPd ((YVKs v) 4))), .inl (2, 6, .inl (SVPs ((YVKs v) 4))), .inr (7, [.ref 78, .int (SVJc ((YVKs v) 5)), .ref 85, .ref 86, .ref 87, .ref 88, .ref 89, .ref 90, .ref 91]), .inr (0, [.ref 79, .ref 80, .ref 81, .ref 82, .ref 83, .int (HVCm (SVH ((YVKs v) 5))), .int (HVSw (SVH ((YVKs v) 5))), .ref 84]), .inl (0, 40, .inl (HVPr (SVH ((YVKs v) 5)))), .inl (0, 40, .inl (HVLf (SVH ((YVKs v) 5)))), .inl (0, 40, .inl (HVRt (SVH ((YVKs v) 5)))), .inl (0, 40, .inl (HVUp (SVH ((YVKs v) 5)))), .inl (0, 40, .inl (HVRk (SVH ((YVKs v) 5)))), .inl (0, 40, .inl (HVPa (SVH ((YVKs v) 5)))), .inl (0, 40, .inl (SVOw ((YVKs v) 5))), .inl (0, 40, .inl (SVPg ((YVKs v) 5))), .inl (0, 40, .inl (SVFt ((YVKs v) 5))), .inl (0, 40, .inl (SVQu ((YVKs v) 5))), .inl (0, 6, .inl (SVRo ((YVKs v) 5))), .inl (0, 6, .inl (SVPd ((YVKs v) 5))), .inl (2, 6, .inl (SVPs ((YVKs v) 5))), .inr (7, [.ref 93, .int (SVJc ((YVKs v) 6)), .ref 100, .ref 101, .ref 102, .ref 103, .ref 104, .ref 105, .ref 106]), .inr (0, [.ref 94, .ref 95, .ref 96, .ref 97, .ref 98, .int (HVCm (SVH ((YVKs v) 6))), .int (HVSw (SVH ((YVKs v) 6))), .ref 99]), .inl (0, 40, .inl (HVPr (SVH ((YVKs v) 6)))), .inl (0, 40, .inl (HVLf (SVH ((YVKs v) 6)))), .inl (0, 40, .inl (HVRt (SVH ((YVKs v) 6)))), .inl (0, 40, .inl (HVUp (SVH ((YVKs v) 6)))), .inl (0, 40, .inl (HVRk (SVH ((YVKs v) 6)))), .inl (0, 40, .inl (HVPa (SVH ((YVKs v) 6)))), .inl (0, 40, .inl (SVOw ((YVKs v) 6))), .inl (0, 40, .inl (SVPg ((YVKs v) 6))), .inl (0, 40, .inl (SVFt ((YVKs v) 6))), .inl (0, 40, .inl (SVQu ((YVKs v) 6))), .inl (0, 6, .inl (SVRo ((YVKs v) 6))), .inl (0, 6, .inl (SVPd ((YVKs v) 6))), .inl (2, 6, .inl (SVPs ((YVKs v) 6))), .inr (7, [.ref 108, .int (SVJc ((YVKs v) 7)), .ref 115, .ref 116, .ref 117, .ref 118, .ref 119, .ref 120, .ref 121]), .inr (0, [.ref 109, .ref 110, .ref 111, .ref 112, .ref 113, .int (HVCm (SVH ((YVKs v) 7))), .int (HVSw (SVH ((YVKs v) 7))), .ref 114]), .inl (0, 40, .inl (HVPr (SVH ((YVKs v) 7)))), .inl (0, 40, .inl (HVLf (SVH ((YVKs v) 7)))), .inl (0, 40, .inl (HVRt (SVH ((YVKs v) 7)))), .inl (0, 40, .inl (HVUp (SVH ((YVKs v) 7)))), .inl (0, 40, .inl (HVRk (SVH ((YVKs v) 7)))), .inl (0, 40, .inl (HVPa (SVH ((YVKs v) 7)))), .inl (0, 40, .inl (SVOw ((YVKs v) 7))), .inl (0, 40, .inl (SVPg ((YVKs v) 7))), .inl (0, 40, .inl (SVFt ((YVKs v) 7))), .inl (0, 40, .inl (SVQu ((YVKs v) 7))), .inl (0, 6, .inl (SVRo ((YVKs v) 7))), .inl (0, 6, .inl (SVPd ((YVKs v) 7))), .inl (2, 6, .inl (SVPs ((YVKs v) 7)))]) ?_ rfl rfl rfl rfl
  refine go 3 X (pc2 := 5) (ls2 := [some (.ref 0)]) (st2 := []) (AH2 := [.inr (1, [.ref 1, .int 0, .int (YVNx v)]), .inl (4, 8, .inr (.inr (.inr (.inr (hA 2))))), .inr (7, [.ref 3, .int (SVJc ((YVKs v) 0)), .ref 10, .ref 11, .ref 12, .ref 13, .ref 14, .ref 15, .ref 16]), .inr (0, [.ref 4, .ref 5, .ref 6, .ref 7, .ref 8, .int (HVCm (SVH ((YVKs v) 0))), .int (HVSw (SVH ((YVKs v) 0))), .ref 9]), .inl (0, 40, .inl (HVPr (SVH ((YVKs v) 0)))), .inl (0, 40, .inl (HVLf (SVH ((YVKs v) 0)))), .inl (0, 40, .inl (HVRt (SVH ((YVKs v) 0)))), .inl (0, 40, .inl (HVUp (SVH ((YVKs v) 0)))), .inl (0, 40, .inl (HVRk (SVH ((YVKs v) 0)))), .inl (0, 40, .inl (HVPa (SVH ((YVKs v) 0)))), .inl (0, 40, .inl (SVOw ((YVKs v) 0))), .inl (0, 40, .inl (SVPg ((YVKs v) 0))), .inl (0, 40, .inl (SVFt ((YVKs v) 0))), .inl (0, 40, .inl (SVQu ((YVKs v) 0))), .inl (0, 6, .inl (SVRo ((YVKs v) 0))), .inl (0, 6, .inl (SVPd ((YVKs v) 0))), .inl (2, 6, .inl (SVPs ((YVKs v) 0))), .inr (7, [.ref 18, .int (SVJc ((YVKs v) 1)), .ref 25, .ref 26, .ref 27, .ref 28, .ref 29, .ref 30, .ref 31]), .inr (0, [.ref 19, .ref 20, .ref 21, .ref 22, .ref 23, .int (HVCm (SVH ((YVKs v) 1))), .int (HVSw (SVH ((YVKs v) 1))), .ref 24]), .inl (0, 40, .inl (HVPr (SVH ((YVKs v) 1)))), .inl (0, 40, .inl (HVLf (SVH ((YVKs v) 1)))), .inl (0, 40, .inl (HVRt (SVH ((YVKs v) 1)))), .inl (0, 40, .inl (HVUp (SVH ((YVKs v) 1)))), .inl (0, 40, .inl (HVRk (SVH ((YVKs v) 1)))), .inl (0, 40, .inl (HVPa (SVH ((YVKs v) 1)))), .inl (0, 40, .inl (SVOw ((YVKs v) 1))), .inl (0, 40, .inl (SVPg ((YVKs v) 1))), .inl (0, 40, .inl (SVFt ((YVKs v) 1))), .inl (0, 40, .inl (SVQu ((YVKs v) 1))), .inl (0, 6, .inl (SVRo ((YVKs v) 1))), .inl (0, 6, .inl (SVPd ((YVKs v) 1))), .inl (2, 6, .inl (SVPs ((YVKs v) 1))), .inr (7, [.ref 33, .int (SVJc ((YVKs v) 2)), .ref 40, .ref 41, .ref 42, .ref 43, .ref 44, .ref 45, .ref 46]), .inr (0, [.ref 34, .ref 35, .ref 36, .ref 37, .ref 38, .int (HVCm (SVH ((YVKs v) 2))), .int (HVSw (SVH ((YVKs v) 2))), .ref 39]), .inl (0, 40, .inl (HVPr (SVH ((YVKs v) 2)))), .inl (0, 40, .inl (HVLf (SVH ((YVKs v) 2)))), .inl (0, 40, .inl (HVRt (SVH ((YVKs v) 2)))), .inl (0, 40, .inl (HVUp (SVH ((YVKs v) 2)))), .inl (0, 40, .inl (HVRk (SVH ((YVKs v) 2)))), .inl (0, 40, .inl (HVPa (SVH ((YVKs v) 2)))), .inl (0, 40, .inl (SVOw ((YVKs v) 2))), .inl (0, 40, .inl (SVPg ((YVKs v) 2))), .inl (0, 40, .inl (SVFt ((YVKs v) 2))), .inl (0, 40, .inl (SVQu ((YVKs v) 2))), .inl (0, 6, .inl (SVRo ((YVKs v) 2))), .inl (0, 6, .inl (SVPd ((YVKs v) 2))), .inl (2, 6, .inl (SVPs ((YVKs v) 2))), .inr (7, [.ref 48, .int (SVJc ((YVKs v) 3)), .ref 55, .ref 56, .ref 57, .ref 58, .ref 59, .ref 60, .ref 61]), .inr (0, [.ref 49, .ref 50, .ref 51, .ref 52, .ref 53, .int (HVCm (SVH ((YVKs v) 3))), .int (HVSw (SVH ((YVKs v) 3))), .ref 54]), .inl (0, 40, .inl (HVPr (SVH ((YVKs v) 3)))), .inl (0, 40, .inl (HVLf (SVH ((YVKs v) 3)))), .inl (0, 40, .inl (HVRt (SVH ((YVKs v) 3)))), .inl (0, 40, .inl (HVUp (SVH ((YVKs v) 3)))), .inl (0, 40, .inl (HVRk (SVH ((YVKs v) 3)))), .inl (0, 40, .inl (HVPa (SVH ((YVKs v) 3)))), .inl (0, 40, .inl (SVOw ((YVKs v) 3))), .inl (0, 40, .inl (SVPg ((YVKs v) 3))), .inl (0, 40, .inl (SVFt ((YVKs v) 3))), .inl (0, 40, .inl (SVQu ((YVKs v) 3))), .inl (0, 6, .inl (SVRo ((YVKs v) 3))), .inl (0, 6, .inl (SVPd ((YVKs v) 3))), .inl (2, 6, .inl (SVPs ((YVKs v) 3))), .inr (7, [.ref 63, .int (SVJc ((YVKs v) 4)), .ref 70, .ref 71, .ref 72, .ref 73, .ref 74, .ref 75, .ref 76]), .inr (0, [.ref 64, .ref 65, .ref 66, .ref 67, .ref 68, .int (HVCm (SVH ((YVKs v) 4))), .int (HVSw (SVH ((YVKs v) 4))), .ref 69]), .inl (0, 40, .inl (HVPr (SVH ((YVKs v) 4)))), .inl (0, 40, .inl (HVLf (SVH ((YVKs v) 4)))), .inl (0, 40, .inl (HVRt (SVH ((YVKs v) 4)))), .inl (0, 40, .inl (HVUp (SVH ((YVKs v) 4)))), .inl (0, 40, .inl (HVRk (SVH ((YVKs v) 4)))), .inl (0, 40, .inl (HVPa (SVH ((YVKs v) 4)))), .inl (0, 40, .inl (SVOw ((YVKs v) 4))), .inl (0, 40, .inl (SVPg ((YVKs v) 4))), .inl (0, 40, .inl (SVFt ((YVKs v) 4))), .inl (0, 40, .inl (SVQu ((YVKs v) 4))), .inl (0, 6, .inl (SVRo ((YVKs v) 4))), .inl (0, 6, .inl (SVPd ((YVKs v) 4))), .inl (2, 6, .inl (SVPs ((YVKs v) 4))), .inr (7, [.ref 78, .int (SVJc ((YVKs v) 5)), .ref 85, .ref 86, .ref 87, .ref 88, .ref 89, .ref 90, .ref 91]), .inr (0, [.ref 79, .ref 80, .ref 81, .ref 82, .ref 83, .int (HVCm (SVH ((YVKs v) 5))), .int (HVSw (SVH ((YVKs v) 5))), .ref 84]), .inl (0, 40, .inl (HVPr (SVH ((YVKs v) 5)))), .inl (0, 40, .inl (HVLf (SVH ((YVKs v) 5)))), .inl (0, 40, .inl (HVRt (SVH ((YVKs v) 5)))), .inl (0, 40, .inl (HVUp (SVH ((YVKs v) 5)))), .inl (0, 40, .inl (HVRk (SVH ((YVKs v) 5)))), .inl (0, 40, .inl (HVPa (SVH ((YVKs v) 5)))), .inl (0, 40, .inl (SVOw ((YVKs v) 5))), .inl (0, 40, .inl (SVPg ((YVKs v) 5))), .inl (0, 40, .inl (SVFt ((YVKs v) 5))), .inl (0, 40, .inl (SVQu ((YVKs v) 5))), .inl (0, 6, .inl (SVRo ((YVKs v) 5))), .inl (0, 6, .inl (SVPd ((YVKs v) 5))), .inl (2, 6, .inl (SVPs ((YVKs v) 5))), .inr (7, [.ref 93, .int (SVJc ((YVKs v) 6)), .ref 100, .ref 101, .ref 102, .ref 103, .ref 104, .ref 105, .ref 106]), .inr (0, [.ref 94, .ref 95, .ref 96, .ref 97, .ref 98, .int (HVCm (SVH ((YVKs v) 6))), .int (HVSw (SVH ((YVKs v) 6))), .ref 99]), .inl (0, 40, .inl (HVPr (SVH ((YVKs v) 6)))), .inl (0, 40, .inl (HVLf (SVH ((YVKs v) 6)))), .inl (0, 40, .inl (HVRt (SVH ((YVKs v) 6)))), .inl (0, 40, .inl (HVUp (SVH ((YVKs v) 6)))), .inl (0, 40, .inl (HVRk (SVH ((YVKs v) 6)))), .inl (0, 40, .inl (HVPa (SVH ((YVKs v) 6)))), .inl (0, 40, .inl (SVOw ((YVKs v) 6))), .inl (0, 40, .inl (SVPg ((YVKs v) 6))), .inl (0, 40, .inl (SVFt ((YVKs v) 6))), .inl (0, 40, .inl (SVQu ((YVKs v) 6))), .inl (0, 6, .inl (SVRo ((YVKs v) 6))), .inl (0, 6, .inl (SVPd ((YVKs v) 6))), .inl (2, 6, .inl (SVPs ((YVKs v) 6))), .inr (7, [.ref 108, .int (SVJc ((YVKs v) 7)), .ref 115, .ref 116, .ref 117, .ref 118, .ref 119, .ref 120, .ref 121]), .inr (0, [.ref 109, .ref 110, .ref 111, .ref 112, .ref 113, .int (HVCm (SVH ((YVKs v) 7))), .int (HVSw (SVH ((YVKs v) 7))), .ref 114]), .inl (0, 40, .inl (HVPr (SVH ((YVKs v) 7)))), .inl (0, 40, .inl (HVLf (SVH ((YVKs v) 7)))), .inl (0, 40, .inl (HVRt (SVH ((YVKs v) 7)))), .inl (0, 40, .inl (HVUp (SVH ((YVKs v) 7)))), .inl (0, 40, .inl (HVRk (SVH ((YVKs v) 7)))), .inl (0, 40, .inl (HVPa (SVH ((YVKs v) 7)))), .inl (0, 40, .inl (SVOw ((YVKs v) 7))), .inl (0, 40, .inl (SVPg ((YVKs v) 7))), .inl (0, 40, .inl (SVFt ((YVKs v) 7))), .inl (0, 40, .inl (SVQu ((YVKs v) 7))), .inl (0, 6, .inl (SVRo ((YVKs v) 7))), .inl (0, 6, .inl (SVPd ((YVKs v) 7))), .inl (2, 6, .inl (SVPs ((YVKs v) 7)))]) rfl ?_
  cases h
  exact r_vret X rfl rfl ⟨rfl, rfl⟩ (by decide) (by decide)
set_option maxHeartbeats 6000000 in
set_option maxRecDepth 20000 in
theorem a_X7_copyFrom_h87 {κ : KX} (X : CX κ z_X7_copyFrom) (hR : κR κ = rmM 3 0 0) : ∀ (n : Nat) (l2 : Int32) (v : P_SV_SV) (r : Unit) (w : P_SV_SV) (h : f_X7_copyFrom_h87 n l2 v = some (r, w)), AW κ (QM κ (PST (.inl none) (WP_SV_SV w)) 0 0) 87 [some (.ref 0), some (.ref 15), some (.int l2)] [] (WP_SV_SV v) 0 0 := by
  intro n
  induction n with
  | zero =>
    intro l2 v r w h
    unfold f_X7_copyFrom_h87 at h
    cases h
  | succ n ih =>
    intro l2 v r w h
    unfold f_X7_copyFrom_h87 at h
    refine AW.eq (pc' := 87) (ls' := [some (.ref 0), some (.ref 15), some (.int l2)]) (st' := []) (AH' := [.inr (7, [.ref 1, .int (SVJc (P_SV_SVA v)), .ref 8, .ref 9, .ref 10, .ref 11, .ref 12, .ref 13, .ref 14]), .inr (0, [.ref 2, .ref 3, .ref 4, .ref 5, .ref 6, .int (HVCm (SVH (P_SV_SVA v))), .int (HVSw (SVH (P_SV_SVA v))), .ref 7]), .inl (0, 40, .inl (HVPr (SVH (P_SV_SVA v)))), .inl (0, 40, .inl (HVLf (SVH (P_SV_SVA v)))), .inl (0, 40, .inl (HVRt (SVH (P_SV_SVA v)))), .inl (0, 40, .inl (HVUp (SVH (P_SV_SVA v)))), .inl (0, 40, .inl (HVRk (SVH (P_SV_SVA v)))), .inl (0, 40, .inl (HVPa (SVH (P_SV_SVA v)))), .inl (0, 40, .inl (SVOw (P_SV_SVA v))), .inl (0, 40, .inl (SVPg (P_SV_SVA v))), .inl (0, 40, .inl (SVFt (P_SV_SVA v))), .inl (0, 40, .inl (SVQu (P_SV_SVA v))), .inl (0, 6, .inl (SVRo (P_SV_SVA v))), .inl (0, 6, .inl (SVPd (P_SV_SVA v))), .inl (2, 6, .inl (SVPs (P_SV_SVA v))), .inr (7, [.ref 16, .int (SVJc (P_SV_SVB v)), .ref 23, .ref 24, .ref 25, .ref 26, .ref 27, .ref 28, .ref 29]), .inr (0, [.ref 17, .ref 18, .ref 19, .ref 20, .ref 21, .int (HVCm (SVH (P_SV_SVB v))), .int (HVSw (SVH (P_SV_SVB v))), .ref 22]), .inl (0, 40, .inl (HVPr (SVH (P_SV_SVB v)))), .inl (0, 40, .inl (HVLf (SVH (P_SV_SVB v)))), .inl (0, 40, .inl (HVRt (SVH (P_SV_SVB v)))), .inl (0, 40, .inl (HVUp (SVH (P_SV_SVB v)))), .inl (0, 40, .inl (HVRk (SVH (P_SV_SVB v)))), .inl (0, 40, .inl (HVPa (SVH (P_SV_SVB v)))), .inl (0, 40, .inl (SVOw (P_SV_SVB v))), .inl (0, 40, .inl (SVPg (P_SV_SVB v))), .inl (0, 40, .inl (SVFt (P_SV_SVB v))), .inl (0, 40, .inl (SVQu (P_SV_SVB v))), .inl (0, 6, .inl (SVRo (P_SV_SVB v))), .inl (0, 6, .inl (SVPd (P_SV_SVB v))), .inl (2, 6, .inl (SVPs (P_SV_SVB v)))]) ?_ rfl rfl rfl rfl
    refine go_s 2 X (pc2 := 90) (st2 := [.int 6, .int l2]) rfl ?_
    refine r_icmp_ge X 111 rfl rfl (fun c4 => ?_) (fun c4 => ?_)
    · rw [if_pos c4] at h
      cases h
      exact r_vret X rfl rfl ⟨rfl, rfl⟩ (by decide) (by decide)
    · rw [if_neg c4] at h
      refine go_s 6 X (pc2 := 103) (st2 := [.int l2, .ref 29, .int l2, .ref 14]) rfl ?_
      by_cases b5 : oob l2 6
      · rw [if_pos b5] at h; cases h
      rw [if_neg b5] at h
      refine r_zald X rfl rfl b5 ?_
      by_cases b6 : oob l2 6
      · rw [if_pos b6] at h; cases h
      rw [if_neg b6] at h
      refine r_zast X rfl rfl b6 ?_
      refine go_l 2 X (pc2 := 87) (ls2 := [some (.ref 0), some (.ref 15), some (.int (l2 + 1))]) (st2 := []) rfl ?_
      exact AW.eq (ih _ _ _ _ h) rfl rfl rfl rfl
