/-! ===== 70cc: contracts, by program ===== -/
set_option maxHeartbeats 6000000 in
set_option maxRecDepth 20000 in
theorem c_X7_addJob (v : SV) (a : Int32) (b : Int32) (c : Int32) (d : Int32) (r : Int32) (w : SV) (h : f_X7_addJob v a b c d = some (r, w)) : Sem z_X7_addJob 3 0 0 [.ref 0, .int a, .int b, .int c, .int d] (WS v) (PST (.inl (some (.int r))) (WS w)) := by
  refine Sem.of zo_X7_addJob (by decide +kernel) (Nat.le_of_ble_eq_true rfl) fun κ X hE hR hN => ?_
  unfold f_X7_addJob at h
  refine AW.eq (pc' := 0) (ls' := [some (.ref 0), some (.int a), some (.int b), some (.int c), some (.int d), none]) (st' := []) (AH' := [.inr (7, [.ref 1, .int (SVJc v), .ref 8, .ref 9, .ref 10, .ref 11, .ref 12, .ref 13, .ref 14]), .inr (0, [.ref 2, .ref 3, .ref 4, .ref 5, .ref 6, .int (HVCm (SVH v)), .int (HVSw (SVH v)), .ref 7]), .inl (0, 40, .inl (HVPr (SVH v))), .inl (0, 40, .inl (HVLf (SVH v))), .inl (0, 40, .inl (HVRt (SVH v))), .inl (0, 40, .inl (HVUp (SVH v))), .inl (0, 40, .inl (HVRk (SVH v))), .inl (0, 40, .inl (HVPa (SVH v))), .inl (0, 40, .inl (SVOw v)), .inl (0, 40, .inl (SVPg v)), .inl (0, 40, .inl (SVFt v)), .inl (0, 40, .inl (SVQu v)), .inl (0, 6, .inl (SVRo v)), .inl (0, 6, .inl (SVPd v)), .inl (2, 6, .inl (SVPs v))]) ?_ rfl rfl rfl rfl
  refine go_s 1 X (pc2 := 1) (st2 := [.ref 0]) rfl ?_
  obtain ⟨r2, hq1, h⟩ := obind_inv h
  refine q_callV X [0, 1, 2, 3, 4, 5, 6, 7, 8, 9, 10, 11, 12, 13, 14] [] (AH2 := [.inr (7, [.ref 1, .int (SVJc v), .ref 8, .ref 9, .ref 10, .ref 11, .ref 12, .ref 13, .ref 14]), .inr (0, [.ref 2, .ref 3, .ref 4, .ref 5, .ref 6, .int (HVCm (SVH v)), .int (HVSw (SVH v)), .ref 7]), .inl (0, 40, .inl (HVPr (SVH v))), .inl (0, 40, .inl (HVLf (SVH v))), .inl (0, 40, .inl (HVRt (SVH v))), .inl (0, 40, .inl (HVUp (SVH v))), .inl (0, 40, .inl (HVRk (SVH v))), .inl (0, 40, .inl (HVPa (SVH v))), .inl (0, 40, .inl (SVOw v)), .inl (0, 40, .inl (SVPg v)), .inl (0, 40, .inl (SVFt v)), .inl (0, 40, .inl (SVQu v)), .inl (0, 6, .inl (SVRo v)), .inl (0, 6, .inl (SVPd v)), .inl (2, 6, .inl (SVPs v))]) (st2 := [.int r2]) (c_X7_isFull _ _ hq1) ⟨rfl, rfl⟩ rfl k_X7_isFull l_X7_63 rfl rfl rfl rfl rfl (fit_of hR (by decide) (by decide) (by decide) (by decide)) (Nat.le_of_ble_eq_true rfl) (by decide) rfl rfl rfl ?_
  refine r_if_ne X 21 rfl rfl (fun c4 => ?_) (fun c4 => ?_)
  · rw [if_neg c4] at h
    refine go_s 1 X (pc2 := 22) (st2 := [.int (-1)]) rfl ?_
    cases h
    exact r_iret X rfl rfl ⟨rfl, rfl⟩ (by decide) (by decide)
  · rw [if_pos c4] at h
    refine go_s 2 X (pc2 := 11) (st2 := [.int (SVJc v)]) rfl ?_
    refine r_if_lt X 21 rfl rfl (fun c5 => ?_) (fun c5 => ?_)
    · rw [if_pos c5] at h
      refine go_s 1 X (pc2 := 22) (st2 := [.int (-1)]) rfl ?_
      cases h
      exact r_iret X rfl rfl ⟨rfl, rfl⟩ (by decide) (by decide)
    · rw [if_neg c5] at h
      refine go_s 1 X (pc2 := 15) (st2 := [.int a]) rfl ?_
      obtain ⟨r7, hq6, h⟩ := obind_inv h
      refine q_callS X [] [] (AH2 := [.inr (7, [.ref 1, .int (SVJc v), .ref 8, .ref 9, .ref 10, .ref 11, .ref 12, .ref 13, .ref 14]), .inr (0, [.ref 2, .ref 3, .ref 4, .ref 5, .ref 6, .int (HVCm (SVH v)), .int (HVSw (SVH v)), .ref 7]), .inl (0, 40, .inl (HVPr (SVH v))), .inl (0, 40, .inl (HVLf (SVH v))), .inl (0, 40, .inl (HVRt (SVH v))), .inl (0, 40, .inl (HVUp (SVH v))), .inl (0, 40, .inl (HVRk (SVH v))), .inl (0, 40, .inl (HVPa (SVH v))), .inl (0, 40, .inl (SVOw v)), .inl (0, 40, .inl (SVPg v)), .inl (0, 40, .inl (SVFt v)), .inl (0, 40, .inl (SVQu v)), .inl (0, 6, .inl (SVRo v)), .inl (0, 6, .inl (SVPd v)), .inl (2, 6, .inl (SVPs v))]) (st2 := [.int r7]) (c_X7_isQueue _ _ hq6) ⟨rfl, rfl⟩ rfl k_X7_isQueue l_X7_56 rfl rfl (fit_of hR (by decide) (by decide) (by decide) (by decide)) (Nat.le_of_ble_eq_true rfl) (by decide) rfl rfl rfl ?_
      refine r_if_ne X 23 rfl rfl (fun c9 => ?_) (fun c9 => ?_)
      · rw [if_neg c9] at h
        refine go 13 X (pc2 := 46) (ls2 := [some (.ref 0), some (.int a), some (.int b), some (.int c), some (.int d), some (.int (SVJc v))]) (st2 := [.int b, .int (SVJc v), .ref 8]) (AH2 := [.inr (7, [.ref 1, .int ((SVJc v) + 1), .ref 8, .ref 9, .ref 10, .ref 11, .ref 12, .ref 13, .ref 14]), .inr (0, [.ref 2, .ref 3, .ref 4, .ref 5, .ref 6, .int (HVCm (SVH v)), .int (HVSw (SVH v)), .ref 7]), .inl (0, 40, .inl (HVPr (SVH v))), .inl (0, 40, .inl (HVLf (SVH v))), .inl (0, 40, .inl (HVRt (SVH v))), .inl (0, 40, .inl (HVUp (SVH v))), .inl (0, 40, .inl (HVRk (SVH v))), .inl (0, 40, .inl (HVPa (SVH v))), .inl (0, 40, .inl (SVOw v)), .inl (0, 40, .inl (SVPg v)), .inl (0, 40, .inl (SVFt v)), .inl (0, 40, .inl (SVQu v)), .inl (0, 6, .inl (SVRo v)), .inl (0, 6, .inl (SVPd v)), .inl (2, 6, .inl (SVPs v))]) rfl ?_
        by_cases b10 : oob (SVJc v) 40
        · rw [if_pos b10] at h; cases h
        rw [if_neg b10] at h
        refine r_iast X rfl rfl b10 ?_
        refine go_s 4 X (pc2 := 55) (st2 := [.int d, .int (SVJc v), .ref 9]) rfl ?_
        by_cases b11 : oob (SVJc v) 40
        · rw [if_pos b11] at h; cases h
        rw [if_neg b11] at h
        refine r_iast X rfl rfl b11 ?_
        refine go_s 4 X (pc2 := 63) (st2 := [.int 0, .int (SVJc v), .ref 10]) rfl ?_
        by_cases b12 : oob (SVJc v) 40
        · rw [if_pos b12] at h; cases h
        rw [if_neg b12] at h
        refine r_iast X rfl rfl b12 ?_
        refine go_s 4 X (pc2 := 71) (st2 := [.int a, .int (SVJc v), .ref 11]) rfl ?_
        by_cases b13 : oob (SVJc v) 40
        · rw [if_pos b13] at h; cases h
        rw [if_neg b13] at h
        refine r_iast X rfl rfl b13 ?_
        refine go_s 4 X (pc2 := 79) (st2 := [.int c, .int (SVJc v), .ref 1]) rfl ?_
        obtain ⟨r15, w16, hq14, h⟩ := bnd2_inv h
        refine q_callV X [1, 2, 3, 4, 5, 6, 7] [] (AH2 := [.inr (7, [.ref 1, .int ((SVJc v) + 1), .ref 8, .ref 9, .ref 10, .ref 11, .ref 12, .ref 13, .ref 14]), .inr (0, [.ref 2, .ref 3, .ref 4, .ref 5, .ref 6, .int (HVCm w16), .int (HVSw w16), .ref 7]), .inl (0, 40, .inl (HVPr w16)), .inl (0, 40, .inl (HVLf w16)), .inl (0, 40, .inl (HVRt w16)), .inl (0, 40, .inl (HVUp w16)), .inl (0, 40, .inl (HVRk w16)), .inl (0, 40, .inl (HVPa w16)), .inl (0, 40, .inl (upd (SVOw v) (Int32.toNatClampNeg (SVJc v)) b)), .inl (0, 40, .inl (upd (SVPg v) (Int32.toNatClampNeg (SVJc v)) d)), .inl (0, 40, .inl (upd (SVFt v) (Int32.toNatClampNeg (SVJc v)) 0)), .inl (0, 40, .inl (upd (SVQu v) (Int32.toNatClampNeg (SVJc v)) a)), .inl (0, 6, .inl (SVRo v)), .inl (0, 6, .inl (SVPd v)), .inl (2, 6, .inl (SVPs v))]) (st2 := []) (c_X0_plant _ _ _ _ _ hq14) ⟨rfl, rfl⟩ rfl k_X0_plant l_X7_67 rfl rfl rfl rfl rfl (fit_of hR (by decide) (by decide) (by decide) (by decide)) (Nat.le_of_ble_eq_true rfl) (by decide) rfl rfl rfl ?_
        refine go_s 8 X (pc2 := 96) (st2 := [.int a, .ref 12, .ref 1, .int a, .ref 12]) rfl ?_
        by_cases b17 : oob a 6
        · rw [if_pos b17] at h; cases h
        rw [if_neg b17] at h
        refine r_iald X rfl rfl b17 ?_
        refine go_s 1 X (pc2 := 99) (st2 := [.int (SVJc v), .int ((SVRo v) (Int32.toNatClampNeg a)), .ref 1, .int a, .ref 12]) rfl ?_
        obtain ⟨r19, w20, hq18, h⟩ := bnd2_inv h
        refine q_callV X [1, 2, 3, 4, 5, 6, 7] [] (AH2 := [.inr (7, [.ref 1, .int ((SVJc v) + 1), .ref 8, .ref 9, .ref 10, .ref 11, .ref 12, .ref 13, .ref 14]), .inr (0, [.ref 2, .ref 3, .ref 4, .ref 5, .ref 6, .int (HVCm w20), .int (HVSw w20), .ref 7]), .inl (0, 40, .inl (HVPr w20)), .inl (0, 40, .inl (HVLf w20)), .inl (0, 40, .inl (HVRt w20)), .inl (0, 40, .inl (HVUp w20)), .inl (0, 40, .inl (HVRk w20)), .inl (0, 40, .inl (HVPa w20)), .inl (0, 40, .inl (upd (SVOw v) (Int32.toNatClampNeg (SVJc v)) b)), .inl (0, 40, .inl (upd (SVPg v) (Int32.toNatClampNeg (SVJc v)) d)), .inl (0, 40, .inl (upd (SVFt v) (Int32.toNatClampNeg (SVJc v)) 0)), .inl (0, 40, .inl (upd (SVQu v) (Int32.toNatClampNeg (SVJc v)) a)), .inl (0, 6, .inl (SVRo v)), .inl (0, 6, .inl (SVPd v)), .inl (2, 6, .inl (SVPs v))]) (st2 := [.int r19, .int a, .ref 12]) (c_X0_merge _ _ _ _ _ hq18) ⟨rfl, rfl⟩ rfl k_X0_merge l_X7_71 rfl rfl rfl rfl rfl (fit_of hR (by decide) (by decide) (by decide) (by decide)) (Nat.le_of_ble_eq_true rfl) (by decide) rfl rfl rfl ?_
        by_cases b21 : oob a 6
        · rw [if_pos b21] at h; cases h
        rw [if_neg b21] at h
        refine r_iast X rfl rfl b21 ?_
        refine go_s 1 X (pc2 := 105) (st2 := [.int (SVJc v)]) rfl ?_
        cases h
        exact r_iret X rfl rfl ⟨rfl, rfl⟩ (by decide) (by decide)
      · rw [if_pos c9] at h
        refine go_s 1 X (pc2 := 22) (st2 := [.int (-1)]) rfl ?_
        cases h
        exact r_iret X rfl rfl ⟨rfl, rfl⟩ (by decide) (by decide)
set_option maxHeartbeats 6000000 in
set_option maxRecDepth 20000 in
theorem c_X7_waits (v : SV) (a : Int32) (r : Int32) (h : f_X7_waits v a = some r) : Sem z_X7_waits 1 0 0 [.ref 0, .int a] (WS v) (PST (.inl (some (.int r))) (WS v)) := by
  refine Sem.of zo_X7_waits (by decide +kernel) (Nat.le_of_ble_eq_true rfl) fun κ X hE hR hN => ?_
  unfold f_X7_waits at h
  refine AW.eq (pc' := 0) (ls' := [some (.ref 0), some (.int a)]) (st' := []) (AH' := [.inr (7, [.ref 1, .int (SVJc v), .ref 8, .ref 9, .ref 10, .ref 11, .ref 12, .ref 13, .ref 14]), .inr (0, [.ref 2, .ref 3, .ref 4, .ref 5, .ref 6, .int (HVCm (SVH v)), .int (HVSw (SVH v)), .ref 7]), .inl (0, 40, .inl (HVPr (SVH v))), .inl (0, 40, .inl (HVLf (SVH v))), .inl (0, 40, .inl (HVRt (SVH v))), .inl (0, 40, .inl (HVUp (SVH v))), .inl (0, 40, .inl (HVRk (SVH v))), .inl (0, 40, .inl (HVPa (SVH v))), .inl (0, 40, .inl (SVOw v)), .inl (0, 40, .inl (SVPg v)), .inl (0, 40, .inl (SVFt v)), .inl (0, 40, .inl (SVQu v)), .inl (0, 6, .inl (SVRo v)), .inl (0, 6, .inl (SVPd v)), .inl (2, 6, .inl (SVPs v))]) ?_ rfl rfl rfl rfl
  refine go_s 1 X (pc2 := 1) (st2 := [.int a]) rfl ?_
  refine r_if_lt X 43 rfl rfl (fun c1 => ?_) (fun c1 => ?_)
  · rw [if_pos c1] at h
    refine go_s 1 X (pc2 := 44) (st2 := [.int 0]) rfl ?_
    cases h
    exact r_zret X (ty := .boolean) rfl rfl rfl ⟨rfl, rfl⟩ (by decide) (by decide)
  · rw [if_neg c1] at h
    refine go_s 3 X (pc2 := 9) (st2 := [.int (SVJc v), .int a]) rfl ?_
    refine r_icmp_ge X 43 rfl rfl (fun c2 => ?_) (fun c2 => ?_)
    · rw [if_pos c2] at h
      refine go_s 1 X (pc2 := 44) (st2 := [.int 0]) rfl ?_
      cases h
      exact r_zret X (ty := .boolean) rfl rfl rfl ⟨rfl, rfl⟩ (by decide) (by decide)
    · rw [if_neg c2] at h
      refine go_s 2 X (pc2 := 15) (st2 := [.int 40, .int a]) rfl ?_
      refine r_icmp_ge X 43 rfl rfl (fun c3 => ?_) (fun c3 => ?_)
      · rw [if_pos c3] at h
        refine go_s 1 X (pc2 := 44) (st2 := [.int 0]) rfl ?_
        cases h
        exact r_zret X (ty := .boolean) rfl rfl rfl ⟨rfl, rfl⟩ (by decide) (by decide)
      · rw [if_neg c3] at h
        refine go_s 3 X (pc2 := 23) (st2 := [.int a, .ref 10]) rfl ?_
        by_cases b4 : oob a 40
        · rw [if_pos b4] at h; cases h
        rw [if_neg b4] at h
        refine r_iald X rfl rfl b4 ?_
        refine r_if_ne X 43 rfl rfl (fun c5 => ?_) (fun c5 => ?_)
        · rw [if_neg c5] at h
          refine go_s 1 X (pc2 := 44) (st2 := [.int 0]) rfl ?_
          cases h
          exact r_zret X (ty := .boolean) rfl rfl rfl ⟨rfl, rfl⟩ (by decide) (by decide)
        · rw [if_pos c5] at h
          refine go_s 3 X (pc2 := 32) (st2 := [.int a, .ref 11]) rfl ?_
          by_cases b6 : oob a 40
          · rw [if_pos b6] at h; cases h
          rw [if_neg b6] at h
          refine r_iald X rfl rfl b6 ?_
          obtain ⟨r8, hq7, h⟩ := obind_inv h
          refine q_callS X [] [] (AH2 := [.inr (7, [.ref 1, .int (SVJc v), .ref 8, .ref 9, .ref 10, .ref 11, .ref 12, .ref 13, .ref 14]), .inr (0, [.ref 2, .ref 3, .ref 4, .ref 5, .ref 6, .int (HVCm (SVH v)), .int (HVSw (SVH v)), .ref 7]), .inl (0, 40, .inl (HVPr (SVH v))), .inl (0, 40, .inl (HVLf (SVH v))), .inl (0, 40, .inl (HVRt (SVH v))), .inl (0, 40, .inl (HVUp (SVH v))), .inl (0, 40, .inl (HVRk (SVH v))), .inl (0, 40, .inl (HVPa (SVH v))), .inl (0, 40, .inl (SVOw v)), .inl (0, 40, .inl (SVPg v)), .inl (0, 40, .inl (SVFt v)), .inl (0, 40, .inl (SVQu v)), .inl (0, 6, .inl (SVRo v)), .inl (0, 6, .inl (SVPd v)), .inl (2, 6, .inl (SVPs v))]) (st2 := [.int r8]) (c_X7_isQueue _ _ hq7) ⟨rfl, rfl⟩ rfl k_X7_isQueue l_X7_56 rfl rfl (fit_of hR (by decide) (by decide) (by decide) (by decide)) (Nat.le_of_ble_eq_true rfl) (by decide) rfl rfl rfl ?_
          refine r_if_eq X 43 rfl rfl (fun c10 => ?_) (fun c10 => ?_)
          · rw [if_pos c10] at h
            refine go_s 1 X (pc2 := 44) (st2 := [.int 0]) rfl ?_
            cases h
            exact r_zret X (ty := .boolean) rfl rfl rfl ⟨rfl, rfl⟩ (by decide) (by decide)
          · rw [if_neg c10] at h
            refine go_s 2 X (pc2 := 44) (st2 := [.int 1]) rfl ?_
            cases h
            exact r_zret X (ty := .boolean) rfl rfl rfl ⟨rfl, rfl⟩ (by decide) (by decide)
set_option maxHeartbeats 6000000 in
set_option maxRecDepth 20000 in
theorem c_X7_canMove (v : SV) (a : Int32) (b : Int32) (r : Int32) (h : f_X7_canMove v a b = some r) : Sem z_X7_canMove 2 0 0 [.ref 0, .int a, .int b] (WS v) (PST (.inl (some (.int r))) (WS v)) := by
  refine Sem.of zo_X7_canMove (by decide +kernel) (Nat.le_of_ble_eq_true rfl) fun κ X hE hR hN => ?_
  unfold f_X7_canMove at h
  refine AW.eq (pc' := 0) (ls' := [some (.ref 0), some (.int a), some (.int b)]) (st' := []) (AH' := [.inr (7, [.ref 1, .int (SVJc v), .ref 8, .ref 9, .ref 10, .ref 11, .ref 12, .ref 13, .ref 14]), .inr (0, [.ref 2, .ref 3, .ref 4, .ref 5, .ref 6, .int (HVCm (SVH v)), .int (HVSw (SVH v)), .ref 7]), .inl (0, 40, .inl (HVPr (SVH v))), .inl (0, 40, .inl (HVLf (SVH v))), .inl (0, 40, .inl (HVRt (SVH v))), .inl (0, 40, .inl (HVUp (SVH v))), .inl (0, 40, .inl (HVRk (SVH v))), .inl (0, 40, .inl (HVPa (SVH v))), .inl (0, 40, .inl (SVOw v)), .inl (0, 40, .inl (SVPg v)), .inl (0, 40, .inl (SVFt v)), .inl (0, 40, .inl (SVQu v)), .inl (0, 6, .inl (SVRo v)), .inl (0, 6, .inl (SVPd v)), .inl (2, 6, .inl (SVPs v))]) ?_ rfl rfl rfl rfl
  refine go_s 2 X (pc2 := 2) (st2 := [.int a, .ref 0]) rfl ?_
  obtain ⟨r2, hq1, h⟩ := obind_inv h
  refine q_callV X [0, 1, 2, 3, 4, 5, 6, 7, 8, 9, 10, 11, 12, 13, 14] [] (AH2 := [.inr (7, [.ref 1, .int (SVJc v), .ref 8, .ref 9, .ref 10, .ref 11, .ref 12, .ref 13, .ref 14]), .inr (0, [.ref 2, .ref 3, .ref 4, .ref 5, .ref 6, .int (HVCm (SVH v)), .int (HVSw (SVH v)), .ref 7]), .inl (0, 40, .inl (HVPr (SVH v))), .inl (0, 40, .inl (HVLf (SVH v))), .inl (0, 40, .inl (HVRt (SVH v))), .inl (0, 40, .inl (HVUp (SVH v))), .inl (0, 40, .inl (HVRk (SVH v))), .inl (0, 40, .inl (HVPa (SVH v))), .inl (0, 40, .inl (SVOw v)), .inl (0, 40, .inl (SVPg v)), .inl (0, 40, .inl (SVFt v)), .inl (0, 40, .inl (SVQu v)), .inl (0, 6, .inl (SVRo v)), .inl (0, 6, .inl (SVPd v)), .inl (2, 6, .inl (SVPs v))]) (st2 := [.int r2]) (c_X7_waits _ _ _ hq1) ⟨rfl, rfl⟩ rfl k_X7_waits l_X7_60 rfl rfl rfl rfl rfl (fit_of hR (by decide) (by decide) (by decide) (by decide)) (Nat.le_of_ble_eq_true rfl) (by decide) rfl rfl rfl ?_
  refine r_if_eq X 22 rfl rfl (fun c4 => ?_) (fun c4 => ?_)
  · rw [if_pos c4] at h
    refine go_s 1 X (pc2 := 23) (st2 := [.int 0]) rfl ?_
    cases h
    exact r_zret X (ty := .boolean) rfl rfl rfl ⟨rfl, rfl⟩ (by decide) (by decide)
  · rw [if_neg c4] at h
    refine go_s 3 X (pc2 := 13) (st2 := [.int a, .ref 11]) rfl ?_
    by_cases b5 : oob a 40
    · rw [if_pos b5] at h; cases h
    rw [if_neg b5] at h
    refine r_iald X rfl rfl b5 ?_
    refine go_s 1 X (pc2 := 15) (st2 := [.int b, .int ((SVQu v) (Int32.toNatClampNeg a))]) rfl ?_
    refine r_icmp_eq X 22 rfl rfl (fun c6 => ?_) (fun c6 => ?_)
    · rw [if_pos c6] at h
      refine go_s 1 X (pc2 := 23) (st2 := [.int 0]) rfl ?_
      cases h
      exact r_zret X (ty := .boolean) rfl rfl rfl ⟨rfl, rfl⟩ (by decide) (by decide)
    · rw [if_neg c6] at h
      refine go_s 2 X (pc2 := 23) (st2 := [.int 1]) rfl ?_
      cases h
      exact r_zret X (ty := .boolean) rfl rfl rfl ⟨rfl, rfl⟩ (by decide) (by decide)
set_option maxHeartbeats 6000000 in
set_option maxRecDepth 20000 in
theorem a_X7_clear_h14 {κ : KX} (X : CX κ z_X7_clear) (hR : κR κ = rmM 1 0 0) : ∀ (n : Nat) (l1 : Int32) (v : SV) (r : Unit) (w : SV) (h : f_X7_clear_h14 n l1 v = some (r, w)), AW κ (QM κ (PST (.inl none) (WS w)) 0 0) 14 [some (.ref 0), some (.int l1)] [] (WS v) 0 0 := by
  intro n
  induction n with
  | zero =>
    intro l1 v r w h
    unfold f_X7_clear_h14 at h
    cases h
  | succ n ih =>
    intro l1 v r w h
    unfold f_X7_clear_h14 at h
    refine AW.eq (pc' := 14) (ls' := [some (.ref 0), some (.int l1)]) (st' := []) (AH' := [.inr (7, [.ref 1, .int (SVJc v), .ref 8, .ref 9, .ref 10, .ref 11, .ref 12, .ref 13, .ref 14]), .inr (0, [.ref 2, .ref 3, .ref 4, .ref 5, .ref 6, .int (HVCm (SVH v)), .int (HVSw (SVH v)), .ref 7]), .inl (0, 40, .inl (HVPr (SVH v))), .inl (0, 40, .inl (HVLf (SVH v))), .inl (0, 40, .inl (HVRt (SVH v))), .inl (0, 40, .inl (HVUp (SVH v))), .inl (0, 40, .inl (HVRk (SVH v))), .inl (0, 40, .inl (HVPa (SVH v))), .inl (0, 40, .inl (SVOw v)), .inl (0, 40, .inl (SVPg v)), .inl (0, 40, .inl (SVFt v)), .inl (0, 40, .inl (SVQu v)), .inl (0, 6, .inl (SVRo v)), .inl (0, 6, .inl (SVPd v)), .inl (2, 6, .inl (SVPs v))]) ?_ rfl rfl rfl rfl
    refine go_s 2 X (pc2 := 17) (st2 := [.int 6, .int l1]) rfl ?_
    refine r_icmp_ge X 47 rfl rfl (fun c4 => ?_) (fun c4 => ?_)
    · rw [if_pos c4] at h
      cases h
      exact r_vret X rfl rfl ⟨rfl, rfl⟩ (by decide) (by decide)
    · rw [if_neg c4] at h
      refine go_s 4 X (pc2 := 26) (st2 := [.int (-1), .int l1, .ref 12]) rfl ?_
      by_cases b5 : oob l1 6
      · rw [if_pos b5] at h; cases h
      rw [if_neg b5] at h
      refine r_iast X rfl rfl b5 ?_
      refine go_s 4 X (pc2 := 33) (st2 := [.int 0, .int l1, .ref 13]) rfl ?_
      by_cases b6 : oob l1 6
      · rw [if_pos b6] at h; cases h
      rw [if_neg b6] at h
      refine r_iast X rfl rfl b6 ?_
      refine go_s 4 X (pc2 := 40) (st2 := [.int 0, .int l1, .ref 14]) rfl ?_
      by_cases b7 : oob l1 6
      · rw [if_pos b7] at h; cases h
      rw [if_neg b7] at h
      refine r_zast X rfl rfl b7 ?_
      refine go_l 2 X (pc2 := 14) (ls2 := [some (.ref 0), some (.int (l1 + 1))]) (st2 := []) rfl ?_
      exact AW.eq (ih _ _ _ _ h) rfl rfl rfl rfl
set_option maxHeartbeats 6000000 in
set_option maxRecDepth 20000 in
theorem c_X7_clear (v : SV) (r : Unit) (w : SV) (h : f_X7_clear v = some (r, w)) : Sem z_X7_clear 1 0 0 [.ref 0] (WS v) (PST (.inl none) (WS w)) := by
  refine Sem.of zo_X7_clear (by decide +kernel) (Nat.le_of_ble_eq_true rfl) fun κ X hE hR hN => ?_
  unfold f_X7_clear at h
  refine AW.eq (pc' := 0) (ls' := [some (.ref 0), none]) (st' := []) (AH' := [.inr (7, [.ref 1, .int (SVJc v), .ref 8, .ref 9, .ref 10, .ref 11, .ref 12, .ref 13, .ref 14]), .inr (0, [.ref 2, .ref 3, .ref 4, .ref 5, .ref 6, .int (HVCm (SVH v)), .int (HVSw (SVH v)), .ref 7]), .inl (0, 40, .inl (HVPr (SVH v))), .inl (0, 40, .inl (HVLf (SVH v))), .inl (0, 40, .inl (HVRt (SVH v))), .inl (0, 40, .inl (HVUp (SVH v))), .inl (0, 40, .inl (HVRk (SVH v))), .inl (0, 40, .inl (HVPa (SVH v))), .inl (0, 40, .inl (SVOw v)), .inl (0, 40, .inl (SVPg v)), .inl (0, 40, .inl (SVFt v)), .inl (0, 40, .inl (SVQu v)), .inl (0, 6, .inl (SVRo v)), .inl (0, 6, .inl (SVPd v)), .inl (2, 6, .inl (SVPs v))]) ?_ rfl rfl rfl rfl
  refine go 5 X (pc2 := 9) (ls2 := [some (.ref 0), none]) (st2 := [.ref 1]) (AH2 := [.inr (7, [.ref 1, .int 0, .ref 8, .ref 9, .ref 10, .ref 11, .ref 12, .ref 13, .ref 14]), .inr (0, [.ref 2, .ref 3, .ref 4, .ref 5, .ref 6, .int (HVCm (SVH v)), .int (HVSw (SVH v)), .ref 7]), .inl (0, 40, .inl (HVPr (SVH v))), .inl (0, 40, .inl (HVLf (SVH v))), .inl (0, 40, .inl (HVRt (SVH v))), .inl (0, 40, .inl (HVUp (SVH v))), .inl (0, 40, .inl (HVRk (SVH v))), .inl (0, 40, .inl (HVPa (SVH v))), .inl (0, 40, .inl (SVOw v)), .inl (0, 40, .inl (SVPg v)), .inl (0, 40, .inl (SVFt v)), .inl (0, 40, .inl (SVQu v)), .inl (0, 6, .inl (SVRo v)), .inl (0, 6, .inl (SVPd v)), .inl (2, 6, .inl (SVPs v))]) rfl ?_
  obtain ⟨r2, w3, hq1, h⟩ := bnd2_inv h
  refine q_callV X [1, 2, 3, 4, 5, 6, 7] [] (AH2 := [.inr (7, [.ref 1, .int 0, .ref 8, .ref 9, .ref 10, .ref 11, .ref 12, .ref 13, .ref 14]), .inr (0, [.ref 2, .ref 3, .ref 4, .ref 5, .ref 6, .int (HVCm w3), .int (HVSw w3), .ref 7]), .inl (0, 40, .inl (HVPr w3)), .inl (0, 40, .inl (HVLf w3)), .inl (0, 40, .inl (HVRt w3)), .inl (0, 40, .inl (HVUp w3)), .inl (0, 40, .inl (HVRk w3)), .inl (0, 40, .inl (HVPa w3)), .inl (0, 40, .inl (SVOw v)), .inl (0, 40, .inl (SVPg v)), .inl (0, 40, .inl (SVFt v)), .inl (0, 40, .inl (SVQu v)), .inl (0, 6, .inl (SVRo v)), .inl (0, 6, .inl (SVPd v)), .inl (2, 6, .inl (SVPs v))]) (st2 := []) (c_X0_clearCounters _ _ _ hq1) ⟨rfl, rfl⟩ rfl k_X0_clearCounters l_X7_45 rfl rfl rfl rfl rfl (fit_of hR (by decide) (by decide) (by decide) (by decide)) (Nat.le_of_ble_eq_true rfl) (by decide) rfl rfl rfl ?_
  refine go_l 2 X (pc2 := 14) (ls2 := [some (.ref 0), some (.int 0)]) (st2 := []) rfl ?_
  exact AW.eq (a_X7_clear_h14 X hR FU _ _ _ _ h) rfl rfl rfl rfl
set_option maxHeartbeats 6000000 in
set_option maxRecDepth 20000 in
theorem a_X7_firstAfter_h5 {κ : KX} (X : CX κ z_X7_firstAfter) (hR : κR κ = rmM 2 0 0) : ∀ (n : Nat) (l1 : Int32) (l2 : Int32) (l3 : Int32) (l4 : Int32) (v : SV) (r : Int32) (h : f_X7_firstAfter_h5 n l1 l2 l3 l4 v = some r), AW κ (QM κ (PST (.inl (some (.int r))) (WS v)) 0 0) 5 [some (.ref 0), some (.int l1), some (.int l2), some (.int l3), some (.int l4), none] [] (WS v) 0 0 := by
  intro n
  induction n with
  | zero =>
    intro l1 l2 l3 l4 v r h
    unfold f_X7_firstAfter_h5 at h
    cases h
  | succ n ih =>
    intro l1 l2 l3 l4 v r h
    unfold f_X7_firstAfter_h5 at h
    refine AW.eq (pc' := 5) (ls' := [some (.ref 0), some (.int l1), some (.int l2), some (.int l3), some (.int l4), none]) (st' := []) (AH' := [.inr (7, [.ref 1, .int (SVJc v), .ref 8, .ref 9, .ref 10, .ref 11, .ref 12, .ref 13, .ref 14]), .inr (0, [.ref 2, .ref 3, .ref 4, .ref 5, .ref 6, .int (HVCm (SVH v)), .int (HVSw (SVH v)), .ref 7]), .inl (0, 40, .inl (HVPr (SVH v))), .inl (0, 40, .inl (HVLf (SVH v))), .inl (0, 40, .inl (HVRt (SVH v))), .inl (0, 40, .inl (HVUp (SVH v))), .inl (0, 40, .inl (HVRk (SVH v))), .inl (0, 40, .inl (HVPa (SVH v))), .inl (0, 40, .inl (SVOw v)), .inl (0, 40, .inl (SVPg v)), .inl (0, 40, .inl (SVFt v)), .inl (0, 40, .inl (SVQu v)), .inl (0, 6, .inl (SVRo v)), .inl (0, 6, .inl (SVPd v)), .inl (2, 6, .inl (SVPs v))]) ?_ rfl rfl rfl rfl
    refine go_s 3 X (pc2 := 11) (st2 := [.int (SVJc v), .int l4]) rfl ?_
    refine r_icmp_ge X 89 rfl rfl (fun c1 => ?_) (fun c1 => ?_)
    · rw [if_pos c1] at h
      refine go_s 1 X (pc2 := 90) (st2 := [.int l3]) rfl ?_
      cases h
      exact r_iret X rfl rfl ⟨rfl, rfl⟩ (by decide) (by decide)
    · rw [if_neg c1] at h
      refine go_s 2 X (pc2 := 18) (st2 := [.int 40, .int l4]) rfl ?_
      refine r_icmp_ge X 89 rfl rfl (fun c2 => ?_) (fun c2 => ?_)
      · rw [if_pos c2] at h
        refine go_s 1 X (pc2 := 90) (st2 := [.int l3]) rfl ?_
        cases h
        exact r_iret X rfl rfl ⟨rfl, rfl⟩ (by decide) (by decide)
      · rw [if_neg c2] at h
        refine go_s 3 X (pc2 := 27) (st2 := [.int l4, .ref 11]) rfl ?_
        by_cases b3 : oob l4 40
        · rw [if_pos b3] at h; cases h
        rw [if_neg b3] at h
        refine r_iald X rfl rfl b3 ?_
        refine go_s 1 X (pc2 := 29) (st2 := [.int l1, .int ((SVQu v) (Int32.toNatClampNeg l4))]) rfl ?_
        refine r_icmp_ne X 54 rfl rfl (fun c4 => ?_) (fun c4 => ?_)
        · rw [if_neg c4] at h
          refine go_l 3 X (pc2 := 59) (ls2 := [some (.ref 0), some (.int l1), some (.int l2), some (.int l3), some (.int l4), some (.int 0)]) (st2 := [.int 0]) rfl ?_
          refine r_if_eq X 83 rfl rfl (fun c5 => ?_) (fun c5 => ?_)
          · refine go_l 2 X (pc2 := 5) (ls2 := [some (.ref 0), some (.int l1), some (.int l2), some (.int l3), some (.int (l4 + 1)), some (.int 0)]) (st2 := []) rfl ?_
            refine AW.forget (ls' := [some (.ref 0), some (.int l1), some (.int l2), some (.int l3), some (.int (l4 + 1)), none]) rfl (subL_of ⟨rfl, ⟨rfl, ⟨rfl, ⟨rfl, ⟨rfl, trivial⟩⟩⟩⟩⟩) ?_
            exact AW.eq (ih _ _ _ _ _ _ h) rfl rfl rfl rfl
          · exact absurd c5 (by decide)
        · rw [if_pos c4] at h
          refine go_s 2 X (pc2 := 34) (st2 := [.int (-1), .int l2]) rfl ?_
          refine r_icmp_eq X 50 rfl rfl (fun c6 => ?_) (fun c6 => ?_)
          · rw [if_pos c6] at h
            refine go_l 4 X (pc2 := 59) (ls2 := [some (.ref 0), some (.int l1), some (.int l2), some (.int l3), some (.int l4), some (.int 1)]) (st2 := [.int 1]) rfl ?_
            refine r_if_eq X 83 rfl rfl (fun c7 => ?_) (fun c7 => ?_)
            · exact absurd c7 (by decide)
            · refine go_s 2 X (pc2 := 64) (st2 := [.int (-1), .int l3]) rfl ?_
              refine r_icmp_eq X 80 rfl rfl (fun c8 => ?_) (fun c8 => ?_)
              · rw [if_pos c8] at h
                refine go_l 4 X (pc2 := 5) (ls2 := [some (.ref 0), some (.int l1), some (.int l2), some (.int l4), some (.int (l4 + 1)), some (.int 1)]) (st2 := []) rfl ?_
                refine AW.forget (ls' := [some (.ref 0), some (.int l1), some (.int l2), some (.int l4), some (.int (l4 + 1)), none]) rfl (subL_of ⟨rfl, ⟨rfl, ⟨rfl, ⟨rfl, ⟨rfl, trivial⟩⟩⟩⟩⟩) ?_
                exact AW.eq (ih _ _ _ _ _ _ h) rfl rfl rfl rfl
              · rw [if_neg c8] at h
                refine go_s 4 X (pc2 := 74) (st2 := [.int l3, .int l4, .ref 1]) rfl ?_
                obtain ⟨r10, hq9, h⟩ := obind_inv h
                refine q_callV X [1, 2, 3, 4, 5, 6, 7] [] (AH2 := [.inr (7, [.ref 1, .int (SVJc v), .ref 8, .ref 9, .ref 10, .ref 11, .ref 12, .ref 13, .ref 14]), .inr (0, [.ref 2, .ref 3, .ref 4, .ref 5, .ref 6, .int (HVCm (SVH v)), .int (HVSw (SVH v)), .ref 7]), .inl (0, 40, .inl (HVPr (SVH v))), .inl (0, 40, .inl (HVLf (SVH v))), .inl (0, 40, .inl (HVRt (SVH v))), .inl (0, 40, .inl (HVUp (SVH v))), .inl (0, 40, .inl (HVRk (SVH v))), .inl (0, 40, .inl (HVPa (SVH v))), .inl (0, 40, .inl (SVOw v)), .inl (0, 40, .inl (SVPg v)), .inl (0, 40, .inl (SVFt v)), .inl (0, 40, .inl (SVQu v)), .inl (0, 6, .inl (SVRo v)), .inl (0, 6, .inl (SVPd v)), .inl (2, 6, .inl (SVPs v))]) (st2 := [.int r10]) (c_X0_precedes _ _ _ _ hq9) ⟨rfl, rfl⟩ rfl k_X0_precedes l_X7_90 rfl rfl rfl rfl rfl (fit_of hR (by decide) (by decide) (by decide) (by decide)) (Nat.le_of_ble_eq_true rfl) (by decide) rfl rfl rfl ?_
                refine r_if_eq X 83 rfl rfl (fun c12 => ?_) (fun c12 => ?_)
                · rw [if_pos c12] at h
                  refine go_l 2 X (pc2 := 5) (ls2 := [some (.ref 0), some (.int l1), some (.int l2), some (.int l3), some (.int (l4 + 1)), some (.int 1)]) (st2 := []) rfl ?_
                  refine AW.forget (ls' := [some (.ref 0), some (.int l1), some (.int l2), some (.int l3), some (.int (l4 + 1)), none]) rfl (subL_of ⟨rfl, ⟨rfl, ⟨rfl, ⟨rfl, ⟨rfl, trivial⟩⟩⟩⟩⟩) ?_
                  exact AW.eq (ih _ _ _ _ _ _ h) rfl rfl rfl rfl
                · rw [if_neg c12] at h
                  refine go_l 4 X (pc2 := 5) (ls2 := [some (.ref 0), some (.int l1), some (.int l2), some (.int l4), some (.int (l4 + 1)), some (.int 1)]) (st2 := []) rfl ?_
                  refine AW.forget (ls' := [some (.ref 0), some (.int l1), some (.int l2), some (.int l4), some (.int (l4 + 1)), none]) rfl (subL_of ⟨rfl, ⟨rfl, ⟨rfl, ⟨rfl, ⟨rfl, trivial⟩⟩⟩⟩⟩) ?_
                  exact AW.eq (ih _ _ _ _ _ _ h) rfl rfl rfl rfl
          · rw [if_neg c6] at h
            refine go_s 4 X (pc2 := 44) (st2 := [.int l4, .int l2, .ref 1]) rfl ?_
            obtain ⟨r14, hq13, h⟩ := obind_inv h
            refine q_callV X [1, 2, 3, 4, 5, 6, 7] [] (AH2 := [.inr (7, [.ref 1, .int (SVJc v), .ref 8, .ref 9, .ref 10, .ref 11, .ref 12, .ref 13, .ref 14]), .inr (0, [.ref 2, .ref 3, .ref 4, .ref 5, .ref 6, .int (HVCm (SVH v)), .int (HVSw (SVH v)), .ref 7]), .inl (0, 40, .inl (HVPr (SVH v))), .inl (0, 40, .inl (HVLf (SVH v))), .inl (0, 40, .inl (HVRt (SVH v))), .inl (0, 40, .inl (HVUp (SVH v))), .inl (0, 40, .inl (HVRk (SVH v))), .inl (0, 40, .inl (HVPa (SVH v))), .inl (0, 40, .inl (SVOw v)), .inl (0, 40, .inl (SVPg v)), .inl (0, 40, .inl (SVFt v)), .inl (0, 40, .inl (SVQu v)), .inl (0, 6, .inl (SVRo v)), .inl (0, 6, .inl (SVPd v)), .inl (2, 6, .inl (SVPs v))]) (st2 := [.int r14]) (c_X0_precedes _ _ _ _ hq13) ⟨rfl, rfl⟩ rfl k_X0_precedes l_X7_90 rfl rfl rfl rfl rfl (fit_of hR (by decide) (by decide) (by decide) (by decide)) (Nat.le_of_ble_eq_true rfl) (by decide) rfl rfl rfl ?_
            refine r_if_eq X 54 rfl rfl (fun c16 => ?_) (fun c16 => ?_)
            · rw [if_pos c16] at h
              refine go_l 3 X (pc2 := 59) (ls2 := [some (.ref 0), some (.int l1), some (.int l2), some (.int l3), some (.int l4), some (.int 0)]) (st2 := [.int 0]) rfl ?_
              refine r_if_eq X 83 rfl rfl (fun c17 => ?_) (fun c17 => ?_)
              · refine go_l 2 X (pc2 := 5) (ls2 := [some (.ref 0), some (.int l1), some (.int l2), some (.int l3), some (.int (l4 + 1)), some (.int 0)]) (st2 := []) rfl ?_
                refine AW.forget (ls' := [some (.ref 0), some (.int l1), some (.int l2), some (.int l3), some (.int (l4 + 1)), none]) rfl (subL_of ⟨rfl, ⟨rfl, ⟨rfl, ⟨rfl, ⟨rfl, trivial⟩⟩⟩⟩⟩) ?_
                exact AW.eq (ih _ _ _ _ _ _ h) rfl rfl rfl rfl
              · exact absurd c17 (by decide)
            · rw [if_neg c16] at h
              refine go_l 4 X (pc2 := 59) (ls2 := [some (.ref 0), some (.int l1), some (.int l2), some (.int l3), some (.int l4), some (.int 1)]) (st2 := [.int 1]) rfl ?_
              refine r_if_eq X 83 rfl rfl (fun c18 => ?_) (fun c18 => ?_)
              · exact absurd c18 (by decide)
              · refine go_s 2 X (pc2 := 64) (st2 := [.int (-1), .int l3]) rfl ?_
                refine r_icmp_eq X 80 rfl rfl (fun c19 => ?_) (fun c19 => ?_)
                · rw [if_pos c19] at h
                  refine go_l 4 X (pc2 := 5) (ls2 := [some (.ref 0), some (.int l1), some (.int l2), some (.int l4), some (.int (l4 + 1)), some (.int 1)]) (st2 := []) rfl ?_
                  refine AW.forget (ls' := [some (.ref 0), some (.int l1), some (.int l2), some (.int l4), some (.int (l4 + 1)), none]) rfl (subL_of ⟨rfl, ⟨rfl, ⟨rfl, ⟨rfl, ⟨rfl, trivial⟩⟩⟩⟩⟩) ?_
                  exact AW.eq (ih _ _ _ _ _ _ h) rfl rfl rfl rfl
                · rw [if_neg c19] at h
                  refine go_s 4 X (pc2 := 74) (st2 := [.int l3, .int l4, .ref 1]) rfl ?_
                  obtain ⟨r21, hq20, h⟩ := obind_inv h
                  refine q_callV X [1, 2, 3, 4, 5, 6, 7] [] (AH2 := [.inr (7, [.ref 1, .int (SVJc v), .ref 8, .ref 9, .ref 10, .ref 11, .ref 12, .ref 13, .ref 14]), .inr (0, [.ref 2, .ref 3, .ref 4, .ref 5, .ref 6, .int (HVCm (SVH v)), .int (HVSw (SVH v)), .ref 7]), .inl (0, 40, .inl (HVPr (SVH v))), .inl (0, 40, .inl (HVLf (SVH v))), .inl (0, 40, .inl (HVRt (SVH v))), .inl (0, 40, .inl (HVUp (SVH v))), .inl (0, 40, .inl (HVRk (SVH v))), .inl (0, 40, .inl (HVPa (SVH v))), .inl (0, 40, .inl (SVOw v)), .inl (0, 40, .inl (SVPg v)), .inl (0, 40, .inl (SVFt v)), .inl (0, 40, .inl (SVQu v)), .inl (0, 6, .inl (SVRo v)), .inl (0, 6, .inl (SVPd v)), .inl (2, 6, .inl (SVPs v))]) (st2 := [.int r21]) (c_X0_precedes _ _ _ _ hq20) ⟨rfl, rfl⟩ rfl k_X0_precedes l_X7_90 rfl rfl rfl rfl rfl (fit_of hR (by decide) (by decide) (by decide) (by decide)) (Nat.le_of_ble_eq_true rfl) (by decide) rfl rfl rfl ?_
                  refine r_if_eq X 83 rfl rfl (fun c23 => ?_) (fun c23 => ?_)
                  · rw [if_pos c23] at h
                    refine go_l 2 X (pc2 := 5) (ls2 := [some (.ref 0), some (.int l1), some (.int l2), some (.int l3), some (.int (l4 + 1)), some (.int 1)]) (st2 := []) rfl ?_
                    refine AW.forget (ls' := [some (.ref 0), some (.int l1), some (.int l2), some (.int l3), some (.int (l4 + 1)), none]) rfl (subL_of ⟨rfl, ⟨rfl, ⟨rfl, ⟨rfl, ⟨rfl, trivial⟩⟩⟩⟩⟩) ?_
                    exact AW.eq (ih _ _ _ _ _ _ h) rfl rfl rfl rfl
                  · rw [if_neg c23] at h
                    refine go_l 4 X (pc2 := 5) (ls2 := [some (.ref 0), some (.int l1), some (.int l2), some (.int l4), some (.int (l4 + 1)), some (.int 1)]) (st2 := []) rfl ?_
                    refine AW.forget (ls' := [some (.ref 0), some (.int l1), some (.int l2), some (.int l4), some (.int (l4 + 1)), none]) rfl (subL_of ⟨rfl, ⟨rfl, ⟨rfl, ⟨rfl, ⟨rfl, trivial⟩⟩⟩⟩⟩) ?_
                    exact AW.eq (ih _ _ _ _ _ _ h) rfl rfl rfl rfl
set_option maxHeartbeats 6000000 in
set_option maxRecDepth 20000 in
theorem c_X7_firstAfter (v : SV) (a : Int32) (b : Int32) (r : Int32) (h : f_X7_firstAfter v a b = some r) : Sem z_X7_firstAfter 2 0 0 [.ref 0, .int a, .int b] (WS v) (PST (.inl (some (.int r))) (WS v)) := by
  refine Sem.of zo_X7_firstAfter (by decide +kernel) (Nat.le_of_ble_eq_true rfl) fun κ X hE hR hN => ?_
  unfold f_X7_firstAfter at h
  refine AW.eq (pc' := 0) (ls' := [some (.ref 0), some (.int a), some (.int b), none, none, none]) (st' := []) (AH' := [.inr (7, [.ref 1, .int (SVJc v), .ref 8, .ref 9, .ref 10, .ref 11, .ref 12, .ref 13, .ref 14]), .inr (0, [.ref 2, .ref 3, .ref 4, .ref 5, .ref 6, .int (HVCm (SVH v)), .int (HVSw (SVH v)), .ref 7]), .inl (0, 40, .inl (HVPr (SVH v))), .inl (0, 40, .inl (HVLf (SVH v))), .inl (0, 40, .inl (HVRt (SVH v))), .inl (0, 40, .inl (HVUp (SVH v))), .inl (0, 40, .inl (HVRk (SVH v))), .inl (0, 40, .inl (HVPa (SVH v))), .inl (0, 40, .inl (SVOw v)), .inl (0, 40, .inl (SVPg v)), .inl (0, 40, .inl (SVFt v)), .inl (0, 40, .inl (SVQu v)), .inl (0, 6, .inl (SVRo v)), .inl (0, 6, .inl (SVPd v)), .inl (2, 6, .inl (SVPs v))]) ?_ rfl rfl rfl rfl
  refine go_l 4 X (pc2 := 5) (ls2 := [some (.ref 0), some (.int a), some (.int b), some (.int (-1)), some (.int 0), none]) (st2 := []) rfl ?_
  exact AW.eq (a_X7_firstAfter_h5 X hR FU _ _ _ _ _ _ h) rfl rfl rfl rfl
set_option maxHeartbeats 6000000 in
set_option maxRecDepth 20000 in
theorem a_X7_empties_h27 {κ : KX} (X : CX κ z_X7_empties) (hR : κR κ = rmM 4 0 0) : ∀ (n : Nat) (l1 : Int32) (l3 : Int32) (l4 : Int32) (l5 : Int32) (v : P_SV_HV) (r : Int32) (w : P_SV_HV) (h : f_X7_empties_h27 n l1 l3 l4 l5 v = some (r, w)), AW κ (QM κ (PST (.inl (some (.int r))) (WP_SV_HV w)) 0 0) 27 [some (.ref 0), some (.int l1), some (.ref 15), some (.int l3), some (.int l4), some (.int l5)] [] (WP_SV_HV v) 0 0 := by
  intro n
  induction n with
  | zero =>
    intro l1 l3 l4 l5 v r w h
    unfold f_X7_empties_h27 at h
    cases h
  | succ n ih =>
    intro l1 l3 l4 l5 v r w h
    unfold f_X7_empties_h27 at h
    refine AW.eq (pc' := 27) (ls' := [some (.ref 0), some (.int l1), some (.ref 15), some (.int l3), some (.int l4), some (.int l5)]) (st' := []) (AH' := [.inr (7, [.ref 1, .int (SVJc (P_SV_HVA v)), .ref 8, .ref 9, .ref 10, .ref 11, .ref 12, .ref 13, .ref 14]), .inr (0, [.ref 2, .ref 3, .ref 4, .ref 5, .ref 6, .int (HVCm (SVH (P_SV_HVA v))), .int (HVSw (SVH (P_SV_HVA v))), .ref 7]), .inl (0, 40, .inl (HVPr (SVH (P_SV_HVA v)))), .inl (0, 40, .inl (HVLf (SVH (P_SV_HVA v)))), .inl (0, 40, .inl (HVRt (SVH (P_SV_HVA v)))), .inl (0, 40, .inl (HVUp (SVH (P_SV_HVA v)))), .inl (0, 40, .inl (HVRk (SVH (P_SV_HVA v)))), .inl (0, 40, .inl (HVPa (SVH (P_SV_HVA v)))), .inl (0, 40, .inl (SVOw (P_SV_HVA v))), .inl (0, 40, .inl (SVPg (P_SV_HVA v))), .inl (0, 40, .inl (SVFt (P_SV_HVA v))), .inl (0, 40, .inl (SVQu (P_SV_HVA v))), .inl (0, 6, .inl (SVRo (P_SV_HVA v))), .inl (0, 6, .inl (SVPd (P_SV_HVA v))), .inl (2, 6, .inl (SVPs (P_SV_HVA v))), .inr (0, [.ref 16, .ref 17, .ref 18, .ref 19, .ref 20, .int (HVCm (P_SV_HVB v)), .int (HVSw (P_SV_HVB v)), .ref 21]), .inl (0, 40, .inl (HVPr (P_SV_HVB v))), .inl (0, 40, .inl (HVLf (P_SV_HVB v))), .inl (0, 40, .inl (HVRt (P_SV_HVB v))), .inl (0, 40, .inl (HVUp (P_SV_HVB v))), .inl (0, 40, .inl (HVRk (P_SV_HVB v))), .inl (0, 40, .inl (HVPa (P_SV_HVB v)))]) ?_ rfl rfl rfl rfl
    refine go_s 2 X (pc2 := 31) (st2 := [.int 40, .int l5]) rfl ?_
    refine r_icmp_ge X 67 rfl rfl (fun c9 => ?_) (fun c9 => ?_)
    · rw [if_pos c9] at h
      refine go_s 2 X (pc2 := 69) (st2 := [.int (-1), .int l3]) rfl ?_
      refine r_icmp_ne X 82 rfl rfl (fun c10 => ?_) (fun c10 => ?_)
      · rw [if_neg c10] at h
        refine go_s 1 X (pc2 := 83) (st2 := [.int 0]) rfl ?_
        cases h
        exact r_zret X (ty := .boolean) rfl rfl rfl ⟨rfl, rfl⟩ (by decide) (by decide)
      · rw [if_pos c10] at h
        refine go_s 2 X (pc2 := 75) (st2 := [.int (-1), .int l4]) rfl ?_
        refine r_icmp_ne X 82 rfl rfl (fun c11 => ?_) (fun c11 => ?_)
        · rw [if_neg c11] at h
          refine go_s 1 X (pc2 := 83) (st2 := [.int 0]) rfl ?_
          cases h
          exact r_zret X (ty := .boolean) rfl rfl rfl ⟨rfl, rfl⟩ (by decide) (by decide)
        · rw [if_pos c11] at h
          refine go_s 2 X (pc2 := 83) (st2 := [.int 1]) rfl ?_
          cases h
          exact r_zret X (ty := .boolean) rfl rfl rfl ⟨rfl, rfl⟩ (by decide) (by decide)
    · rw [if_neg c9] at h
      refine go_s 2 X (pc2 := 36) (st2 := [.int (-1), .int l3]) rfl ?_
      refine r_icmp_eq X 67 rfl rfl (fun c12 => ?_) (fun c12 => ?_)
      · rw [if_pos c12] at h
        refine go_s 2 X (pc2 := 69) (st2 := [.int (-1), .int l3]) rfl ?_
        refine r_icmp_ne X 82 rfl rfl (fun c13 => ?_) (fun c13 => ?_)
        · rw [if_neg c13] at h
          refine go_s 1 X (pc2 := 83) (st2 := [.int 0]) rfl ?_
          cases h
          exact r_zret X (ty := .boolean) rfl rfl rfl ⟨rfl, rfl⟩ (by decide) (by decide)
        · rw [if_pos c13] at h
          refine go_s 2 X (pc2 := 75) (st2 := [.int (-1), .int l4]) rfl ?_
          refine r_icmp_ne X 82 rfl rfl (fun c14 => ?_) (fun c14 => ?_)
          · rw [if_neg c14] at h
            refine go_s 1 X (pc2 := 83) (st2 := [.int 0]) rfl ?_
            cases h
            exact r_zret X (ty := .boolean) rfl rfl rfl ⟨rfl, rfl⟩ (by decide) (by decide)
          · rw [if_pos c14] at h
            refine go_s 2 X (pc2 := 83) (st2 := [.int 1]) rfl ?_
            cases h
            exact r_zret X (ty := .boolean) rfl rfl rfl ⟨rfl, rfl⟩ (by decide) (by decide)
      · rw [if_neg c12] at h
        refine go_s 2 X (pc2 := 42) (st2 := [.int l4, .int l3]) rfl ?_
        refine r_icmp_ne X 67 rfl rfl (fun c15 => ?_) (fun c15 => ?_)
        · rw [if_neg c15] at h
          refine go_s 2 X (pc2 := 69) (st2 := [.int (-1), .int l3]) rfl ?_
          refine r_icmp_ne X 82 rfl rfl (fun c16 => ?_) (fun c16 => ?_)
          · rw [if_neg c16] at h
            refine go_s 1 X (pc2 := 83) (st2 := [.int 0]) rfl ?_
            cases h
            exact r_zret X (ty := .boolean) rfl rfl rfl ⟨rfl, rfl⟩ (by decide) (by decide)
          · rw [if_pos c16] at h
            refine go_s 2 X (pc2 := 75) (st2 := [.int (-1), .int l4]) rfl ?_
            refine r_icmp_ne X 82 rfl rfl (fun c17 => ?_) (fun c17 => ?_)
            · rw [if_neg c17] at h
              refine go_s 1 X (pc2 := 83) (st2 := [.int 0]) rfl ?_
              cases h
              exact r_zret X (ty := .boolean) rfl rfl rfl ⟨rfl, rfl⟩ (by decide) (by decide)
            · rw [if_pos c17] at h
              refine go_s 2 X (pc2 := 83) (st2 := [.int 1]) rfl ?_
              cases h
              exact r_zret X (ty := .boolean) rfl rfl rfl ⟨rfl, rfl⟩ (by decide) (by decide)
        · rw [if_pos c15] at h
          refine go_s 3 X (pc2 := 48) (st2 := [.int l3, .int l3, .ref 15]) rfl ?_
          obtain ⟨r19, w20, hq18, h⟩ := bnd2_inv h
          refine q_callV X [15, 16, 17, 18, 19, 20, 21] [] (AH2 := [.inr (7, [.ref 1, .int (SVJc (P_SV_HVA v)), .ref 8, .ref 9, .ref 10, .ref 11, .ref 12, .ref 13, .ref 14]), .inr (0, [.ref 2, .ref 3, .ref 4, .ref 5, .ref 6, .int (HVCm (SVH (P_SV_HVA v))), .int (HVSw (SVH (P_SV_HVA v))), .ref 7]), .inl (0, 40, .inl (HVPr (SVH (P_SV_HVA v)))), .inl (0, 40, .inl (HVLf (SVH (P_SV_HVA v)))), .inl (0, 40, .inl (HVRt (SVH (P_SV_HVA v)))), .inl (0, 40, .inl (HVUp (SVH (P_SV_HVA v)))), .inl (0, 40, .inl (HVRk (SVH (P_SV_HVA v)))), .inl (0, 40, .inl (HVPa (SVH (P_SV_HVA v)))), .inl (0, 40, .inl (SVOw (P_SV_HVA v))), .inl (0, 40, .inl (SVPg (P_SV_HVA v))), .inl (0, 40, .inl (SVFt (P_SV_HVA v))), .inl (0, 40, .inl (SVQu (P_SV_HVA v))), .inl (0, 6, .inl (SVRo (P_SV_HVA v))), .inl (0, 6, .inl (SVPd (P_SV_HVA v))), .inl (2, 6, .inl (SVPs (P_SV_HVA v))), .inr (0, [.ref 16, .ref 17, .ref 18, .ref 19, .ref 20, .int (HVCm w20), .int (HVSw w20), .ref 21]), .inl (0, 40, .inl (HVPr w20)), .inl (0, 40, .inl (HVLf w20)), .inl (0, 40, .inl (HVRt w20)), .inl (0, 40, .inl (HVUp w20)), .inl (0, 40, .inl (HVRk w20)), .inl (0, 40, .inl (HVPa w20))]) (st2 := [.int r19]) (c_X0_takeOut _ _ _ _ _ hq18) ⟨rfl, rfl⟩ rfl k_X0_takeOut l_X7_75 rfl rfl rfl rfl rfl (fit_of hR (by decide) (by decide) (by decide) (by decide)) (Nat.le_of_ble_eq_true rfl) (by decide) rfl ((putB_bld (s := [none, none, none, none, none, none, none, none, none, none, none, none, none, none, none, some 0, some 1, some 2, some 3, some 4, some 5, some 6]) (by decide +kernel) rfl rfl).trans rfl) rfl ?_
          refine go_l 4 X (pc2 := 56) (ls2 := [some (.ref 0), some (.int l1), some (.ref 15), some (.int r19), some (.int l4), some (.int l5)]) (st2 := [.int l4, .int l1, .ref 0]) rfl ?_
          obtain ⟨r22, hq21, h⟩ := obind_inv h
          refine q_callV X [0, 1, 2, 3, 4, 5, 6, 7, 8, 9, 10, 11, 12, 13, 14] [] (AH2 := [.inr (7, [.ref 1, .int (SVJc (P_SV_HVA v)), .ref 8, .ref 9, .ref 10, .ref 11, .ref 12, .ref 13, .ref 14]), .inr (0, [.ref 2, .ref 3, .ref 4, .ref 5, .ref 6, .int (HVCm (SVH (P_SV_HVA v))), .int (HVSw (SVH (P_SV_HVA v))), .ref 7]), .inl (0, 40, .inl (HVPr (SVH (P_SV_HVA v)))), .inl (0, 40, .inl (HVLf (SVH (P_SV_HVA v)))), .inl (0, 40, .inl (HVRt (SVH (P_SV_HVA v)))), .inl (0, 40, .inl (HVUp (SVH (P_SV_HVA v)))), .inl (0, 40, .inl (HVRk (SVH (P_SV_HVA v)))), .inl (0, 40, .inl (HVPa (SVH (P_SV_HVA v)))), .inl (0, 40, .inl (SVOw (P_SV_HVA v))), .inl (0, 40, .inl (SVPg (P_SV_HVA v))), .inl (0, 40, .inl (SVFt (P_SV_HVA v))), .inl (0, 40, .inl (SVQu (P_SV_HVA v))), .inl (0, 6, .inl (SVRo (P_SV_HVA v))), .inl (0, 6, .inl (SVPd (P_SV_HVA v))), .inl (2, 6, .inl (SVPs (P_SV_HVA v))), .inr (0, [.ref 16, .ref 17, .ref 18, .ref 19, .ref 20, .int (HVCm w20), .int (HVSw w20), .ref 21]), .inl (0, 40, .inl (HVPr w20)), .inl (0, 40, .inl (HVLf w20)), .inl (0, 40, .inl (HVRt w20)), .inl (0, 40, .inl (HVUp w20)), .inl (0, 40, .inl (HVRk w20)), .inl (0, 40, .inl (HVPa w20))]) (st2 := [.int r22]) (c_X7_firstAfter _ _ _ _ hq21) ⟨rfl, rfl⟩ rfl k_X7_firstAfter l_X7_107 rfl rfl rfl rfl rfl (fit_of hR (by decide) (by decide) (by decide) (by decide)) (Nat.le_of_ble_eq_true rfl) (by decide) rfl ((putB_bld (s := [some 0, some 1, some 2, some 3, some 4, some 5, some 6, some 7, some 8, some 9, some 10, some 11, some 12, some 13, some 14, none, none, none, none, none, none, none]) (by decide +kernel) rfl rfl).trans rfl) rfl ?_
          refine go_l 3 X (pc2 := 27) (ls2 := [some (.ref 0), some (.int l1), some (.ref 15), some (.int r19), some (.int r22), some (.int (l5 + 1))]) (st2 := []) rfl ?_
          exact AW.eq (ih _ _ _ _ _ _ _ h) rfl rfl rfl rfl
set_option maxHeartbeats 6000000 in
set_option maxRecDepth 20000 in
theorem c_X7_empties (v : P_SV_HV) (a : Int32) (r : Int32) (w : P_SV_HV) (h : f_X7_empties v a = some (r, w)) : Sem z_X7_empties 4 0 0 [.ref 0, .int a, .ref 15] (WP_SV_HV v) (PST (.inl (some (.int r))) (WP_SV_HV w)) := by
  refine Sem.of zo_X7_empties (by decide +kernel) (Nat.le_of_ble_eq_true rfl) fun κ X hE hR hN => ?_
  unfold f_X7_empties at h
  refine AW.eq (pc' := 0) (ls' := [some (.ref 0), some (.int a), some (.ref 15), none, none, none]) (st' := []) (AH' := [.inr (7, [.ref 1, .int (SVJc (P_SV_HVA v)), .ref 8, .ref 9, .ref 10, .ref 11, .ref 12, .ref 13, .ref 14]), .inr (0, [.ref 2, .ref 3, .ref 4, .ref 5, .ref 6, .int (HVCm (SVH (P_SV_HVA v))), .int (HVSw (SVH (P_SV_HVA v))), .ref 7]), .inl (0, 40, .inl (HVPr (SVH (P_SV_HVA v)))), .inl (0, 40, .inl (HVLf (SVH (P_SV_HVA v)))), .inl (0, 40, .inl (HVRt (SVH (P_SV_HVA v)))), .inl (0, 40, .inl (HVUp (SVH (P_SV_HVA v)))), .inl (0, 40, .inl (HVRk (SVH (P_SV_HVA v)))), .inl (0, 40, .inl (HVPa (SVH (P_SV_HVA v)))), .inl (0, 40, .inl (SVOw (P_SV_HVA v))), .inl (0, 40, .inl (SVPg (P_SV_HVA v))), .inl (0, 40, .inl (SVFt (P_SV_HVA v))), .inl (0, 40, .inl (SVQu (P_SV_HVA v))), .inl (0, 6, .inl (SVRo (P_SV_HVA v))), .inl (0, 6, .inl (SVPd (P_SV_HVA v))), .inl (2, 6, .inl (SVPs (P_SV_HVA v))), .inr (0, [.ref 16, .ref 17, .ref 18, .ref 19, .ref 20, .int (HVCm (P_SV_HVB v)), .int (HVSw (P_SV_HVB v)), .ref 21]), .inl (0, 40, .inl (HVPr (P_SV_HVB v))), .inl (0, 40, .inl (HVLf (P_SV_HVB v))), .inl (0, 40, .inl (HVRt (P_SV_HVB v))), .inl (0, 40, .inl (HVUp (P_SV_HVB v))), .inl (0, 40, .inl (HVRk (P_SV_HVB v))), .inl (0, 40, .inl (HVPa (P_SV_HVB v)))]) ?_ rfl rfl rfl rfl
  refine go_s 1 X (pc2 := 1) (st2 := [.int a]) rfl ?_
  obtain ⟨r2, hq1, h⟩ := obind_inv h
  refine q_callS X [] [] (AH2 := [.inr (7, [.ref 1, .int (SVJc (P_SV_HVA v)), .ref 8, .ref 9, .ref 10, .ref 11, .ref 12, .ref 13, .ref 14]), .inr (0, [.ref 2, .ref 3, .ref 4, .ref 5, .ref 6, .int (HVCm (SVH (P_SV_HVA v))), .int (HVSw (SVH (P_SV_HVA v))), .ref 7]), .inl (0, 40, .inl (HVPr (SVH (P_SV_HVA v)))), .inl (0, 40, .inl (HVLf (SVH (P_SV_HVA v)))), .inl (0, 40, .inl (HVRt (SVH (P_SV_HVA v)))), .inl (0, 40, .inl (HVUp (SVH (P_SV_HVA v)))), .inl (0, 40, .inl (HVRk (SVH (P_SV_HVA v)))), .inl (0, 40, .inl (HVPa (SVH (P_SV_HVA v)))), .inl (0, 40, .inl (SVOw (P_SV_HVA v))), .inl (0, 40, .inl (SVPg (P_SV_HVA v))), .inl (0, 40, .inl (SVFt (P_SV_HVA v))), .inl (0, 40, .inl (SVQu (P_SV_HVA v))), .inl (0, 6, .inl (SVRo (P_SV_HVA v))), .inl (0, 6, .inl (SVPd (P_SV_HVA v))), .inl (2, 6, .inl (SVPs (P_SV_HVA v))), .inr (0, [.ref 16, .ref 17, .ref 18, .ref 19, .ref 20, .int (HVCm (P_SV_HVB v)), .int (HVSw (P_SV_HVB v)), .ref 21]), .inl (0, 40, .inl (HVPr (P_SV_HVB v))), .inl (0, 40, .inl (HVLf (P_SV_HVB v))), .inl (0, 40, .inl (HVRt (P_SV_HVB v))), .inl (0, 40, .inl (HVUp (P_SV_HVB v))), .inl (0, 40, .inl (HVRk (P_SV_HVB v))), .inl (0, 40, .inl (HVPa (P_SV_HVB v)))]) (st2 := [.int r2]) (c_X7_isQueue _ _ hq1) ⟨rfl, rfl⟩ rfl k_X7_isQueue l_X7_56 rfl rfl (fit_of hR (by decide) (by decide) (by decide) (by decide)) (Nat.le_of_ble_eq_true rfl) (by decide) rfl rfl rfl ?_
  refine r_if_ne X 9 rfl rfl (fun c4 => ?_) (fun c4 => ?_)
  · rw [if_neg c4] at h
    refine go_s 3 X (pc2 := 14) (st2 := [.int a, .ref 12]) rfl ?_
    by_cases b5 : oob a 6
    · rw [if_pos b5] at h; cases h
    rw [if_neg b5] at h
    refine r_iald X rfl rfl b5 ?_
    refine go_l 4 X (pc2 := 19) (ls2 := [some (.ref 0), some (.int a), some (.ref 15), some (.int ((SVRo (P_SV_HVA v)) (Int32.toNatClampNeg a))), none, none]) (st2 := [.int (-1), .int a, .ref 0]) rfl ?_
    obtain ⟨r7, hq6, h⟩ := obind_inv h
    refine q_callV X [0, 1, 2, 3, 4, 5, 6, 7, 8, 9, 10, 11, 12, 13, 14] [] (AH2 := [.inr (7, [.ref 1, .int (SVJc (P_SV_HVA v)), .ref 8, .ref 9, .ref 10, .ref 11, .ref 12, .ref 13, .ref 14]), .inr (0, [.ref 2, .ref 3, .ref 4, .ref 5, .ref 6, .int (HVCm (SVH (P_SV_HVA v))), .int (HVSw (SVH (P_SV_HVA v))), .ref 7]), .inl (0, 40, .inl (HVPr (SVH (P_SV_HVA v)))), .inl (0, 40, .inl (HVLf (SVH (P_SV_HVA v)))), .inl (0, 40, .inl (HVRt (SVH (P_SV_HVA v)))), .inl (0, 40, .inl (HVUp (SVH (P_SV_HVA v)))), .inl (0, 40, .inl (HVRk (SVH (P_SV_HVA v)))), .inl (0, 40, .inl (HVPa (SVH (P_SV_HVA v)))), .inl (0, 40, .inl (SVOw (P_SV_HVA v))), .inl (0, 40, .inl (SVPg (P_SV_HVA v))), .inl (0, 40, .inl (SVFt (P_SV_HVA v))), .inl (0, 40, .inl (SVQu (P_SV_HVA v))), .inl (0, 6, .inl (SVRo (P_SV_HVA v))), .inl (0, 6, .inl (SVPd (P_SV_HVA v))), .inl (2, 6, .inl (SVPs (P_SV_HVA v))), .inr (0, [.ref 16, .ref 17, .ref 18, .ref 19, .ref 20, .int (HVCm (P_SV_HVB v)), .int (HVSw (P_SV_HVB v)), .ref 21]), .inl (0, 40, .inl (HVPr (P_SV_HVB v))), .inl (0, 40, .inl (HVLf (P_SV_HVB v))), .inl (0, 40, .inl (HVRt (P_SV_HVB v))), .inl (0, 40, .inl (HVUp (P_SV_HVB v))), .inl (0, 40, .inl (HVRk (P_SV_HVB v))), .inl (0, 40, .inl (HVPa (P_SV_HVB v)))]) (st2 := [.int r7]) (c_X7_firstAfter _ _ _ _ hq6) ⟨rfl, rfl⟩ rfl k_X7_firstAfter l_X7_107 rfl rfl rfl rfl rfl (fit_of hR (by decide) (by decide) (by decide) (by decide)) (Nat.le_of_ble_eq_true rfl) (by decide) rfl ((putB_bld (s := [some 0, some 1, some 2, some 3, some 4, some 5, some 6, some 7, some 8, some 9, some 10, some 11, some 12, some 13, some 14, none, none, none, none, none, none, none]) (by decide +kernel) rfl rfl).trans rfl) rfl ?_
    refine go_l 3 X (pc2 := 27) (ls2 := [some (.ref 0), some (.int a), some (.ref 15), some (.int ((SVRo (P_SV_HVA v)) (Int32.toNatClampNeg a))), some (.int r7), some (.int 0)]) (st2 := []) rfl ?_
    exact AW.eq (a_X7_empties_h27 X hR FU _ _ _ _ _ _ _ h) rfl rfl rfl rfl
  · rw [if_pos c4] at h
    refine go_s 1 X (pc2 := 8) (st2 := [.int 0]) rfl ?_
    cases h
    exact r_zret X (ty := .boolean) rfl rfl rfl ⟨rfl, rfl⟩ (by decide) (by decide)
set_option maxHeartbeats 6000000 in
set_option maxRecDepth 20000 in
theorem c_X7_endJob (v : SV) (a : Int32) (b : Int32) (r : Int32) (w : SV) (h : f_X7_endJob v a b = some (r, w)) : Sem z_X7_endJob 4 0 0 [.ref 0, .int a, .int b] (WS v) (PST (.inl (some (.int r))) (WS w)) := by
  refine Sem.of zo_X7_endJob (by decide +kernel) (Nat.le_of_ble_eq_true rfl) fun κ X hE hR hN => ?_
  unfold f_X7_endJob at h
  refine AW.eq (pc' := 0) (ls' := [some (.ref 0), some (.int a), some (.int b), none]) (st' := []) (AH' := [.inr (7, [.ref 1, .int (SVJc v), .ref 8, .ref 9, .ref 10, .ref 11, .ref 12, .ref 13, .ref 14]), .inr (0, [.ref 2, .ref 3, .ref 4, .ref 5, .ref 6, .int (HVCm (SVH v)), .int (HVSw (SVH v)), .ref 7]), .inl (0, 40, .inl (HVPr (SVH v))), .inl (0, 40, .inl (HVLf (SVH v))), .inl (0, 40, .inl (HVRt (SVH v))), .inl (0, 40, .inl (HVUp (SVH v))), .inl (0, 40, .inl (HVRk (SVH v))), .inl (0, 40, .inl (HVPa (SVH v))), .inl (0, 40, .inl (SVOw v)), .inl (0, 40, .inl (SVPg v)), .inl (0, 40, .inl (SVFt v)), .inl (0, 40, .inl (SVQu v)), .inl (0, 6, .inl (SVRo v)), .inl (0, 6, .inl (SVPd v)), .inl (2, 6, .inl (SVPs v))]) ?_ rfl rfl rfl rfl
  refine go_s 2 X (pc2 := 2) (st2 := [.int a, .ref 0]) rfl ?_
  obtain ⟨r2, hq1, h⟩ := obind_inv h
  refine q_callV X [0, 1, 2, 3, 4, 5, 6, 7, 8, 9, 10, 11, 12, 13, 14] [] (AH2 := [.inr (7, [.ref 1, .int (SVJc v), .ref 8, .ref 9, .ref 10, .ref 11, .ref 12, .ref 13, .ref 14]), .inr (0, [.ref 2, .ref 3, .ref 4, .ref 5, .ref 6, .int (HVCm (SVH v)), .int (HVSw (SVH v)), .ref 7]), .inl (0, 40, .inl (HVPr (SVH v))), .inl (0, 40, .inl (HVLf (SVH v))), .inl (0, 40, .inl (HVRt (SVH v))), .inl (0, 40, .inl (HVUp (SVH v))), .inl (0, 40, .inl (HVRk (SVH v))), .inl (0, 40, .inl (HVPa (SVH v))), .inl (0, 40, .inl (SVOw v)), .inl (0, 40, .inl (SVPg v)), .inl (0, 40, .inl (SVFt v)), .inl (0, 40, .inl (SVQu v)), .inl (0, 6, .inl (SVRo v)), .inl (0, 6, .inl (SVPd v)), .inl (2, 6, .inl (SVPs v))]) (st2 := [.int r2]) (c_X7_waits _ _ _ hq1) ⟨rfl, rfl⟩ rfl k_X7_waits l_X7_60 rfl rfl rfl rfl rfl (fit_of hR (by decide) (by decide) (by decide) (by decide)) (Nat.le_of_ble_eq_true rfl) (by decide) rfl rfl rfl ?_
  refine r_if_ne X 10 rfl rfl (fun c4 => ?_) (fun c4 => ?_)
  · rw [if_neg c4] at h
    refine go_s 3 X (pc2 := 15) (st2 := [.int a, .ref 11]) rfl ?_
    by_cases b5 : oob a 40
    · rw [if_pos b5] at h; cases h
    rw [if_neg b5] at h
    refine r_iald X rfl rfl b5 ?_
    refine go_l 9 X (pc2 := 31) (ls2 := [some (.ref 0), some (.int a), some (.int b), some (.int ((SVQu v) (Int32.toNatClampNeg a)))]) (st2 := [.int ((SVQu v) (Int32.toNatClampNeg a)), .ref 12, .ref 1, .int ((SVQu v) (Int32.toNatClampNeg a)), .ref 12]) rfl ?_
    by_cases b6 : oob ((SVQu v) (Int32.toNatClampNeg a)) 6
    · rw [if_pos b6] at h; cases h
    rw [if_neg b6] at h
    refine r_iald X rfl rfl b6 ?_
    refine go_s 1 X (pc2 := 33) (st2 := [.int a, .int ((SVRo v) (Int32.toNatClampNeg ((SVQu v) (Int32.toNatClampNeg a)))), .ref 1, .int ((SVQu v) (Int32.toNatClampNeg a)), .ref 12]) rfl ?_
    obtain ⟨r8, w9, hq7, h⟩ := bnd2_inv h
    refine q_callV X [1, 2, 3, 4, 5, 6, 7] [] (AH2 := [.inr (7, [.ref 1, .int (SVJc v), .ref 8, .ref 9, .ref 10, .ref 11, .ref 12, .ref 13, .ref 14]), .inr (0, [.ref 2, .ref 3, .ref 4, .ref 5, .ref 6, .int (HVCm w9), .int (HVSw w9), .ref 7]), .inl (0, 40, .inl (HVPr w9)), .inl (0, 40, .inl (HVLf w9)), .inl (0, 40, .inl (HVRt w9)), .inl (0, 40, .inl (HVUp w9)), .inl (0, 40, .inl (HVRk w9)), .inl (0, 40, .inl (HVPa w9)), .inl (0, 40, .inl (SVOw v)), .inl (0, 40, .inl (SVPg v)), .inl (0, 40, .inl (SVFt v)), .inl (0, 40, .inl (SVQu v)), .inl (0, 6, .inl (SVRo v)), .inl (0, 6, .inl (SVPd v)), .inl (2, 6, .inl (SVPs v))]) (st2 := [.int r8, .int ((SVQu v) (Int32.toNatClampNeg a)), .ref 12]) (c_X0_takeOut _ _ _ _ _ hq7) ⟨rfl, rfl⟩ rfl k_X0_takeOut l_X7_75 rfl rfl rfl rfl rfl (fit_of hR (by decide) (by decide) (by decide) (by decide)) (Nat.le_of_ble_eq_true rfl) (by decide) rfl rfl rfl ?_
    by_cases b10 : oob ((SVQu v) (Int32.toNatClampNeg a)) 6
    · rw [if_pos b10] at h; cases h
    rw [if_neg b10] at h
    refine r_iast X rfl rfl b10 ?_
    refine go_s 4 X (pc2 := 43) (st2 := [.int (-1), .int a, .ref 11]) rfl ?_
    by_cases b11 : oob a 40
    · rw [if_pos b11] at h; cases h
    rw [if_neg b11] at h
    refine r_iast X rfl rfl b11 ?_
    refine go_s 4 X (pc2 := 50) (st2 := [.int b, .int a, .ref 10]) rfl ?_
    by_cases b12 : oob a 40
    · rw [if_pos b12] at h; cases h
    rw [if_neg b12] at h
    refine r_iast X rfl rfl b12 ?_
    refine go_s 2 X (pc2 := 53) (st2 := [.int 1, .int b]) rfl ?_
    refine r_icmp_ne X 71 rfl rfl (fun c13 => ?_) (fun c13 => ?_)
    · rw [if_neg c13] at h
      refine go_s 1 X (pc2 := 72) (st2 := [.int 1]) rfl ?_
      cases h
      exact r_zret X (ty := .boolean) rfl rfl rfl ⟨rfl, rfl⟩ (by decide) (by decide)
    · rw [if_pos c13] at h
      refine go_s 4 X (pc2 := 62) (st2 := [.int ((SVQu v) (Int32.toNatClampNeg a)), .ref 13, .int ((SVQu v) (Int32.toNatClampNeg a)), .ref 13]) rfl ?_
      by_cases b14 : oob ((SVQu v) (Int32.toNatClampNeg a)) 6
      · rw [if_pos b14] at h; cases h
      rw [if_neg b14] at h
      refine r_iald X rfl rfl b14 ?_
      refine go_s 3 X (pc2 := 68) (st2 := [.int a, .ref 9, .int ((SVPd v) (Int32.toNatClampNeg ((SVQu v) (Int32.toNatClampNeg a)))), .int ((SVQu v) (Int32.toNatClampNeg a)), .ref 13]) rfl ?_
      by_cases b15 : oob a 40
      · rw [if_pos b15] at h; cases h
      rw [if_neg b15] at h
      refine r_iald X rfl rfl b15 ?_
      refine go_s 1 X (pc2 := 70) (st2 := [.int (((SVPd v) (Int32.toNatClampNeg ((SVQu v) (Int32.toNatClampNeg a)))) + ((SVPg v) (Int32.toNatClampNeg a))), .int ((SVQu v) (Int32.toNatClampNeg a)), .ref 13]) rfl ?_
      by_cases b16 : oob ((SVQu v) (Int32.toNatClampNeg a)) 6
      · rw [if_pos b16] at h; cases h
      rw [if_neg b16] at h
      refine r_iast X rfl rfl b16 ?_
      refine go_s 1 X (pc2 := 72) (st2 := [.int 1]) rfl ?_
      cases h
      exact r_zret X (ty := .boolean) rfl rfl rfl ⟨rfl, rfl⟩ (by decide) (by decide)
  · rw [if_pos c4] at h
    refine go_s 1 X (pc2 := 9) (st2 := [.int 0]) rfl ?_
    cases h
    exact r_zret X (ty := .boolean) rfl rfl rfl ⟨rfl, rfl⟩ (by decide) (by decide)
set_option maxHeartbeats 6000000 in
set_option maxRecDepth 20000 in
theorem c_X7_holdQueue (v : SV) (a : Int32) (b : Int32) (r : Int32) (w : SV) (h : f_X7_holdQueue v a b = some (r, w)) : Sem z_X7_holdQueue 1 0 0 [.ref 0, .int a, .int b] (WS v) (PST (.inl (some (.int r))) (WS w)) := by
  refine Sem.of zo_X7_holdQueue (by decide +kernel) (Nat.le_of_ble_eq_true rfl) fun κ X hE hR hN => ?_
  unfold f_X7_holdQueue at h
  refine AW.eq (pc' := 0) (ls' := [some (.ref 0), some (.int a), some (.int b)]) (st' := []) (AH' := [.inr (7, [.ref 1, .int (SVJc v), .ref 8, .ref 9, .ref 10, .ref 11, .ref 12, .ref 13, .ref 14]), .inr (0, [.ref 2, .ref 3, .ref 4, .ref 5, .ref 6, .int (HVCm (SVH v)), .int (HVSw (SVH v)), .ref 7]), .inl (0, 40, .inl (HVPr (SVH v))), .inl (0, 40, .inl (HVLf (SVH v))), .inl (0, 40, .inl (HVRt (SVH v))), .inl (0, 40, .inl (HVUp (SVH v))), .inl (0, 40, .inl (HVRk (SVH v))), .inl (0, 40, .inl (HVPa (SVH v))), .inl (0, 40, .inl (SVOw v)), .inl (0, 40, .inl (SVPg v)), .inl (0, 40, .inl (SVFt v)), .inl (0, 40, .inl (SVQu v)), .inl (0, 6, .inl (SVRo v)), .inl (0, 6, .inl (SVPd v)), .inl (2, 6, .inl (SVPs v))]) ?_ rfl rfl rfl rfl
  refine go_s 1 X (pc2 := 1) (st2 := [.int a]) rfl ?_
  obtain ⟨r2, hq1, h⟩ := obind_inv h
  refine q_callS X [] [] (AH2 := [.inr (7, [.ref 1, .int (SVJc v), .ref 8, .ref 9, .ref 10, .ref 11, .ref 12, .ref 13, .ref 14]), .inr (0, [.ref 2, .ref 3, .ref 4, .ref 5, .ref 6, .int (HVCm (SVH v)), .int (HVSw (SVH v)), .ref 7]), .inl (0, 40, .inl (HVPr (SVH v))), .inl (0, 40, .inl (HVLf (SVH v))), .inl (0, 40, .inl (HVRt (SVH v))), .inl (0, 40, .inl (HVUp (SVH v))), .inl (0, 40, .inl (HVRk (SVH v))), .inl (0, 40, .inl (HVPa (SVH v))), .inl (0, 40, .inl (SVOw v)), .inl (0, 40, .inl (SVPg v)), .inl (0, 40, .inl (SVFt v)), .inl (0, 40, .inl (SVQu v)), .inl (0, 6, .inl (SVRo v)), .inl (0, 6, .inl (SVPd v)), .inl (2, 6, .inl (SVPs v))]) (st2 := [.int r2]) (c_X7_isQueue _ _ hq1) ⟨rfl, rfl⟩ rfl k_X7_isQueue l_X7_56 rfl rfl (fit_of hR (by decide) (by decide) (by decide) (by decide)) (Nat.le_of_ble_eq_true rfl) (by decide) rfl rfl rfl ?_
  refine r_if_ne X 9 rfl rfl (fun c4 => ?_) (fun c4 => ?_)
  · rw [if_neg c4] at h
    refine go_s 4 X (pc2 := 15) (st2 := [.int b, .int a, .ref 14]) rfl ?_
    by_cases b5 : oob a 6
    · rw [if_pos b5] at h; cases h
    rw [if_neg b5] at h
    refine r_zast X rfl rfl b5 ?_
    refine go_s 1 X (pc2 := 17) (st2 := [.int 1]) rfl ?_
    cases h
    exact r_zret X (ty := .boolean) rfl rfl rfl ⟨rfl, rfl⟩ (by decide) (by decide)
  · rw [if_pos c4] at h
    refine go_s 1 X (pc2 := 8) (st2 := [.int 0]) rfl ?_
    cases h
    exact r_zret X (ty := .boolean) rfl rfl rfl ⟨rfl, rfl⟩ (by decide) (by decide)
set_option maxHeartbeats 6000000 in
set_option maxRecDepth 20000 in
theorem c_X7_insertAgain (v : SV) (a : Int32) (b : Int32) (c : Int32) (r : Int32) (w : SV) (h : f_X7_insertAgain v a b c = some (r, w)) : Sem z_X7_insertAgain 4 0 0 [.ref 0, .int a, .int b, .int c] (WS v) (PST (.inl (some (.int r))) (WS w)) := by
  refine Sem.of zo_X7_insertAgain (by decide +kernel) (Nat.le_of_ble_eq_true rfl) fun κ X hE hR hN => ?_
  unfold f_X7_insertAgain at h
  refine AW.eq (pc' := 0) (ls' := [some (.ref 0), some (.int a), some (.int b), some (.int c), none]) (st' := []) (AH' := [.inr (7, [.ref 1, .int (SVJc v), .ref 8, .ref 9, .ref 10, .ref 11, .ref 12, .ref 13, .ref 14]), .inr (0, [.ref 2, .ref 3, .ref 4, .ref 5, .ref 6, .int (HVCm (SVH v)), .int (HVSw (SVH v)), .ref 7]), .inl (0, 40, .inl (HVPr (SVH v))), .inl (0, 40, .inl (HVLf (SVH v))), .inl (0, 40, .inl (HVRt (SVH v))), .inl (0, 40, .inl (HVUp (SVH v))), .inl (0, 40, .inl (HVRk (SVH v))), .inl (0, 40, .inl (HVPa (SVH v))), .inl (0, 40, .inl (SVOw v)), .inl (0, 40, .inl (SVPg v)), .inl (0, 40, .inl (SVFt v)), .inl (0, 40, .inl (SVQu v)), .inl (0, 6, .inl (SVRo v)), .inl (0, 6, .inl (SVPd v)), .inl (2, 6, .inl (SVPs v))]) ?_ rfl rfl rfl rfl
  refine go_s 2 X (pc2 := 2) (st2 := [.int a, .ref 0]) rfl ?_
  obtain ⟨r2, hq1, h⟩ := obind_inv h
  refine q_callV X [0, 1, 2, 3, 4, 5, 6, 7, 8, 9, 10, 11, 12, 13, 14] [] (AH2 := [.inr (7, [.ref 1, .int (SVJc v), .ref 8, .ref 9, .ref 10, .ref 11, .ref 12, .ref 13, .ref 14]), .inr (0, [.ref 2, .ref 3, .ref 4, .ref 5, .ref 6, .int (HVCm (SVH v)), .int (HVSw (SVH v)), .ref 7]), .inl (0, 40, .inl (HVPr (SVH v))), .inl (0, 40, .inl (HVLf (SVH v))), .inl (0, 40, .inl (HVRt (SVH v))), .inl (0, 40, .inl (HVUp (SVH v))), .inl (0, 40, .inl (HVRk (SVH v))), .inl (0, 40, .inl (HVPa (SVH v))), .inl (0, 40, .inl (SVOw v)), .inl (0, 40, .inl (SVPg v)), .inl (0, 40, .inl (SVFt v)), .inl (0, 40, .inl (SVQu v)), .inl (0, 6, .inl (SVRo v)), .inl (0, 6, .inl (SVPd v)), .inl (2, 6, .inl (SVPs v))]) (st2 := [.int r2]) (c_X7_waits _ _ _ hq1) ⟨rfl, rfl⟩ rfl k_X7_waits l_X7_60 rfl rfl rfl rfl rfl (fit_of hR (by decide) (by decide) (by decide) (by decide)) (Nat.le_of_ble_eq_true rfl) (by decide) rfl rfl rfl ?_
  refine r_if_eq X 15 rfl rfl (fun c4 => ?_) (fun c4 => ?_)
  · rw [if_pos c4] at h
    refine go_s 1 X (pc2 := 16) (st2 := [.int 0]) rfl ?_
    cases h
    exact r_zret X (ty := .boolean) rfl rfl rfl ⟨rfl, rfl⟩ (by decide) (by decide)
  · rw [if_neg c4] at h
    refine go_s 1 X (pc2 := 9) (st2 := [.int b]) rfl ?_
    obtain ⟨r6, hq5, h⟩ := obind_inv h
    refine q_callS X [] [] (AH2 := [.inr (7, [.ref 1, .int (SVJc v), .ref 8, .ref 9, .ref 10, .ref 11, .ref 12, .ref 13, .ref 14]), .inr (0, [.ref 2, .ref 3, .ref 4, .ref 5, .ref 6, .int (HVCm (SVH v)), .int (HVSw (SVH v)), .ref 7]), .inl (0, 40, .inl (HVPr (SVH v))), .inl (0, 40, .inl (HVLf (SVH v))), .inl (0, 40, .inl (HVRt (SVH v))), .inl (0, 40, .inl (HVUp (SVH v))), .inl (0, 40, .inl (HVRk (SVH v))), .inl (0, 40, .inl (HVPa (SVH v))), .inl (0, 40, .inl (SVOw v)), .inl (0, 40, .inl (SVPg v)), .inl (0, 40, .inl (SVFt v)), .inl (0, 40, .inl (SVQu v)), .inl (0, 6, .inl (SVRo v)), .inl (0, 6, .inl (SVPd v)), .inl (2, 6, .inl (SVPs v))]) (st2 := [.int r6]) (c_X7_isQueue _ _ hq5) ⟨rfl, rfl⟩ rfl k_X7_isQueue l_X7_56 rfl rfl (fit_of hR (by decide) (by decide) (by decide) (by decide)) (Nat.le_of_ble_eq_true rfl) (by decide) rfl rfl rfl ?_
    refine r_if_ne X 17 rfl rfl (fun c8 => ?_) (fun c8 => ?_)
    · rw [if_neg c8] at h
      refine go_s 3 X (pc2 := 22) (st2 := [.int a, .ref 11]) rfl ?_
      by_cases b9 : oob a 40
      · rw [if_pos b9] at h; cases h
      rw [if_neg b9] at h
      refine r_iald X rfl rfl b9 ?_
      refine go_l 9 X (pc2 := 41) (ls2 := [some (.ref 0), some (.int a), some (.int b), some (.int c), some (.int ((SVQu v) (Int32.toNatClampNeg a)))]) (st2 := [.int ((SVQu v) (Int32.toNatClampNeg a)), .ref 12, .ref 1, .int ((SVQu v) (Int32.toNatClampNeg a)), .ref 12]) rfl ?_
      by_cases b10 : oob ((SVQu v) (Int32.toNatClampNeg a)) 6
      · rw [if_pos b10] at h; cases h
      rw [if_neg b10] at h
      refine r_iald X rfl rfl b10 ?_
      refine go_s 1 X (pc2 := 43) (st2 := [.int a, .int ((SVRo v) (Int32.toNatClampNeg ((SVQu v) (Int32.toNatClampNeg a)))), .ref 1, .int ((SVQu v) (Int32.toNatClampNeg a)), .ref 12]) rfl ?_
      obtain ⟨r12, w13, hq11, h⟩ := bnd2_inv h
      refine q_callV X [1, 2, 3, 4, 5, 6, 7] [] (AH2 := [.inr (7, [.ref 1, .int (SVJc v), .ref 8, .ref 9, .ref 10, .ref 11, .ref 12, .ref 13, .ref 14]), .inr (0, [.ref 2, .ref 3, .ref 4, .ref 5, .ref 6, .int (HVCm w13), .int (HVSw w13), .ref 7]), .inl (0, 40, .inl (HVPr w13)), .inl (0, 40, .inl (HVLf w13)), .inl (0, 40, .inl (HVRt w13)), .inl (0, 40, .inl (HVUp w13)), .inl (0, 40, .inl (HVRk w13)), .inl (0, 40, .inl (HVPa w13)), .inl (0, 40, .inl (SVOw v)), .inl (0, 40, .inl (SVPg v)), .inl (0, 40, .inl (SVFt v)), .inl (0, 40, .inl (SVQu v)), .inl (0, 6, .inl (SVRo v)), .inl (0, 6, .inl (SVPd v)), .inl (2, 6, .inl (SVPs v))]) (st2 := [.int r12, .int ((SVQu v) (Int32.toNatClampNeg a)), .ref 12]) (c_X0_takeOut _ _ _ _ _ hq11) ⟨rfl, rfl⟩ rfl k_X0_takeOut l_X7_75 rfl rfl rfl rfl rfl (fit_of hR (by decide) (by decide) (by decide) (by decide)) (Nat.le_of_ble_eq_true rfl) (by decide) rfl rfl rfl ?_
      by_cases b14 : oob ((SVQu v) (Int32.toNatClampNeg a)) 6
      · rw [if_pos b14] at h; cases h
      rw [if_neg b14] at h
      refine r_iast X rfl rfl b14 ?_
      refine go_s 4 X (pc2 := 53) (st2 := [.int c, .int a, .ref 1]) rfl ?_
      obtain ⟨r16, w17, hq15, h⟩ := bnd2_inv h
      refine q_callV X [1, 2, 3, 4, 5, 6, 7] [] (AH2 := [.inr (7, [.ref 1, .int (SVJc v), .ref 8, .ref 9, .ref 10, .ref 11, .ref 12, .ref 13, .ref 14]), .inr (0, [.ref 2, .ref 3, .ref 4, .ref 5, .ref 6, .int (HVCm w17), .int (HVSw w17), .ref 7]), .inl (0, 40, .inl (HVPr w17)), .inl (0, 40, .inl (HVLf w17)), .inl (0, 40, .inl (HVRt w17)), .inl (0, 40, .inl (HVUp w17)), .inl (0, 40, .inl (HVRk w17)), .inl (0, 40, .inl (HVPa w17)), .inl (0, 40, .inl (SVOw v)), .inl (0, 40, .inl (SVPg v)), .inl (0, 40, .inl (SVFt v)), .inl (0, 40, .inl (SVQu v)), .inl (0, 6, .inl (upd (SVRo v) (Int32.toNatClampNeg ((SVQu v) (Int32.toNatClampNeg a))) r12)), .inl (0, 6, .inl (SVPd v)), .inl (2, 6, .inl (SVPs v))]) (st2 := []) (c_X0_plant _ _ _ _ _ hq15) ⟨rfl, rfl⟩ rfl k_X0_plant l_X7_67 rfl rfl rfl rfl rfl (fit_of hR (by decide) (by decide) (by decide) (by decide)) (Nat.le_of_ble_eq_true rfl) (by decide) rfl rfl rfl ?_
      refine go_s 8 X (pc2 := 70) (st2 := [.int b, .ref 12, .ref 1, .int b, .ref 12]) rfl ?_
      by_cases b18 : oob b 6
      · rw [if_pos b18] at h; cases h
      rw [if_neg b18] at h
      refine r_iald X rfl rfl b18 ?_
      refine go_s 1 X (pc2 := 72) (st2 := [.int a, .int ((upd (SVRo v) (Int32.toNatClampNeg ((SVQu v) (Int32.toNatClampNeg a))) r12) (Int32.toNatClampNeg b)), .ref 1, .int b, .ref 12]) rfl ?_
      obtain ⟨r20, w21, hq19, h⟩ := bnd2_inv h
      refine q_callV X [1, 2, 3, 4, 5, 6, 7] [] (AH2 := [.inr (7, [.ref 1, .int (SVJc v), .ref 8, .ref 9, .ref 10, .ref 11, .ref 12, .ref 13, .ref 14]), .inr (0, [.ref 2, .ref 3, .ref 4, .ref 5, .ref 6, .int (HVCm w21), .int (HVSw w21), .ref 7]), .inl (0, 40, .inl (HVPr w21)), .inl (0, 40, .inl (HVLf w21)), .inl (0, 40, .inl (HVRt w21)), .inl (0, 40, .inl (HVUp w21)), .inl (0, 40, .inl (HVRk w21)), .inl (0, 40, .inl (HVPa w21)), .inl (0, 40, .inl (SVOw v)), .inl (0, 40, .inl (SVPg v)), .inl (0, 40, .inl (SVFt v)), .inl (0, 40, .inl (SVQu v)), .inl (0, 6, .inl (upd (SVRo v) (Int32.toNatClampNeg ((SVQu v) (Int32.toNatClampNeg a))) r12)), .inl (0, 6, .inl (SVPd v)), .inl (2, 6, .inl (SVPs v))]) (st2 := [.int r20, .int b, .ref 12]) (c_X0_merge _ _ _ _ _ hq19) ⟨rfl, rfl⟩ rfl k_X0_merge l_X7_71 rfl rfl rfl rfl rfl (fit_of hR (by decide) (by decide) (by decide) (by decide)) (Nat.le_of_ble_eq_true rfl) (by decide) rfl rfl rfl ?_
      by_cases b22 : oob b 6
      · rw [if_pos b22] at h; cases h
      rw [if_neg b22] at h
      refine r_iast X rfl rfl b22 ?_
      refine go_s 4 X (pc2 := 82) (st2 := [.int b, .int a, .ref 11]) rfl ?_
      by_cases b23 : oob a 40
      · rw [if_pos b23] at h; cases h
      rw [if_neg b23] at h
      refine r_iast X rfl rfl b23 ?_
      refine go_s 1 X (pc2 := 84) (st2 := [.int 1]) rfl ?_
      cases h
      exact r_zret X (ty := .boolean) rfl rfl rfl ⟨rfl, rfl⟩ (by decide) (by decide)
    · rw [if_pos c8] at h
      refine go_s 1 X (pc2 := 16) (st2 := [.int 0]) rfl ?_
      cases h
      exact r_zret X (ty := .boolean) rfl rfl rfl ⟨rfl, rfl⟩ (by decide) (by decide)
set_option maxHeartbeats 6000000 in
set_option maxRecDepth 20000 in
theorem c_X7_isSound (v : SV) (a : Int32) (r : Int32) (h : f_X7_isSound v a = some r) : Sem z_X7_isSound 3 0 0 [.ref 0, .int a] (WS v) (PST (.inl (some (.int r))) (WS v)) := by
  refine Sem.of zo_X7_isSound (by decide +kernel) (Nat.le_of_ble_eq_true rfl) fun κ X hE hR hN => ?_
  unfold f_X7_isSound at h
  refine AW.eq (pc' := 0) (ls' := [some (.ref 0), some (.int a), none]) (st' := []) (AH' := [.inr (7, [.ref 1, .int (SVJc v), .ref 8, .ref 9, .ref 10, .ref 11, .ref 12, .ref 13, .ref 14]), .inr (0, [.ref 2, .ref 3, .ref 4, .ref 5, .ref 6, .int (HVCm (SVH v)), .int (HVSw (SVH v)), .ref 7]), .inl (0, 40, .inl (HVPr (SVH v))), .inl (0, 40, .inl (HVLf (SVH v))), .inl (0, 40, .inl (HVRt (SVH v))), .inl (0, 40, .inl (HVUp (SVH v))), .inl (0, 40, .inl (HVRk (SVH v))), .inl (0, 40, .inl (HVPa (SVH v))), .inl (0, 40, .inl (SVOw v)), .inl (0, 40, .inl (SVPg v)), .inl (0, 40, .inl (SVFt v)), .inl (0, 40, .inl (SVQu v)), .inl (0, 6, .inl (SVRo v)), .inl (0, 6, .inl (SVPd v)), .inl (2, 6, .inl (SVPs v))]) ?_ rfl rfl rfl rfl
  refine go_s 2 X (pc2 := 2) (st2 := [.int a, .ref 0]) rfl ?_
  obtain ⟨r2, hq1, h⟩ := obind_inv h
  refine q_callV X [0, 1, 2, 3, 4, 5, 6, 7, 8, 9, 10, 11, 12, 13, 14] [] (AH2 := [.inr (7, [.ref 1, .int (SVJc v), .ref 8, .ref 9, .ref 10, .ref 11, .ref 12, .ref 13, .ref 14]), .inr (0, [.ref 2, .ref 3, .ref 4, .ref 5, .ref 6, .int (HVCm (SVH v)), .int (HVSw (SVH v)), .ref 7]), .inl (0, 40, .inl (HVPr (SVH v))), .inl (0, 40, .inl (HVLf (SVH v))), .inl (0, 40, .inl (HVRt (SVH v))), .inl (0, 40, .inl (HVUp (SVH v))), .inl (0, 40, .inl (HVRk (SVH v))), .inl (0, 40, .inl (HVPa (SVH v))), .inl (0, 40, .inl (SVOw v)), .inl (0, 40, .inl (SVPg v)), .inl (0, 40, .inl (SVFt v)), .inl (0, 40, .inl (SVQu v)), .inl (0, 6, .inl (SVRo v)), .inl (0, 6, .inl (SVPd v)), .inl (2, 6, .inl (SVPs v))]) (st2 := [.int r2]) (c_X7_waits _ _ _ hq1) ⟨rfl, rfl⟩ rfl k_X7_waits l_X7_60 rfl rfl rfl rfl rfl (fit_of hR (by decide) (by decide) (by decide) (by decide)) (Nat.le_of_ble_eq_true rfl) (by decide) rfl rfl rfl ?_
  refine r_if_ne X 65 rfl rfl (fun c4 => ?_) (fun c4 => ?_)
  · rw [if_neg c4] at h
    refine go_s 5 X (pc2 := 74) (st2 := [.int a, .ref 11, .ref 12]) rfl ?_
    by_cases b5 : oob a 40
    · rw [if_pos b5] at h; cases h
    rw [if_neg b5] at h
    refine r_iald X rfl rfl b5 ?_
    by_cases b6 : oob ((SVQu v) (Int32.toNatClampNeg a)) 6
    · rw [if_pos b6] at h; cases h
    rw [if_neg b6] at h
    refine r_iald X rfl rfl b6 ?_
    refine go_s 1 X (pc2 := 77) (st2 := [.int a, .int ((SVRo v) (Int32.toNatClampNeg ((SVQu v) (Int32.toNatClampNeg a))))]) rfl ?_
    refine r_icmp_ne X 84 rfl rfl (fun c7 => ?_) (fun c7 => ?_)
    · rw [if_neg c7] at h
      refine go_l 5 X (pc2 := 91) (ls2 := [some (.ref 0), some (.int a), some (.int 0)]) (st2 := [.int a, .ref 1]) rfl ?_
      obtain ⟨r9, hq8, h⟩ := obind_inv h
      refine q_callV X [1, 2, 3, 4, 5, 6, 7] [] (AH2 := [.inr (7, [.ref 1, .int (SVJc v), .ref 8, .ref 9, .ref 10, .ref 11, .ref 12, .ref 13, .ref 14]), .inr (0, [.ref 2, .ref 3, .ref 4, .ref 5, .ref 6, .int (HVCm (SVH v)), .int (HVSw (SVH v)), .ref 7]), .inl (0, 40, .inl (HVPr (SVH v))), .inl (0, 40, .inl (HVLf (SVH v))), .inl (0, 40, .inl (HVRt (SVH v))), .inl (0, 40, .inl (HVUp (SVH v))), .inl (0, 40, .inl (HVRk (SVH v))), .inl (0, 40, .inl (HVPa (SVH v))), .inl (0, 40, .inl (SVOw v)), .inl (0, 40, .inl (SVPg v)), .inl (0, 40, .inl (SVFt v)), .inl (0, 40, .inl (SVQu v)), .inl (0, 6, .inl (SVRo v)), .inl (0, 6, .inl (SVPd v)), .inl (2, 6, .inl (SVPs v))]) (st2 := [.int r9]) (c_X0_isSound _ _ _ hq8) ⟨rfl, rfl⟩ rfl k_X0_isSound l_X7_101 rfl rfl rfl rfl rfl (fit_of hR (by decide) (by decide) (by decide) (by decide)) (Nat.le_of_ble_eq_true rfl) (by decide) rfl rfl rfl ?_
      refine r_if_eq X 123 rfl rfl (fun c11 => ?_) (fun c11 => ?_)
      · rw [if_pos c11] at h
        refine go_s 1 X (pc2 := 124) (st2 := [.int 0]) rfl ?_
        cases h
        exact r_zret X (ty := .boolean) rfl rfl rfl ⟨rfl, rfl⟩ (by decide) (by decide)
      · rw [if_neg c11] at h
        refine go_s 5 X (pc2 := 106) (st2 := [.int a, .ref 5, .int 0]) rfl ?_
        by_cases b12 : oob a 40
        · rw [if_pos b12] at h; cases h
        rw [if_neg b12] at h
        refine r_iald X rfl rfl b12 ?_
        refine go_s 1 X (pc2 := 108) (st2 := [.int (-1), .int ((HVUp (SVH v)) (Int32.toNatClampNeg a)), .int 0]) rfl ?_
        refine r_icmp_ne X 115 rfl rfl (fun c13 => ?_) (fun c13 => ?_)
        · rw [if_neg c13] at h
          refine go_s 1 X (pc2 := 116) (st2 := [.int 0, .int 0]) rfl ?_
          refine r_icmp_ne X 123 rfl rfl (fun c14 => ?_) (fun c14 => ?_)
          · exact absurd c14 (by decide)
          · refine go_s 2 X (pc2 := 124) (st2 := [.int 1]) rfl ?_
            cases h
            exact r_zret X (ty := .boolean) rfl rfl rfl ⟨rfl, rfl⟩ (by decide) (by decide)
        · rw [if_pos c13] at h
          refine go_s 2 X (pc2 := 116) (st2 := [.int 1, .int 0]) rfl ?_
          refine r_icmp_ne X 123 rfl rfl (fun c15 => ?_) (fun c15 => ?_)
          · refine go_s 1 X (pc2 := 124) (st2 := [.int 0]) rfl ?_
            cases h
            exact r_zret X (ty := .boolean) rfl rfl rfl ⟨rfl, rfl⟩ (by decide) (by decide)
          · exact absurd c15 (by decide)
    · rw [if_pos c7] at h
      refine go_l 6 X (pc2 := 91) (ls2 := [some (.ref 0), some (.int a), some (.int 1)]) (st2 := [.int a, .ref 1]) rfl ?_
      obtain ⟨r17, hq16, h⟩ := obind_inv h
      refine q_callV X [1, 2, 3, 4, 5, 6, 7] [] (AH2 := [.inr (7, [.ref 1, .int (SVJc v), .ref 8, .ref 9, .ref 10, .ref 11, .ref 12, .ref 13, .ref 14]), .inr (0, [.ref 2, .ref 3, .ref 4, .ref 5, .ref 6, .int (HVCm (SVH v)), .int (HVSw (SVH v)), .ref 7]), .inl (0, 40, .inl (HVPr (SVH v))), .inl (0, 40, .inl (HVLf (SVH v))), .inl (0, 40, .inl (HVRt (SVH v))), .inl (0, 40, .inl (HVUp (SVH v))), .inl (0, 40, .inl (HVRk (SVH v))), .inl (0, 40, .inl (HVPa (SVH v))), .inl (0, 40, .inl (SVOw v)), .inl (0, 40, .inl (SVPg v)), .inl (0, 40, .inl (SVFt v)), .inl (0, 40, .inl (SVQu v)), .inl (0, 6, .inl (SVRo v)), .inl (0, 6, .inl (SVPd v)), .inl (2, 6, .inl (SVPs v))]) (st2 := [.int r17]) (c_X0_isSound _ _ _ hq16) ⟨rfl, rfl⟩ rfl k_X0_isSound l_X7_101 rfl rfl rfl rfl rfl (fit_of hR (by decide) (by decide) (by decide) (by decide)) (Nat.le_of_ble_eq_true rfl) (by decide) rfl rfl rfl ?_
      refine r_if_eq X 123 rfl rfl (fun c19 => ?_) (fun c19 => ?_)
      · rw [if_pos c19] at h
        refine go_s 1 X (pc2 := 124) (st2 := [.int 0]) rfl ?_
        cases h
        exact r_zret X (ty := .boolean) rfl rfl rfl ⟨rfl, rfl⟩ (by decide) (by decide)
      · rw [if_neg c19] at h
        refine go_s 5 X (pc2 := 106) (st2 := [.int a, .ref 5, .int 1]) rfl ?_
        by_cases b20 : oob a 40
        · rw [if_pos b20] at h; cases h
        rw [if_neg b20] at h
        refine r_iald X rfl rfl b20 ?_
        refine go_s 1 X (pc2 := 108) (st2 := [.int (-1), .int ((HVUp (SVH v)) (Int32.toNatClampNeg a)), .int 1]) rfl ?_
        refine r_icmp_ne X 115 rfl rfl (fun c21 => ?_) (fun c21 => ?_)
        · rw [if_neg c21] at h
          refine go_s 1 X (pc2 := 116) (st2 := [.int 0, .int 1]) rfl ?_
          refine r_icmp_ne X 123 rfl rfl (fun c22 => ?_) (fun c22 => ?_)
          · refine go_s 1 X (pc2 := 124) (st2 := [.int 0]) rfl ?_
            cases h
            exact r_zret X (ty := .boolean) rfl rfl rfl ⟨rfl, rfl⟩ (by decide) (by decide)
          · exact absurd c22 (by decide)
        · rw [if_pos c21] at h
          refine go_s 2 X (pc2 := 116) (st2 := [.int 1, .int 1]) rfl ?_
          refine r_icmp_ne X 123 rfl rfl (fun c23 => ?_) (fun c23 => ?_)
          · exact absurd c23 (by decide)
          · refine go_s 2 X (pc2 := 124) (st2 := [.int 1]) rfl ?_
            cases h
            exact r_zret X (ty := .boolean) rfl rfl rfl ⟨rfl, rfl⟩ (by decide) (by decide)
  · rw [if_pos c4] at h
    refine go_s 3 X (pc2 := 13) (st2 := [.int a, .ref 10]) rfl ?_
    by_cases b24 : oob a 40
    · rw [if_pos b24] at h; cases h
    rw [if_neg b24] at h
    refine r_iald X rfl rfl b24 ?_
    refine go_s 1 X (pc2 := 15) (st2 := [.int 1, .int ((SVFt v) (Int32.toNatClampNeg a))]) rfl ?_
    refine r_icmp_eq X 28 rfl rfl (fun c25 => ?_) (fun c25 => ?_)
    · rw [if_pos c25] at h
      refine go_l 4 X (pc2 := 35) (ls2 := [some (.ref 0), some (.int a), some (.int 1)]) (st2 := [.int 1]) rfl ?_
      refine r_if_eq X 63 rfl rfl (fun c26 => ?_) (fun c26 => ?_)
      · exact absurd c26 (by decide)
      · refine go_s 3 X (pc2 := 43) (st2 := [.int a, .ref 11]) rfl ?_
        by_cases b27 : oob a 40
        · rw [if_pos b27] at h; cases h
        rw [if_neg b27] at h
        refine r_iald X rfl rfl b27 ?_
        refine go_s 1 X (pc2 := 45) (st2 := [.int (-1), .int ((SVQu v) (Int32.toNatClampNeg a))]) rfl ?_
        refine r_icmp_ne X 63 rfl rfl (fun c28 => ?_) (fun c28 => ?_)
        · rw [if_neg c28] at h
          refine go_s 1 X (pc2 := 64) (st2 := [.int 0]) rfl ?_
          cases h
          exact r_zret X (ty := .boolean) rfl rfl rfl ⟨rfl, rfl⟩ (by decide) (by decide)
        · rw [if_pos c28] at h
          refine go_s 3 X (pc2 := 53) (st2 := [.int a, .ref 1]) rfl ?_
          obtain ⟨r30, hq29, h⟩ := obind_inv h
          refine q_callV X [1, 2, 3, 4, 5, 6, 7] [] (AH2 := [.inr (7, [.ref 1, .int (SVJc v), .ref 8, .ref 9, .ref 10, .ref 11, .ref 12, .ref 13, .ref 14]), .inr (0, [.ref 2, .ref 3, .ref 4, .ref 5, .ref 6, .int (HVCm (SVH v)), .int (HVSw (SVH v)), .ref 7]), .inl (0, 40, .inl (HVPr (SVH v))), .inl (0, 40, .inl (HVLf (SVH v))), .inl (0, 40, .inl (HVRt (SVH v))), .inl (0, 40, .inl (HVUp (SVH v))), .inl (0, 40, .inl (HVRk (SVH v))), .inl (0, 40, .inl (HVPa (SVH v))), .inl (0, 40, .inl (SVOw v)), .inl (0, 40, .inl (SVPg v)), .inl (0, 40, .inl (SVFt v)), .inl (0, 40, .inl (SVQu v)), .inl (0, 6, .inl (SVRo v)), .inl (0, 6, .inl (SVPd v)), .inl (2, 6, .inl (SVPs v))]) (st2 := [.int r30]) (c_X0_isOutside _ _ _ hq29) ⟨rfl, rfl⟩ rfl k_X0_isOutside l_X7_98 rfl rfl rfl rfl rfl (fit_of hR (by decide) (by decide) (by decide) (by decide)) (Nat.le_of_ble_eq_true rfl) (by decide) rfl rfl rfl ?_
          refine r_if_eq X 63 rfl rfl (fun c32 => ?_) (fun c32 => ?_)
          · rw [if_pos c32] at h
            refine go_s 1 X (pc2 := 64) (st2 := [.int 0]) rfl ?_
            cases h
            exact r_zret X (ty := .boolean) rfl rfl rfl ⟨rfl, rfl⟩ (by decide) (by decide)
          · rw [if_neg c32] at h
            refine go_s 2 X (pc2 := 64) (st2 := [.int 1]) rfl ?_
            cases h
            exact r_zret X (ty := .boolean) rfl rfl rfl ⟨rfl, rfl⟩ (by decide) (by decide)
    · rw [if_neg c25] at h
      refine go_s 3 X (pc2 := 23) (st2 := [.int a, .ref 10]) rfl ?_
      by_cases b33 : oob a 40
      · rw [if_pos b33] at h; cases h
      rw [if_neg b33] at h
      refine r_iald X rfl rfl b33 ?_
      refine go_s 1 X (pc2 := 25) (st2 := [.int 2, .int ((SVFt v) (Int32.toNatClampNeg a))]) rfl ?_
      refine r_icmp_ne X 32 rfl rfl (fun c34 => ?_) (fun c34 => ?_)
      · rw [if_neg c34] at h
        refine go_l 3 X (pc2 := 35) (ls2 := [some (.ref 0), some (.int a), some (.int 0)]) (st2 := [.int 0]) rfl ?_
        refine r_if_eq X 63 rfl rfl (fun c35 => ?_) (fun c35 => ?_)
        · refine go_s 1 X (pc2 := 64) (st2 := [.int 0]) rfl ?_
          cases h
          exact r_zret X (ty := .boolean) rfl rfl rfl ⟨rfl, rfl⟩ (by decide) (by decide)
        · exact absurd c35 (by decide)
      · rw [if_pos c34] at h
        refine go_l 4 X (pc2 := 35) (ls2 := [some (.ref 0), some (.int a), some (.int 1)]) (st2 := [.int 1]) rfl ?_
        refine r_if_eq X 63 rfl rfl (fun c36 => ?_) (fun c36 => ?_)
        · exact absurd c36 (by decide)
        · refine go_s 3 X (pc2 := 43) (st2 := [.int a, .ref 11]) rfl ?_
          by_cases b37 : oob a 40
          · rw [if_pos b37] at h; cases h
          rw [if_neg b37] at h
          refine r_iald X rfl rfl b37 ?_
          refine go_s 1 X (pc2 := 45) (st2 := [.int (-1), .int ((SVQu v) (Int32.toNatClampNeg a))]) rfl ?_
          refine r_icmp_ne X 63 rfl rfl (fun c38 => ?_) (fun c38 => ?_)
          · rw [if_neg c38] at h
            refine go_s 1 X (pc2 := 64) (st2 := [.int 0]) rfl ?_
            cases h
            exact r_zret X (ty := .boolean) rfl rfl rfl ⟨rfl, rfl⟩ (by decide) (by decide)
          · rw [if_pos c38] at h
            refine go_s 3 X (pc2 := 53) (st2 := [.int a, .ref 1]) rfl ?_
            obtain ⟨r40, hq39, h⟩ := obind_inv h
            refine q_callV X [1, 2, 3, 4, 5, 6, 7] [] (AH2 := [.inr (7, [.ref 1, .int (SVJc v), .ref 8, .ref 9, .ref 10, .ref 11, .ref 12, .ref 13, .ref 14]), .inr (0, [.ref 2, .ref 3, .ref 4, .ref 5, .ref 6, .int (HVCm (SVH v)), .int (HVSw (SVH v)), .ref 7]), .inl (0, 40, .inl (HVPr (SVH v))), .inl (0, 40, .inl (HVLf (SVH v))), .inl (0, 40, .inl (HVRt (SVH v))), .inl (0, 40, .inl (HVUp (SVH v))), .inl (0, 40, .inl (HVRk (SVH v))), .inl (0, 40, .inl (HVPa (SVH v))), .inl (0, 40, .inl (SVOw v)), .inl (0, 40, .inl (SVPg v)), .inl (0, 40, .inl (SVFt v)), .inl (0, 40, .inl (SVQu v)), .inl (0, 6, .inl (SVRo v)), .inl (0, 6, .inl (SVPd v)), .inl (2, 6, .inl (SVPs v))]) (st2 := [.int r40]) (c_X0_isOutside _ _ _ hq39) ⟨rfl, rfl⟩ rfl k_X0_isOutside l_X7_98 rfl rfl rfl rfl rfl (fit_of hR (by decide) (by decide) (by decide) (by decide)) (Nat.le_of_ble_eq_true rfl) (by decide) rfl rfl rfl ?_
            refine r_if_eq X 63 rfl rfl (fun c42 => ?_) (fun c42 => ?_)
            · rw [if_pos c42] at h
              refine go_s 1 X (pc2 := 64) (st2 := [.int 0]) rfl ?_
              cases h
              exact r_zret X (ty := .boolean) rfl rfl rfl ⟨rfl, rfl⟩ (by decide) (by decide)
            · rw [if_neg c42] at h
              refine go_s 2 X (pc2 := 64) (st2 := [.int 1]) rfl ?_
              cases h
              exact r_zret X (ty := .boolean) rfl rfl rfl ⟨rfl, rfl⟩ (by decide) (by decide)
set_option maxHeartbeats 6000000 in
set_option maxRecDepth 20000 in
theorem a_X7_jobsAhead_h15 {κ : KX} (X : CX κ z_X7_jobsAhead) (hR : κR κ = rmM 2 0 0) : ∀ (n : Nat) (l1 : Int32) (l2 : Int32) (l3 : Int32) (l4 : Int32) (v : SV) (r : Int32) (h : f_X7_jobsAhead_h15 n l1 l2 l3 l4 v = some r), AW κ (QM κ (PST (.inl (some (.int r))) (WS v)) 0 0) 15 [some (.ref 0), some (.int l1), some (.int l2), some (.int l3), some (.int l4)] [] (WS v) 0 0 := by
  intro n
  induction n with
  | zero =>
    intro l1 l2 l3 l4 v r h
    unfold f_X7_jobsAhead_h15 at h
    cases h
  | succ n ih =>
    intro l1 l2 l3 l4 v r h
    unfold f_X7_jobsAhead_h15 at h
    refine AW.eq (pc' := 15) (ls' := [some (.ref 0), some (.int l1), some (.int l2), some (.int l3), some (.int l4)]) (st' := []) (AH' := [.inr (7, [.ref 1, .int (SVJc v), .ref 8, .ref 9, .ref 10, .ref 11, .ref 12, .ref 13, .ref 14]), .inr (0, [.ref 2, .ref 3, .ref 4, .ref 5, .ref 6, .int (HVCm (SVH v)), .int (HVSw (SVH v)), .ref 7]), .inl (0, 40, .inl (HVPr (SVH v))), .inl (0, 40, .inl (HVLf (SVH v))), .inl (0, 40, .inl (HVRt (SVH v))), .inl (0, 40, .inl (HVUp (SVH v))), .inl (0, 40, .inl (HVRk (SVH v))), .inl (0, 40, .inl (HVPa (SVH v))), .inl (0, 40, .inl (SVOw v)), .inl (0, 40, .inl (SVPg v)), .inl (0, 40, .inl (SVFt v)), .inl (0, 40, .inl (SVQu v)), .inl (0, 6, .inl (SVRo v)), .inl (0, 6, .inl (SVPd v)), .inl (2, 6, .inl (SVPs v))]) ?_ rfl rfl rfl rfl
    refine go_s 3 X (pc2 := 21) (st2 := [.int (SVJc v), .int l4]) rfl ?_
    refine r_icmp_ge X 76 rfl rfl (fun c5 => ?_) (fun c5 => ?_)
    · rw [if_pos c5] at h
      refine go_s 1 X (pc2 := 77) (st2 := [.int l3]) rfl ?_
      cases h
      exact r_iret X rfl rfl ⟨rfl, rfl⟩ (by decide) (by decide)
    · rw [if_neg c5] at h
      refine go_s 2 X (pc2 := 28) (st2 := [.int 40, .int l4]) rfl ?_
      refine r_icmp_ge X 76 rfl rfl (fun c6 => ?_) (fun c6 => ?_)
      · rw [if_pos c6] at h
        refine go_s 1 X (pc2 := 77) (st2 := [.int l3]) rfl ?_
        cases h
        exact r_iret X rfl rfl ⟨rfl, rfl⟩ (by decide) (by decide)
      · rw [if_neg c6] at h
        refine go_s 2 X (pc2 := 34) (st2 := [.int l1, .int l4]) rfl ?_
        refine r_icmp_eq X 70 rfl rfl (fun c7 => ?_) (fun c7 => ?_)
        · rw [if_pos c7] at h
          refine go_l 2 X (pc2 := 15) (ls2 := [some (.ref 0), some (.int l1), some (.int l2), some (.int l3), some (.int (l4 + 1))]) (st2 := []) rfl ?_
          exact AW.eq (ih _ _ _ _ _ _ h) rfl rfl rfl rfl
        · rw [if_neg c7] at h
          refine go_s 3 X (pc2 := 43) (st2 := [.int l4, .ref 11]) rfl ?_
          by_cases b8 : oob l4 40
          · rw [if_pos b8] at h; cases h
          rw [if_neg b8] at h
          refine r_iald X rfl rfl b8 ?_
          refine go_s 3 X (pc2 := 49) (st2 := [.int l1, .ref 11, .int ((SVQu v) (Int32.toNatClampNeg l4))]) rfl ?_
          by_cases b9 : oob l1 40
          · rw [if_pos b9] at h; cases h
          rw [if_neg b9] at h
          refine r_iald X rfl rfl b9 ?_
          refine r_icmp_ne X 70 rfl rfl (fun c10 => ?_) (fun c10 => ?_)
          · rw [if_neg c10] at h
            refine go_l 2 X (pc2 := 15) (ls2 := [some (.ref 0), some (.int l1), some (.int l2), some (.int l3), some (.int (l4 + 1))]) (st2 := []) rfl ?_
            exact AW.eq (ih _ _ _ _ _ _ h) rfl rfl rfl rfl
          · rw [if_pos c10] at h
            refine go_s 5 X (pc2 := 61) (st2 := [.int l2, .int l1, .int l4, .ref 1]) rfl ?_
            obtain ⟨r12, hq11, h⟩ := obind_inv h
            refine q_callV X [1, 2, 3, 4, 5, 6, 7] [] (AH2 := [.inr (7, [.ref 1, .int (SVJc v), .ref 8, .ref 9, .ref 10, .ref 11, .ref 12, .ref 13, .ref 14]), .inr (0, [.ref 2, .ref 3, .ref 4, .ref 5, .ref 6, .int (HVCm (SVH v)), .int (HVSw (SVH v)), .ref 7]), .inl (0, 40, .inl (HVPr (SVH v))), .inl (0, 40, .inl (HVLf (SVH v))), .inl (0, 40, .inl (HVRt (SVH v))), .inl (0, 40, .inl (HVUp (SVH v))), .inl (0, 40, .inl (HVRk (SVH v))), .inl (0, 40, .inl (HVPa (SVH v))), .inl (0, 40, .inl (SVOw v)), .inl (0, 40, .inl (SVPg v)), .inl (0, 40, .inl (SVFt v)), .inl (0, 40, .inl (SVQu v)), .inl (0, 6, .inl (SVRo v)), .inl (0, 6, .inl (SVPd v)), .inl (2, 6, .inl (SVPs v))]) (st2 := [.int r12]) (c_X0_comesBefore _ _ _ _ _ hq11) ⟨rfl, rfl⟩ rfl k_X0_comesBefore l_X7_94 rfl rfl rfl rfl rfl (fit_of hR (by decide) (by decide) (by decide) (by decide)) (Nat.le_of_ble_eq_true rfl) (by decide) rfl rfl rfl ?_
            refine r_if_eq X 70 rfl rfl (fun c14 => ?_) (fun c14 => ?_)
            · rw [if_pos c14] at h
              refine go_l 2 X (pc2 := 15) (ls2 := [some (.ref 0), some (.int l1), some (.int l2), some (.int l3), some (.int (l4 + 1))]) (st2 := []) rfl ?_
              exact AW.eq (ih _ _ _ _ _ _ h) rfl rfl rfl rfl
            · rw [if_neg c14] at h
              refine go_l 3 X (pc2 := 15) (ls2 := [some (.ref 0), some (.int l1), some (.int l2), some (.int (l3 + 1)), some (.int (l4 + 1))]) (st2 := []) rfl ?_
              exact AW.eq (ih _ _ _ _ _ _ h) rfl rfl rfl rfl
set_option maxHeartbeats 6000000 in
set_option maxRecDepth 20000 in
theorem c_X7_jobsAhead (v : SV) (a : Int32) (b : Int32) (r : Int32) (h : f_X7_jobsAhead v a b = some r) : Sem z_X7_jobsAhead 2 0 0 [.ref 0, .int a, .int b] (WS v) (PST (.inl (some (.int r))) (WS v)) := by
  refine Sem.of zo_X7_jobsAhead (by decide +kernel) (Nat.le_of_ble_eq_true rfl) fun κ X hE hR hN => ?_
  unfold f_X7_jobsAhead at h
  refine AW.eq (pc' := 0) (ls' := [some (.ref 0), some (.int a), some (.int b), none, none]) (st' := []) (AH' := [.inr (7, [.ref 1, .int (SVJc v), .ref 8, .ref 9, .ref 10, .ref 11, .ref 12, .ref 13, .ref 14]), .inr (0, [.ref 2, .ref 3, .ref 4, .ref 5, .ref 6, .int (HVCm (SVH v)), .int (HVSw (SVH v)), .ref 7]), .inl (0, 40, .inl (HVPr (SVH v))), .inl (0, 40, .inl (HVLf (SVH v))), .inl (0, 40, .inl (HVRt (SVH v))), .inl (0, 40, .inl (HVUp (SVH v))), .inl (0, 40, .inl (HVRk (SVH v))), .inl (0, 40, .inl (HVPa (SVH v))), .inl (0, 40, .inl (SVOw v)), .inl (0, 40, .inl (SVPg v)), .inl (0, 40, .inl (SVFt v)), .inl (0, 40, .inl (SVQu v)), .inl (0, 6, .inl (SVRo v)), .inl (0, 6, .inl (SVPd v)), .inl (2, 6, .inl (SVPs v))]) ?_ rfl rfl rfl rfl
  refine go_s 2 X (pc2 := 2) (st2 := [.int a, .ref 0]) rfl ?_
  obtain ⟨r2, hq1, h⟩ := obind_inv h
  refine q_callV X [0, 1, 2, 3, 4, 5, 6, 7, 8, 9, 10, 11, 12, 13, 14] [] (AH2 := [.inr (7, [.ref 1, .int (SVJc v), .ref 8, .ref 9, .ref 10, .ref 11, .ref 12, .ref 13, .ref 14]), .inr (0, [.ref 2, .ref 3, .ref 4, .ref 5, .ref 6, .int (HVCm (SVH v)), .int (HVSw (SVH v)), .ref 7]), .inl (0, 40, .inl (HVPr (SVH v))), .inl (0, 40, .inl (HVLf (SVH v))), .inl (0, 40, .inl (HVRt (SVH v))), .inl (0, 40, .inl (HVUp (SVH v))), .inl (0, 40, .inl (HVRk (SVH v))), .inl (0, 40, .inl (HVPa (SVH v))), .inl (0, 40, .inl (SVOw v)), .inl (0, 40, .inl (SVPg v)), .inl (0, 40, .inl (SVFt v)), .inl (0, 40, .inl (SVQu v)), .inl (0, 6, .inl (SVRo v)), .inl (0, 6, .inl (SVPd v)), .inl (2, 6, .inl (SVPs v))]) (st2 := [.int r2]) (c_X7_waits _ _ _ hq1) ⟨rfl, rfl⟩ rfl k_X7_waits l_X7_60 rfl rfl rfl rfl rfl (fit_of hR (by decide) (by decide) (by decide) (by decide)) (Nat.le_of_ble_eq_true rfl) (by decide) rfl rfl rfl ?_
  refine r_if_ne X 10 rfl rfl (fun c4 => ?_) (fun c4 => ?_)
  · rw [if_neg c4] at h
    refine go_l 4 X (pc2 := 15) (ls2 := [some (.ref 0), some (.int a), some (.int b), some (.int 0), some (.int 0)]) (st2 := []) rfl ?_
    exact AW.eq (a_X7_jobsAhead_h15 X hR FU _ _ _ _ _ _ h) rfl rfl rfl rfl
  · rw [if_pos c4] at h
    refine go_s 1 X (pc2 := 9) (st2 := [.int 0]) rfl ?_
    cases h
    exact r_iret X rfl rfl ⟨rfl, rfl⟩ (by decide) (by decide)
set_option maxHeartbeats 6000000 in
set_option maxRecDepth 20000 in
theorem a_X7_jobsIn_h4 {κ : KX} (X : CX κ z_X7_jobsIn) (hR : κR κ = rmM 0 0 0) : ∀ (n : Nat) (l1 : Int32) (l2 : Int32) (l3 : Int32) (v : SV) (r : Int32) (h : f_X7_jobsIn_h4 n l1 l2 l3 v = some r), AW κ (QM κ (PST (.inl (some (.int r))) (WS v)) 0 0) 4 [some (.ref 0), some (.int l1), some (.int l2), some (.int l3)] [] (WS v) 0 0 := by
  intro n
  induction n with
  | zero =>
    intro l1 l2 l3 v r h
    unfold f_X7_jobsIn_h4 at h
    cases h
  | succ n ih =>
    intro l1 l2 l3 v r h
    unfold f_X7_jobsIn_h4 at h
    refine AW.eq (pc' := 4) (ls' := [some (.ref 0), some (.int l1), some (.int l2), some (.int l3)]) (st' := []) (AH' := [.inr (7, [.ref 1, .int (SVJc v), .ref 8, .ref 9, .ref 10, .ref 11, .ref 12, .ref 13, .ref 14]), .inr (0, [.ref 2, .ref 3, .ref 4, .ref 5, .ref 6, .int (HVCm (SVH v)), .int (HVSw (SVH v)), .ref 7]), .inl (0, 40, .inl (HVPr (SVH v))), .inl (0, 40, .inl (HVLf (SVH v))), .inl (0, 40, .inl (HVRt (SVH v))), .inl (0, 40, .inl (HVUp (SVH v))), .inl (0, 40, .inl (HVRk (SVH v))), .inl (0, 40, .inl (HVPa (SVH v))), .inl (0, 40, .inl (SVOw v)), .inl (0, 40, .inl (SVPg v)), .inl (0, 40, .inl (SVFt v)), .inl (0, 40, .inl (SVQu v)), .inl (0, 6, .inl (SVRo v)), .inl (0, 6, .inl (SVPd v)), .inl (2, 6, .inl (SVPs v))]) ?_ rfl rfl rfl rfl
    refine go_s 3 X (pc2 := 9) (st2 := [.int (SVJc v), .int l3]) rfl ?_
    refine r_icmp_ge X 37 rfl rfl (fun c1 => ?_) (fun c1 => ?_)
    · rw [if_pos c1] at h
      refine go_s 1 X (pc2 := 38) (st2 := [.int l2]) rfl ?_
      cases h
      exact r_iret X rfl rfl ⟨rfl, rfl⟩ (by decide) (by decide)
    · rw [if_neg c1] at h
      refine go_s 2 X (pc2 := 15) (st2 := [.int 40, .int l3]) rfl ?_
      refine r_icmp_ge X 37 rfl rfl (fun c2 => ?_) (fun c2 => ?_)
      · rw [if_pos c2] at h
        refine go_s 1 X (pc2 := 38) (st2 := [.int l2]) rfl ?_
        cases h
        exact r_iret X rfl rfl ⟨rfl, rfl⟩ (by decide) (by decide)
      · rw [if_neg c2] at h
        refine go_s 3 X (pc2 := 23) (st2 := [.int l3, .ref 11]) rfl ?_
        by_cases b3 : oob l3 40
        · rw [if_pos b3] at h; cases h
        rw [if_neg b3] at h
        refine r_iald X rfl rfl b3 ?_
        refine go_s 1 X (pc2 := 25) (st2 := [.int l1, .int ((SVQu v) (Int32.toNatClampNeg l3))]) rfl ?_
        refine r_icmp_ne X 31 rfl rfl (fun c4 => ?_) (fun c4 => ?_)
        · rw [if_neg c4] at h
          refine go_l 2 X (pc2 := 4) (ls2 := [some (.ref 0), some (.int l1), some (.int l2), some (.int (l3 + 1))]) (st2 := []) rfl ?_
          exact AW.eq (ih _ _ _ _ _ h) rfl rfl rfl rfl
        · rw [if_pos c4] at h
          refine go_l 3 X (pc2 := 4) (ls2 := [some (.ref 0), some (.int l1), some (.int (l2 + 1)), some (.int (l3 + 1))]) (st2 := []) rfl ?_
          exact AW.eq (ih _ _ _ _ _ h) rfl rfl rfl rfl
set_option maxHeartbeats 6000000 in
set_option maxRecDepth 20000 in
theorem c_X7_jobsIn (v : SV) (a : Int32) (r : Int32) (h : f_X7_jobsIn v a = some r) : Sem z_X7_jobsIn 0 0 0 [.ref 0, .int a] (WS v) (PST (.inl (some (.int r))) (WS v)) := by
  refine Sem.of zo_X7_jobsIn (by decide +kernel) (Nat.le_of_ble_eq_true rfl) fun κ X hE hR hN => ?_
  unfold f_X7_jobsIn at h
  refine AW.eq (pc' := 0) (ls' := [some (.ref 0), some (.int a), none, none]) (st' := []) (AH' := [.inr (7, [.ref 1, .int (SVJc v), .ref 8, .ref 9, .ref 10, .ref 11, .ref 12, .ref 13, .ref 14]), .inr (0, [.ref 2, .ref 3, .ref 4, .ref 5, .ref 6, .int (HVCm (SVH v)), .int (HVSw (SVH v)), .ref 7]), .inl (0, 40, .inl (HVPr (SVH v))), .inl (0, 40, .inl (HVLf (SVH v))), .inl (0, 40, .inl (HVRt (SVH v))), .inl (0, 40, .inl (HVUp (SVH v))), .inl (0, 40, .inl (HVRk (SVH v))), .inl (0, 40, .inl (HVPa (SVH v))), .inl (0, 40, .inl (SVOw v)), .inl (0, 40, .inl (SVPg v)), .inl (0, 40, .inl (SVFt v)), .inl (0, 40, .inl (SVQu v)), .inl (0, 6, .inl (SVRo v)), .inl (0, 6, .inl (SVPd v)), .inl (2, 6, .inl (SVPs v))]) ?_ rfl rfl rfl rfl
  refine go_l 4 X (pc2 := 4) (ls2 := [some (.ref 0), some (.int a), some (.int 0), some (.int 0)]) (st2 := []) rfl ?_
  exact AW.eq (a_X7_jobsIn_h4 X hR FU _ _ _ _ _ h) rfl rfl rfl rfl
set_option maxHeartbeats 6000000 in
set_option maxRecDepth 20000 in
theorem a_X7_joinQueues_h55 {κ : KX} (X : CX κ z_X7_joinQueues) (hR : κR κ = rmM 3 0 0) : ∀ (n : Nat) (l1 : Int32) (l2 : Int32) (l3 : Int32) (v : SV) (r : Int32) (w : SV) (h : f_X7_joinQueues_h55 n l1 l2 l3 v = some (r, w)), AW κ (QM κ (PST (.inl (some (.int r))) (WS w)) 0 0) 55 [some (.ref 0), some (.int l1), some (.int l2), some (.int l3)] [] (WS v) 0 0 := by
  intro n
  induction n with
  | zero =>
    intro l1 l2 l3 v r w h
    unfold f_X7_joinQueues_h55 at h
    cases h
  | succ n ih =>
    intro l1 l2 l3 v r w h
    unfold f_X7_joinQueues_h55 at h
    refine AW.eq (pc' := 55) (ls' := [some (.ref 0), some (.int l1), some (.int l2), some (.int l3)]) (st' := []) (AH' := [.inr (7, [.ref 1, .int (SVJc v), .ref 8, .ref 9, .ref 10, .ref 11, .ref 12, .ref 13, .ref 14]), .inr (0, [.ref 2, .ref 3, .ref 4, .ref 5, .ref 6, .int (HVCm (SVH v)), .int (HVSw (SVH v)), .ref 7]), .inl (0, 40, .inl (HVPr (SVH v))), .inl (0, 40, .inl (HVLf (SVH v))), .inl (0, 40, .inl (HVRt (SVH v))), .inl (0, 40, .inl (HVUp (SVH v))), .inl (0, 40, .inl (HVRk (SVH v))), .inl (0, 40, .inl (HVPa (SVH v))), .inl (0, 40, .inl (SVOw v)), .inl (0, 40, .inl (SVPg v)), .inl (0, 40, .inl (SVFt v)), .inl (0, 40, .inl (SVQu v)), .inl (0, 6, .inl (SVRo v)), .inl (0, 6, .inl (SVPd v)), .inl (2, 6, .inl (SVPs v))]) ?_ rfl rfl rfl rfl
    refine go_s 3 X (pc2 := 60) (st2 := [.int (SVJc v), .int l3]) rfl ?_
    refine r_icmp_ge X 92 rfl rfl (fun c17 => ?_) (fun c17 => ?_)
    · rw [if_pos c17] at h
      refine go_s 1 X (pc2 := 93) (st2 := [.int 1]) rfl ?_
      cases h
      exact r_zret X (ty := .boolean) rfl rfl rfl ⟨rfl, rfl⟩ (by decide) (by decide)
    · rw [if_neg c17] at h
      refine go_s 2 X (pc2 := 66) (st2 := [.int 40, .int l3]) rfl ?_
      refine r_icmp_ge X 92 rfl rfl (fun c18 => ?_) (fun c18 => ?_)
      · rw [if_pos c18] at h
        refine go_s 1 X (pc2 := 93) (st2 := [.int 1]) rfl ?_
        cases h
        exact r_zret X (ty := .boolean) rfl rfl rfl ⟨rfl, rfl⟩ (by decide) (by decide)
      · rw [if_neg c18] at h
        refine go_s 3 X (pc2 := 74) (st2 := [.int l3, .ref 11]) rfl ?_
        by_cases b19 : oob l3 40
        · rw [if_pos b19] at h; cases h
        rw [if_neg b19] at h
        refine r_iald X rfl rfl b19 ?_
        refine go_s 1 X (pc2 := 76) (st2 := [.int l1, .int ((SVQu v) (Int32.toNatClampNeg l3))]) rfl ?_
        refine r_icmp_ne X 86 rfl rfl (fun c20 => ?_) (fun c20 => ?_)
        · rw [if_neg c20] at h
          refine go_l 2 X (pc2 := 55) (ls2 := [some (.ref 0), some (.int l1), some (.int l2), some (.int (l3 + 1))]) (st2 := []) rfl ?_
          exact AW.eq (ih _ _ _ _ _ _ h) rfl rfl rfl rfl
        · rw [if_pos c20] at h
          refine go_s 4 X (pc2 := 85) (st2 := [.int l2, .int l3, .ref 11]) rfl ?_
          by_cases b21 : oob l3 40
          · rw [if_pos b21] at h; cases h
          rw [if_neg b21] at h
          refine r_iast X rfl rfl b21 ?_
          refine go_l 2 X (pc2 := 55) (ls2 := [some (.ref 0), some (.int l1), some (.int l2), some (.int (l3 + 1))]) (st2 := []) rfl ?_
          exact AW.eq (ih _ _ _ _ _ _ h) rfl rfl rfl rfl
set_option maxHeartbeats 6000000 in
set_option maxRecDepth 20000 in
theorem c_X7_joinQueues (v : SV) (a : Int32) (b : Int32) (r : Int32) (w : SV) (h : f_X7_joinQueues v a b = some (r, w)) : Sem z_X7_joinQueues 3 0 0 [.ref 0, .int a, .int b] (WS v) (PST (.inl (some (.int r))) (WS w)) := by
  refine Sem.of zo_X7_joinQueues (by decide +kernel) (Nat.le_of_ble_eq_true rfl) fun κ X hE hR hN => ?_
  unfold f_X7_joinQueues at h
  refine AW.eq (pc' := 0) (ls' := [some (.ref 0), some (.int a), some (.int b), none]) (st' := []) (AH' := [.inr (7, [.ref 1, .int (SVJc v), .ref 8, .ref 9, .ref 10, .ref 11, .ref 12, .ref 13, .ref 14]), .inr (0, [.ref 2, .ref 3, .ref 4, .ref 5, .ref 6, .int (HVCm (SVH v)), .int (HVSw (SVH v)), .ref 7]), .inl (0, 40, .inl (HVPr (SVH v))), .inl (0, 40, .inl (HVLf (SVH v))), .inl (0, 40, .inl (HVRt (SVH v))), .inl (0, 40, .inl (HVUp (SVH v))), .inl (0, 40, .inl (HVRk (SVH v))), .inl (0, 40, .inl (HVPa (SVH v))), .inl (0, 40, .inl (SVOw v)), .inl (0, 40, .inl (SVPg v)), .inl (0, 40, .inl (SVFt v)), .inl (0, 40, .inl (SVQu v)), .inl (0, 6, .inl (SVRo v)), .inl (0, 6, .inl (SVPd v)), .inl (2, 6, .inl (SVPs v))]) ?_ rfl rfl rfl rfl
  refine go_s 1 X (pc2 := 1) (st2 := [.int a]) rfl ?_
  obtain ⟨r2, hq1, h⟩ := obind_inv h
  refine q_callS X [] [] (AH2 := [.inr (7, [.ref 1, .int (SVJc v), .ref 8, .ref 9, .ref 10, .ref 11, .ref 12, .ref 13, .ref 14]), .inr (0, [.ref 2, .ref 3, .ref 4, .ref 5, .ref 6, .int (HVCm (SVH v)), .int (HVSw (SVH v)), .ref 7]), .inl (0, 40, .inl (HVPr (SVH v))), .inl (0, 40, .inl (HVLf (SVH v))), .inl (0, 40, .inl (HVRt (SVH v))), .inl (0, 40, .inl (HVUp (SVH v))), .inl (0, 40, .inl (HVRk (SVH v))), .inl (0, 40, .inl (HVPa (SVH v))), .inl (0, 40, .inl (SVOw v)), .inl (0, 40, .inl (SVPg v)), .inl (0, 40, .inl (SVFt v)), .inl (0, 40, .inl (SVQu v)), .inl (0, 6, .inl (SVRo v)), .inl (0, 6, .inl (SVPd v)), .inl (2, 6, .inl (SVPs v))]) (st2 := [.int r2]) (c_X7_isQueue _ _ hq1) ⟨rfl, rfl⟩ rfl k_X7_isQueue l_X7_56 rfl rfl (fit_of hR (by decide) (by decide) (by decide) (by decide)) (Nat.le_of_ble_eq_true rfl) (by decide) rfl rfl rfl ?_
  refine r_if_eq X 19 rfl rfl (fun c4 => ?_) (fun c4 => ?_)
  · rw [if_pos c4] at h
    refine go_s 1 X (pc2 := 20) (st2 := [.int 0]) rfl ?_
    cases h
    exact r_zret X (ty := .boolean) rfl rfl rfl ⟨rfl, rfl⟩ (by decide) (by decide)
  · rw [if_neg c4] at h
    refine go_s 1 X (pc2 := 8) (st2 := [.int b]) rfl ?_
    obtain ⟨r6, hq5, h⟩ := obind_inv h
    refine q_callS X [] [] (AH2 := [.inr (7, [.ref 1, .int (SVJc v), .ref 8, .ref 9, .ref 10, .ref 11, .ref 12, .ref 13, .ref 14]), .inr (0, [.ref 2, .ref 3, .ref 4, .ref 5, .ref 6, .int (HVCm (SVH v)), .int (HVSw (SVH v)), .ref 7]), .inl (0, 40, .inl (HVPr (SVH v))), .inl (0, 40, .inl (HVLf (SVH v))), .inl (0, 40, .inl (HVRt (SVH v))), .inl (0, 40, .inl (HVUp (SVH v))), .inl (0, 40, .inl (HVRk (SVH v))), .inl (0, 40, .inl (HVPa (SVH v))), .inl (0, 40, .inl (SVOw v)), .inl (0, 40, .inl (SVPg v)), .inl (0, 40, .inl (SVFt v)), .inl (0, 40, .inl (SVQu v)), .inl (0, 6, .inl (SVRo v)), .inl (0, 6, .inl (SVPd v)), .inl (2, 6, .inl (SVPs v))]) (st2 := [.int r6]) (c_X7_isQueue _ _ hq5) ⟨rfl, rfl⟩ rfl k_X7_isQueue l_X7_56 rfl rfl (fit_of hR (by decide) (by decide) (by decide) (by decide)) (Nat.le_of_ble_eq_true rfl) (by decide) rfl rfl rfl ?_
    refine r_if_eq X 19 rfl rfl (fun c8 => ?_) (fun c8 => ?_)
    · rw [if_pos c8] at h
      refine go_s 1 X (pc2 := 20) (st2 := [.int 0]) rfl ?_
      cases h
      exact r_zret X (ty := .boolean) rfl rfl rfl ⟨rfl, rfl⟩ (by decide) (by decide)
    · rw [if_neg c8] at h
      refine go_s 2 X (pc2 := 16) (st2 := [.int b, .int a]) rfl ?_
      refine r_icmp_ne X 21 rfl rfl (fun c9 => ?_) (fun c9 => ?_)
      · rw [if_neg c9] at h
        refine go_s 8 X (pc2 := 35) (st2 := [.int a, .ref 12, .ref 1, .int b, .ref 12]) rfl ?_
        by_cases b10 : oob a 6
        · rw [if_pos b10] at h; cases h
        rw [if_neg b10] at h
        refine r_iald X rfl rfl b10 ?_
        refine go_s 3 X (pc2 := 41) (st2 := [.int b, .ref 12, .int ((SVRo v) (Int32.toNatClampNeg a)), .ref 1, .int b, .ref 12]) rfl ?_
        by_cases b11 : oob b 6
        · rw [if_pos b11] at h; cases h
        rw [if_neg b11] at h
        refine r_iald X rfl rfl b11 ?_
        obtain ⟨r13, w14, hq12, h⟩ := bnd2_inv h
        refine q_callV X [1, 2, 3, 4, 5, 6, 7] [] (AH2 := [.inr (7, [.ref 1, .int (SVJc v), .ref 8, .ref 9, .ref 10, .ref 11, .ref 12, .ref 13, .ref 14]), .inr (0, [.ref 2, .ref 3, .ref 4, .ref 5, .ref 6, .int (HVCm w14), .int (HVSw w14), .ref 7]), .inl (0, 40, .inl (HVPr w14)), .inl (0, 40, .inl (HVLf w14)), .inl (0, 40, .inl (HVRt w14)), .inl (0, 40, .inl (HVUp w14)), .inl (0, 40, .inl (HVRk w14)), .inl (0, 40, .inl (HVPa w14)), .inl (0, 40, .inl (SVOw v)), .inl (0, 40, .inl (SVPg v)), .inl (0, 40, .inl (SVFt v)), .inl (0, 40, .inl (SVQu v)), .inl (0, 6, .inl (SVRo v)), .inl (0, 6, .inl (SVPd v)), .inl (2, 6, .inl (SVPs v))]) (st2 := [.int r13, .int b, .ref 12]) (c_X0_merge _ _ _ _ _ hq12) ⟨rfl, rfl⟩ rfl k_X0_merge l_X7_71 rfl rfl rfl rfl rfl (fit_of hR (by decide) (by decide) (by decide) (by decide)) (Nat.le_of_ble_eq_true rfl) (by decide) rfl rfl rfl ?_
        by_cases b15 : oob b 6
        · rw [if_pos b15] at h; cases h
        rw [if_neg b15] at h
        refine r_iast X rfl rfl b15 ?_
        refine go_s 4 X (pc2 := 52) (st2 := [.int (-1), .int a, .ref 12]) rfl ?_
        by_cases b16 : oob a 6
        · rw [if_pos b16] at h; cases h
        rw [if_neg b16] at h
        refine r_iast X rfl rfl b16 ?_
        refine go_l 2 X (pc2 := 55) (ls2 := [some (.ref 0), some (.int a), some (.int b), some (.int 0)]) (st2 := []) rfl ?_
        exact AW.eq (a_X7_joinQueues_h55 X hR FU _ _ _ _ _ _ h) rfl rfl rfl rfl
      · rw [if_pos c9] at h
        refine go_s 1 X (pc2 := 20) (st2 := [.int 0]) rfl ?_
        cases h
        exact r_zret X (ty := .boolean) rfl rfl rfl ⟨rfl, rfl⟩ (by decide) (by decide)
set_option maxHeartbeats 6000000 in
set_option maxRecDepth 20000 in
theorem c_X7_obstacle (v : SV) (a : Int32) (r : Int32) (h : f_X7_obstacle v a = some r) : Sem z_X7_obstacle 1 0 0 [.ref 0, .int a] (WS v) (PST (.inl (some (.int r))) (WS v)) := by
  refine Sem.of zo_X7_obstacle (by decide +kernel) (Nat.le_of_ble_eq_true rfl) fun κ X hE hR hN => ?_
  unfold f_X7_obstacle at h
  refine AW.eq (pc' := 0) (ls' := [some (.ref 0), some (.int a)]) (st' := []) (AH' := [.inr (7, [.ref 1, .int (SVJc v), .ref 8, .ref 9, .ref 10, .ref 11, .ref 12, .ref 13, .ref 14]), .inr (0, [.ref 2, .ref 3, .ref 4, .ref 5, .ref 6, .int (HVCm (SVH v)), .int (HVSw (SVH v)), .ref 7]), .inl (0, 40, .inl (HVPr (SVH v))), .inl (0, 40, .inl (HVLf (SVH v))), .inl (0, 40, .inl (HVRt (SVH v))), .inl (0, 40, .inl (HVUp (SVH v))), .inl (0, 40, .inl (HVRk (SVH v))), .inl (0, 40, .inl (HVPa (SVH v))), .inl (0, 40, .inl (SVOw v)), .inl (0, 40, .inl (SVPg v)), .inl (0, 40, .inl (SVFt v)), .inl (0, 40, .inl (SVQu v)), .inl (0, 6, .inl (SVRo v)), .inl (0, 6, .inl (SVPd v)), .inl (2, 6, .inl (SVPs v))]) ?_ rfl rfl rfl rfl
  refine go_s 1 X (pc2 := 1) (st2 := [.int a]) rfl ?_
  obtain ⟨r2, hq1, h⟩ := obind_inv h
  refine q_callS X [] [] (AH2 := [.inr (7, [.ref 1, .int (SVJc v), .ref 8, .ref 9, .ref 10, .ref 11, .ref 12, .ref 13, .ref 14]), .inr (0, [.ref 2, .ref 3, .ref 4, .ref 5, .ref 6, .int (HVCm (SVH v)), .int (HVSw (SVH v)), .ref 7]), .inl (0, 40, .inl (HVPr (SVH v))), .inl (0, 40, .inl (HVLf (SVH v))), .inl (0, 40, .inl (HVRt (SVH v))), .inl (0, 40, .inl (HVUp (SVH v))), .inl (0, 40, .inl (HVRk (SVH v))), .inl (0, 40, .inl (HVPa (SVH v))), .inl (0, 40, .inl (SVOw v)), .inl (0, 40, .inl (SVPg v)), .inl (0, 40, .inl (SVFt v)), .inl (0, 40, .inl (SVQu v)), .inl (0, 6, .inl (SVRo v)), .inl (0, 6, .inl (SVPd v)), .inl (2, 6, .inl (SVPs v))]) (st2 := [.int r2]) (c_X7_isQueue _ _ hq1) ⟨rfl, rfl⟩ rfl k_X7_isQueue l_X7_56 rfl rfl (fit_of hR (by decide) (by decide) (by decide) (by decide)) (Nat.le_of_ble_eq_true rfl) (by decide) rfl rfl rfl ?_
  refine r_if_eq X 16 rfl rfl (fun c4 => ?_) (fun c4 => ?_)
  · rw [if_pos c4] at h
    refine go_s 1 X (pc2 := 17) (st2 := [.int 1]) rfl ?_
    cases h
    exact r_iret X rfl rfl ⟨rfl, rfl⟩ (by decide) (by decide)
  · rw [if_neg c4] at h
    refine go_s 3 X (pc2 := 12) (st2 := [.int a, .ref 14]) rfl ?_
    by_cases b5 : oob a 6
    · rw [if_pos b5] at h; cases h
    rw [if_neg b5] at h
    refine r_zald X rfl rfl b5 ?_
    refine r_if_eq X 18 rfl rfl (fun c6 => ?_) (fun c6 => ?_)
    · rw [if_pos c6] at h
      refine go_s 3 X (pc2 := 23) (st2 := [.int a, .ref 12]) rfl ?_
      by_cases b7 : oob a 6
      · rw [if_pos b7] at h; cases h
      rw [if_neg b7] at h
      refine r_iald X rfl rfl b7 ?_
      refine go_s 1 X (pc2 := 25) (st2 := [.int (-1), .int ((SVRo v) (Int32.toNatClampNeg a))]) rfl ?_
      refine r_icmp_ne X 32 rfl rfl (fun c8 => ?_) (fun c8 => ?_)
      · rw [if_neg c8] at h
        refine go_s 1 X (pc2 := 33) (st2 := [.int 0]) rfl ?_
        cases h
        exact r_iret X rfl rfl ⟨rfl, rfl⟩ (by decide) (by decide)
      · rw [if_pos c8] at h
        refine go_s 2 X (pc2 := 33) (st2 := [.int 2]) rfl ?_
        cases h
        exact r_iret X rfl rfl ⟨rfl, rfl⟩ (by decide) (by decide)
    · rw [if_neg c6] at h
      refine go_s 1 X (pc2 := 17) (st2 := [.int 1]) rfl ?_
      cases h
      exact r_iret X rfl rfl ⟨rfl, rfl⟩ (by decide) (by decide)
set_option maxHeartbeats 6000000 in
set_option maxRecDepth 20000 in
theorem a_X7_pagesAhead_h14 {κ : KX} (X : CX κ z_X7_pagesAhead) (hR : κR κ = rmM 2 0 0) : ∀ (n : Nat) (l1 : Int32) (l2 : Int32) (l3 : Int32) (v : SV) (r : Int32) (h : f_X7_pagesAhead_h14 n l1 l2 l3 v = some r), AW κ (QM κ (PST (.inl (some (.int r))) (WS v)) 0 0) 14 [some (.ref 0), some (.int l1), some (.int l2), some (.int l3)] [] (WS v) 0 0 := by
  intro n
  induction n with
  | zero =>
    intro l1 l2 l3 v r h
    unfold f_X7_pagesAhead_h14 at h
    cases h
  | succ n ih =>
    intro l1 l2 l3 v r h
    unfold f_X7_pagesAhead_h14 at h
    refine AW.eq (pc' := 14) (ls' := [some (.ref 0), some (.int l1), some (.int l2), some (.int l3)]) (st' := []) (AH' := [.inr (7, [.ref 1, .int (SVJc v), .ref 8, .ref 9, .ref 10, .ref 11, .ref 12, .ref 13, .ref 14]), .inr (0, [.ref 2, .ref 3, .ref 4, .ref 5, .ref 6, .int (HVCm (SVH v)), .int (HVSw (SVH v)), .ref 7]), .inl (0, 40, .inl (HVPr (SVH v))), .inl (0, 40, .inl (HVLf (SVH v))), .inl (0, 40, .inl (HVRt (SVH v))), .inl (0, 40, .inl (HVUp (SVH v))), .inl (0, 40, .inl (HVRk (SVH v))), .inl (0, 40, .inl (HVPa (SVH v))), .inl (0, 40, .inl (SVOw v)), .inl (0, 40, .inl (SVPg v)), .inl (0, 40, .inl (SVFt v)), .inl (0, 40, .inl (SVQu v)), .inl (0, 6, .inl (SVRo v)), .inl (0, 6, .inl (SVPd v)), .inl (2, 6, .inl (SVPs v))]) ?_ rfl rfl rfl rfl
    refine go_s 3 X (pc2 := 19) (st2 := [.int (SVJc v), .int l3]) rfl ?_
    refine r_icmp_ge X 70 rfl rfl (fun c5 => ?_) (fun c5 => ?_)
    · rw [if_pos c5] at h
      refine go_s 1 X (pc2 := 71) (st2 := [.int l2]) rfl ?_
      cases h
      exact r_iret X rfl rfl ⟨rfl, rfl⟩ (by decide) (by decide)
    · rw [if_neg c5] at h
      refine go_s 2 X (pc2 := 25) (st2 := [.int 40, .int l3]) rfl ?_
      refine r_icmp_ge X 70 rfl rfl (fun c6 => ?_) (fun c6 => ?_)
      · rw [if_pos c6] at h
        refine go_s 1 X (pc2 := 71) (st2 := [.int l2]) rfl ?_
        cases h
        exact r_iret X rfl rfl ⟨rfl, rfl⟩ (by decide) (by decide)
      · rw [if_neg c6] at h
        refine go_s 3 X (pc2 := 33) (st2 := [.int l3, .ref 11]) rfl ?_
        by_cases b7 : oob l3 40
        · rw [if_pos b7] at h; cases h
        rw [if_neg b7] at h
        refine r_iald X rfl rfl b7 ?_
        refine go_s 3 X (pc2 := 39) (st2 := [.int l1, .ref 11, .int ((SVQu v) (Int32.toNatClampNeg l3))]) rfl ?_
        by_cases b8 : oob l1 40
        · rw [if_pos b8] at h; cases h
        rw [if_neg b8] at h
        refine r_iald X rfl rfl b8 ?_
        refine r_icmp_ne X 64 rfl rfl (fun c9 => ?_) (fun c9 => ?_)
        · rw [if_neg c9] at h
          refine go_l 2 X (pc2 := 14) (ls2 := [some (.ref 0), some (.int l1), some (.int l2), some (.int (l3 + 1))]) (st2 := []) rfl ?_
          exact AW.eq (ih _ _ _ _ _ h) rfl rfl rfl rfl
        · rw [if_pos c9] at h
          refine go_s 4 X (pc2 := 49) (st2 := [.int l1, .int l3, .ref 1]) rfl ?_
          obtain ⟨r11, hq10, h⟩ := obind_inv h
          refine q_callV X [1, 2, 3, 4, 5, 6, 7] [] (AH2 := [.inr (7, [.ref 1, .int (SVJc v), .ref 8, .ref 9, .ref 10, .ref 11, .ref 12, .ref 13, .ref 14]), .inr (0, [.ref 2, .ref 3, .ref 4, .ref 5, .ref 6, .int (HVCm (SVH v)), .int (HVSw (SVH v)), .ref 7]), .inl (0, 40, .inl (HVPr (SVH v))), .inl (0, 40, .inl (HVLf (SVH v))), .inl (0, 40, .inl (HVRt (SVH v))), .inl (0, 40, .inl (HVUp (SVH v))), .inl (0, 40, .inl (HVRk (SVH v))), .inl (0, 40, .inl (HVPa (SVH v))), .inl (0, 40, .inl (SVOw v)), .inl (0, 40, .inl (SVPg v)), .inl (0, 40, .inl (SVFt v)), .inl (0, 40, .inl (SVQu v)), .inl (0, 6, .inl (SVRo v)), .inl (0, 6, .inl (SVPd v)), .inl (2, 6, .inl (SVPs v))]) (st2 := [.int r11]) (c_X0_precedes _ _ _ _ hq10) ⟨rfl, rfl⟩ rfl k_X0_precedes l_X7_90 rfl rfl rfl rfl rfl (fit_of hR (by decide) (by decide) (by decide) (by decide)) (Nat.le_of_ble_eq_true rfl) (by decide) rfl rfl rfl ?_
          refine r_if_eq X 64 rfl rfl (fun c13 => ?_) (fun c13 => ?_)
          · rw [if_pos c13] at h
            refine go_l 2 X (pc2 := 14) (ls2 := [some (.ref 0), some (.int l1), some (.int l2), some (.int (l3 + 1))]) (st2 := []) rfl ?_
            exact AW.eq (ih _ _ _ _ _ h) rfl rfl rfl rfl
          · rw [if_neg c13] at h
            refine go_s 4 X (pc2 := 61) (st2 := [.int l3, .ref 9, .int l2]) rfl ?_
            by_cases b14 : oob l3 40
            · rw [if_pos b14] at h; cases h
            rw [if_neg b14] at h
            refine r_iald X rfl rfl b14 ?_
            refine go_l 4 X (pc2 := 14) (ls2 := [some (.ref 0), some (.int l1), some (.int (l2 + ((SVPg v) (Int32.toNatClampNeg l3)))), some (.int (l3 + 1))]) (st2 := []) rfl ?_
            exact AW.eq (ih _ _ _ _ _ h) rfl rfl rfl rfl
