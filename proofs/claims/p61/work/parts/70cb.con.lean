/-! ===== 70cb: contracts, by program ===== -/
set_option maxHeartbeats 6000000 in
set_option maxRecDepth 20000 in
theorem c_X7_copyFrom (v : P_SV_SV) (r : Unit) (w : P_SV_SV) (h : f_X7_copyFrom v = some (r, w)) : Sem z_X7_copyFrom 3 0 0 [.ref 0, .ref 15] (WP_SV_SV v) (PST (.inl none) (WP_SV_SV w)) := by
  refine Sem.of zo_X7_copyFrom (by decide +kernel) (Nat.le_of_ble_eq_true rfl) fun κ X hE hR hN => ?_
  unfold f_X7_copyFrom at h
  refine AW.eq (pc' := 0) (ls' := [some (.ref 0), some (.ref 15), none]) (st' := []) (AH' := [.inr (7, [.ref 1, .int (SVJc (P_SV_SVA v)), .ref 8, .ref 9, .ref 10, .ref 11, .ref 12, .ref 13, .ref 14]), .inr (0, [.ref 2, .ref 3, .ref 4, .ref 5, .ref 6, .int (HVCm (SVH (P_SV_SVA v))), .int (HVSw (SVH (P_SV_SVA v))), .ref 7]), .inl (0, 40, .inl (HVPr (SVH (P_SV_SVA v)))), .inl (0, 40, .inl (HVLf (SVH (P_SV_SVA v)))), .inl (0, 40, .inl (HVRt (SVH (P_SV_SVA v)))), .inl (0, 40, .inl (HVUp (SVH (P_SV_SVA v)))), .inl (0, 40, .inl (HVRk (SVH (P_SV_SVA v)))), .inl (0, 40, .inl (HVPa (SVH (P_SV_SVA v)))), .inl (0, 40, .inl (SVOw (P_SV_SVA v))), .inl (0, 40, .inl (SVPg (P_SV_SVA v))), .inl (0, 40, .inl (SVFt (P_SV_SVA v))), .inl (0, 40, .inl (SVQu (P_SV_SVA v))), .inl (0, 6, .inl (SVRo (P_SV_SVA v))), .inl (0, 6, .inl (SVPd (P_SV_SVA v))), .inl (2, 6, .inl (SVPs (P_SV_SVA v))), .inr (7, [.ref 16, .int (SVJc (P_SV_SVB v)), .ref 23, .ref 24, .ref 25, .ref 26, .ref 27, .ref 28, .ref 29]), .inr (0, [.ref 17, .ref 18, .ref 19, .ref 20, .ref 21, .int (HVCm (SVH (P_SV_SVB v))), .int (HVSw (SVH (P_SV_SVB v))), .ref 22]), .inl (0, 40, .inl (HVPr (SVH (P_SV_SVB v)))), .inl (0, 40, .inl (HVLf (SVH (P_SV_SVB v)))), .inl (0, 40, .inl (HVRt (SVH (P_SV_SVB v)))), .inl (0, 40, .inl (HVUp (SVH (P_SV_SVB v)))), .inl (0, 40, .inl (HVRk (SVH (P_SV_SVB v)))), .inl (0, 40, .inl (HVPa (SVH (P_SV_SVB v)))), .inl (0, 40, .inl (SVOw (P_SV_SVB v))), .inl (0, 40, .inl (SVPg (P_SV_SVB v))), .inl (0, 40, .inl (SVFt (P_SV_SVB v))), .inl (0, 40, .inl (SVQu (P_SV_SVB v))), .inl (0, 6, .inl (SVRo (P_SV_SVB v))), .inl (0, 6, .inl (SVPd (P_SV_SVB v))), .inl (2, 6, .inl (SVPs (P_SV_SVB v)))]) ?_ rfl rfl rfl rfl
  refine go_s 4 X (pc2 := 8) (st2 := [.ref 16, .ref 1]) rfl ?_
  obtain ⟨r2, w3, hq1, h⟩ := bnd2_inv h
  refine q_callV X [1, 2, 3, 4, 5, 6, 7, 16, 17, 18, 19, 20, 21, 22] [] (AH2 := [.inr (7, [.ref 1, .int (SVJc (P_SV_SVA v)), .ref 8, .ref 9, .ref 10, .ref 11, .ref 12, .ref 13, .ref 14]), .inr (0, [.ref 2, .ref 3, .ref 4, .ref 5, .ref 6, .int (HVCm (P_HV_HVA w3)), .int (HVSw (P_HV_HVA w3)), .ref 7]), .inl (0, 40, .inl (HVPr (P_HV_HVA w3))), .inl (0, 40, .inl (HVLf (P_HV_HVA w3))), .inl (0, 40, .inl (HVRt (P_HV_HVA w3))), .inl (0, 40, .inl (HVUp (P_HV_HVA w3))), .inl (0, 40, .inl (HVRk (P_HV_HVA w3))), .inl (0, 40, .inl (HVPa (P_HV_HVA w3))), .inl (0, 40, .inl (SVOw (P_SV_SVA v))), .inl (0, 40, .inl (SVPg (P_SV_SVA v))), .inl (0, 40, .inl (SVFt (P_SV_SVA v))), .inl (0, 40, .inl (SVQu (P_SV_SVA v))), .inl (0, 6, .inl (SVRo (P_SV_SVA v))), .inl (0, 6, .inl (SVPd (P_SV_SVA v))), .inl (2, 6, .inl (SVPs (P_SV_SVA v))), .inr (7, [.ref 16, .int (SVJc (P_SV_SVB v)), .ref 23, .ref 24, .ref 25, .ref 26, .ref 27, .ref 28, .ref 29]), .inr (0, [.ref 17, .ref 18, .ref 19, .ref 20, .ref 21, .int (HVCm (P_HV_HVB w3)), .int (HVSw (P_HV_HVB w3)), .ref 22]), .inl (0, 40, .inl (HVPr (P_HV_HVB w3))), .inl (0, 40, .inl (HVLf (P_HV_HVB w3))), .inl (0, 40, .inl (HVRt (P_HV_HVB w3))), .inl (0, 40, .inl (HVUp (P_HV_HVB w3))), .inl (0, 40, .inl (HVRk (P_HV_HVB w3))), .inl (0, 40, .inl (HVPa (P_HV_HVB w3))), .inl (0, 40, .inl (SVOw (P_SV_SVB v))), .inl (0, 40, .inl (SVPg (P_SV_SVB v))), .inl (0, 40, .inl (SVFt (P_SV_SVB v))), .inl (0, 40, .inl (SVQu (P_SV_SVB v))), .inl (0, 6, .inl (SVRo (P_SV_SVB v))), .inl (0, 6, .inl (SVPd (P_SV_SVB v))), .inl (2, 6, .inl (SVPs (P_SV_SVB v)))]) (st2 := []) (c_X0_copyFrom _ _ _ hq1) ⟨rfl, rfl⟩ rfl k_X0_copyFrom l_X7_48 rfl rfl rfl rfl rfl (fit_of hR (by decide) (by decide) (by decide) (by decide)) (Nat.le_of_ble_eq_true rfl) (by decide) rfl ((putB_bld (s := [none, some 0, some 1, some 2, some 3, some 4, some 5, some 6, none, none, none, none, none, none, none, none, some 7, some 8, some 9, some 10, some 11, some 12, some 13, none, none, none, none, none, none, none]) (by decide +kernel) rfl rfl).trans rfl) rfl ?_
  refine go 8 X (pc2 := 27) (ls2 := [some (.ref 0), some (.ref 15), none]) (st2 := [.ref 8, .ref 23]) (AH2 := [.inr (7, [.ref 1, .int (SVJc (P_SV_SVB v)), .ref 8, .ref 9, .ref 10, .ref 11, .ref 12, .ref 13, .ref 14]), .inr (0, [.ref 2, .ref 3, .ref 4, .ref 5, .ref 6, .int (HVCm (P_HV_HVA w3)), .int (HVSw (P_HV_HVA w3)), .ref 7]), .inl (0, 40, .inl (HVPr (P_HV_HVA w3))), .inl (0, 40, .inl (HVLf (P_HV_HVA w3))), .inl (0, 40, .inl (HVRt (P_HV_HVA w3))), .inl (0, 40, .inl (HVUp (P_HV_HVA w3))), .inl (0, 40, .inl (HVRk (P_HV_HVA w3))), .inl (0, 40, .inl (HVPa (P_HV_HVA w3))), .inl (0, 40, .inl (SVOw (P_SV_SVA v))), .inl (0, 40, .inl (SVPg (P_SV_SVA v))), .inl (0, 40, .inl (SVFt (P_SV_SVA v))), .inl (0, 40, .inl (SVQu (P_SV_SVA v))), .inl (0, 6, .inl (SVRo (P_SV_SVA v))), .inl (0, 6, .inl (SVPd (P_SV_SVA v))), .inl (2, 6, .inl (SVPs (P_SV_SVA v))), .inr (7, [.ref 16, .int (SVJc (P_SV_SVB v)), .ref 23, .ref 24, .ref 25, .ref 26, .ref 27, .ref 28, .ref 29]), .inr (0, [.ref 17, .ref 18, .ref 19, .ref 20, .ref 21, .int (HVCm (P_HV_HVB w3)), .int (HVSw (P_HV_HVB w3)), .ref 22]), .inl (0, 40, .inl (HVPr (P_HV_HVB w3))), .inl (0, 40, .inl (HVLf (P_HV_HVB w3))), .inl (0, 40, .inl (HVRt (P_HV_HVB w3))), .inl (0, 40, .inl (HVUp (P_HV_HVB w3))), .inl (0, 40, .inl (HVRk (P_HV_HVB w3))), .inl (0, 40, .inl (HVPa (P_HV_HVB w3))), .inl (0, 40, .inl (SVOw (P_SV_SVB v))), .inl (0, 40, .inl (SVPg (P_SV_SVB v))), .inl (0, 40, .inl (SVFt (P_SV_SVB v))), .inl (0, 40, .inl (SVQu (P_SV_SVB v))), .inl (0, 6, .inl (SVRo (P_SV_SVB v))), .inl (0, 6, .inl (SVPd (P_SV_SVB v))), .inl (2, 6, .inl (SVPs (P_SV_SVB v)))]) rfl ?_
  refine q_callS X [23, 8] [] (AH2 := [.inr (7, [.ref 1, .int (SVJc (P_SV_SVB v)), .ref 8, .ref 9, .ref 10, .ref 11, .ref 12, .ref 13, .ref 14]), .inr (0, [.ref 2, .ref 3, .ref 4, .ref 5, .ref 6, .int (HVCm (P_HV_HVA w3)), .int (HVSw (P_HV_HVA w3)), .ref 7]), .inl (0, 40, .inl (HVPr (P_HV_HVA w3))), .inl (0, 40, .inl (HVLf (P_HV_HVA w3))), .inl (0, 40, .inl (HVRt (P_HV_HVA w3))), .inl (0, 40, .inl (HVUp (P_HV_HVA w3))), .inl (0, 40, .inl (HVRk (P_HV_HVA w3))), .inl (0, 40, .inl (HVPa (P_HV_HVA w3))), .inl (0, 40, .inl (va_cpy (SVOw (P_SV_SVB v)) (SVOw (P_SV_SVA v)) 0 0 40)), .inl (0, 40, .inl (SVPg (P_SV_SVA v))), .inl (0, 40, .inl (SVFt (P_SV_SVA v))), .inl (0, 40, .inl (SVQu (P_SV_SVA v))), .inl (0, 6, .inl (SVRo (P_SV_SVA v))), .inl (0, 6, .inl (SVPd (P_SV_SVA v))), .inl (2, 6, .inl (SVPs (P_SV_SVA v))), .inr (7, [.ref 16, .int (SVJc (P_SV_SVB v)), .ref 23, .ref 24, .ref 25, .ref 26, .ref 27, .ref 28, .ref 29]), .inr (0, [.ref 17, .ref 18, .ref 19, .ref 20, .ref 21, .int (HVCm (P_HV_HVB w3)), .int (HVSw (P_HV_HVB w3)), .ref 22]), .inl (0, 40, .inl (HVPr (P_HV_HVB w3))), .inl (0, 40, .inl (HVLf (P_HV_HVB w3))), .inl (0, 40, .inl (HVRt (P_HV_HVB w3))), .inl (0, 40, .inl (HVUp (P_HV_HVB w3))), .inl (0, 40, .inl (HVRk (P_HV_HVB w3))), .inl (0, 40, .inl (HVPa (P_HV_HVB w3))), .inl (0, 40, .inl (SVOw (P_SV_SVB v))), .inl (0, 40, .inl (SVPg (P_SV_SVB v))), .inl (0, 40, .inl (SVFt (P_SV_SVB v))), .inl (0, 40, .inl (SVQu (P_SV_SVB v))), .inl (0, 6, .inl (SVRo (P_SV_SVB v))), .inl (0, 6, .inl (SVPd (P_SV_SVB v))), .inl (2, 6, .inl (SVPs (P_SV_SVB v)))]) (st2 := []) (c_copyRow 40 (SVOw (P_SV_SVB v)) (SVOw (P_SV_SVA v)) (by decide)) ⟨rfl, rfl⟩ rfl k_X8_copyRow l_X7_52 rfl rfl (fit_of hR (by decide) (by decide) (by decide) (by decide)) (Nat.le_of_ble_eq_true rfl) (by decide) rfl rfl rfl ?_
  refine go_s 4 X (pc2 := 38) (st2 := [.ref 9, .ref 24]) rfl ?_
  refine q_callS X [24, 9] [] (AH2 := [.inr (7, [.ref 1, .int (SVJc (P_SV_SVB v)), .ref 8, .ref 9, .ref 10, .ref 11, .ref 12, .ref 13, .ref 14]), .inr (0, [.ref 2, .ref 3, .ref 4, .ref 5, .ref 6, .int (HVCm (P_HV_HVA w3)), .int (HVSw (P_HV_HVA w3)), .ref 7]), .inl (0, 40, .inl (HVPr (P_HV_HVA w3))), .inl (0, 40, .inl (HVLf (P_HV_HVA w3))), .inl (0, 40, .inl (HVRt (P_HV_HVA w3))), .inl (0, 40, .inl (HVUp (P_HV_HVA w3))), .inl (0, 40, .inl (HVRk (P_HV_HVA w3))), .inl (0, 40, .inl (HVPa (P_HV_HVA w3))), .inl (0, 40, .inl (va_cpy (SVOw (P_SV_SVB v)) (SVOw (P_SV_SVA v)) 0 0 40)), .inl (0, 40, .inl (va_cpy (SVPg (P_SV_SVB v)) (SVPg (P_SV_SVA v)) 0 0 40)), .inl (0, 40, .inl (SVFt (P_SV_SVA v))), .inl (0, 40, .inl (SVQu (P_SV_SVA v))), .inl (0, 6, .inl (SVRo (P_SV_SVA v))), .inl (0, 6, .inl (SVPd (P_SV_SVA v))), .inl (2, 6, .inl (SVPs (P_SV_SVA v))), .inr (7, [.ref 16, .int (SVJc (P_SV_SVB v)), .ref 23, .ref 24, .ref 25, .ref 26, .ref 27, .ref 28, .ref 29]), .inr (0, [.ref 17, .ref 18, .ref 19, .ref 20, .ref 21, .int (HVCm (P_HV_HVB w3)), .int (HVSw (P_HV_HVB w3)), .ref 22]), .inl (0, 40, .inl (HVPr (P_HV_HVB w3))), .inl (0, 40, .inl (HVLf (P_HV_HVB w3))), .inl (0, 40, .inl (HVRt (P_HV_HVB w3))), .inl (0, 40, .inl (HVUp (P_HV_HVB w3))), .inl (0, 40, .inl (HVRk (P_HV_HVB w3))), .inl (0, 40, .inl (HVPa (P_HV_HVB w3))), .inl (0, 40, .inl (SVOw (P_SV_SVB v))), .inl (0, 40, .inl (SVPg (P_SV_SVB v))), .inl (0, 40, .inl (SVFt (P_SV_SVB v))), .inl (0, 40, .inl (SVQu (P_SV_SVB v))), .inl (0, 6, .inl (SVRo (P_SV_SVB v))), .inl (0, 6, .inl (SVPd (P_SV_SVB v))), .inl (2, 6, .inl (SVPs (P_SV_SVB v)))]) (st2 := []) (c_copyRow 40 (SVPg (P_SV_SVB v)) (SVPg (P_SV_SVA v)) (by decide)) ⟨rfl, rfl⟩ rfl k_X8_copyRow l_X7_52 rfl rfl (fit_of hR (by decide) (by decide) (by decide) (by decide)) (Nat.le_of_ble_eq_true rfl) (by decide) rfl rfl rfl ?_
  refine go_s 4 X (pc2 := 49) (st2 := [.ref 10, .ref 25]) rfl ?_
  refine q_callS X [25, 10] [] (AH2 := [.inr (7, [.ref 1, .int (SVJc (P_SV_SVB v)), .ref 8, .ref 9, .ref 10, .ref 11, .ref 12, .ref 13, .ref 14]), .inr (0, [.ref 2, .ref 3, .ref 4, .ref 5, .ref 6, .int (HVCm (P_HV_HVA w3)), .int (HVSw (P_HV_HVA w3)), .ref 7]), .inl (0, 40, .inl (HVPr (P_HV_HVA w3))), .inl (0, 40, .inl (HVLf (P_HV_HVA w3))), .inl (0, 40, .inl (HVRt (P_HV_HVA w3))), .inl (0, 40, .inl (HVUp (P_HV_HVA w3))), .inl (0, 40, .inl (HVRk (P_HV_HVA w3))), .inl (0, 40, .inl (HVPa (P_HV_HVA w3))), .inl (0, 40, .inl (va_cpy (SVOw (P_SV_SVB v)) (SVOw (P_SV_SVA v)) 0 0 40)), .inl (0, 40, .inl (va_cpy (SVPg (P_SV_SVB v)) (SVPg (P_SV_SVA v)) 0 0 40)), .inl (0, 40, .inl (va_cpy (SVFt (P_SV_SVB v)) (SVFt (P_SV_SVA v)) 0 0 40)), .inl (0, 40, .inl (SVQu (P_SV_SVA v))), .inl (0, 6, .inl (SVRo (P_SV_SVA v))), .inl (0, 6, .inl (SVPd (P_SV_SVA v))), .inl (2, 6, .inl (SVPs (P_SV_SVA v))), .inr (7, [.ref 16, .int (SVJc (P_SV_SVB v)), .ref 23, .ref 24, .ref 25, .ref 26, .ref 27, .ref 28, .ref 29]), .inr (0, [.ref 17, .ref 18, .ref 19, .ref 20, .ref 21, .int (HVCm (P_HV_HVB w3)), .int (HVSw (P_HV_HVB w3)), .ref 22]), .inl (0, 40, .inl (HVPr (P_HV_HVB w3))), .inl (0, 40, .inl (HVLf (P_HV_HVB w3))), .inl (0, 40, .inl (HVRt (P_HV_HVB w3))), .inl (0, 40, .inl (HVUp (P_HV_HVB w3))), .inl (0, 40, .inl (HVRk (P_HV_HVB w3))), .inl (0, 40, .inl (HVPa (P_HV_HVB w3))), .inl (0, 40, .inl (SVOw (P_SV_SVB v))), .inl (0, 40, .inl (SVPg (P_SV_SVB v))), .inl (0, 40, .inl (SVFt (P_SV_SVB v))), .inl (0, 40, .inl (SVQu (P_SV_SVB v))), .inl (0, 6, .inl (SVRo (P_SV_SVB v))), .inl (0, 6, .inl (SVPd (P_SV_SVB v))), .inl (2, 6, .inl (SVPs (P_SV_SVB v)))]) (st2 := []) (c_copyRow 40 (SVFt (P_SV_SVB v)) (SVFt (P_SV_SVA v)) (by decide)) ⟨rfl, rfl⟩ rfl k_X8_copyRow l_X7_52 rfl rfl (fit_of hR (by decide) (by decide) (by decide) (by decide)) (Nat.le_of_ble_eq_true rfl) (by decide) rfl rfl rfl ?_
  refine go_s 4 X (pc2 := 60) (st2 := [.ref 11, .ref 26]) rfl ?_
  refine q_callS X [26, 11] [] (AH2 := [.inr (7, [.ref 1, .int (SVJc (P_SV_SVB v)), .ref 8, .ref 9, .ref 10, .ref 11, .ref 12, .ref 13, .ref 14]), .inr (0, [.ref 2, .ref 3, .ref 4, .ref 5, .ref 6, .int (HVCm (P_HV_HVA w3)), .int (HVSw (P_HV_HVA w3)), .ref 7]), .inl (0, 40, .inl (HVPr (P_HV_HVA w3))), .inl (0, 40, .inl (HVLf (P_HV_HVA w3))), .inl (0, 40, .inl (HVRt (P_HV_HVA w3))), .inl (0, 40, .inl (HVUp (P_HV_HVA w3))), .inl (0, 40, .inl (HVRk (P_HV_HVA w3))), .inl (0, 40, .inl (HVPa (P_HV_HVA w3))), .inl (0, 40, .inl (va_cpy (SVOw (P_SV_SVB v)) (SVOw (P_SV_SVA v)) 0 0 40)), .inl (0, 40, .inl (va_cpy (SVPg (P_SV_SVB v)) (SVPg (P_SV_SVA v)) 0 0 40)), .inl (0, 40, .inl (va_cpy (SVFt (P_SV_SVB v)) (SVFt (P_SV_SVA v)) 0 0 40)), .inl (0, 40, .inl (va_cpy (SVQu (P_SV_SVB v)) (SVQu (P_SV_SVA v)) 0 0 40)), .inl (0, 6, .inl (SVRo (P_SV_SVA v))), .inl (0, 6, .inl (SVPd (P_SV_SVA v))), .inl (2, 6, .inl (SVPs (P_SV_SVA v))), .inr (7, [.ref 16, .int (SVJc (P_SV_SVB v)), .ref 23, .ref 24, .ref 25, .ref 26, .ref 27, .ref 28, .ref 29]), .inr (0, [.ref 17, .ref 18, .ref 19, .ref 20, .ref 21, .int (HVCm (P_HV_HVB w3)), .int (HVSw (P_HV_HVB w3)), .ref 22]), .inl (0, 40, .inl (HVPr (P_HV_HVB w3))), .inl (0, 40, .inl (HVLf (P_HV_HVB w3))), .inl (0, 40, .inl (HVRt (P_HV_HVB w3))), .inl (0, 40, .inl (HVUp (P_HV_HVB w3))), .inl (0, 40, .inl (HVRk (P_HV_HVB w3))), .inl (0, 40, .inl (HVPa (P_HV_HVB w3))), .inl (0, 40, .inl (SVOw (P_SV_SVB v))), .inl (0, 40, .inl (SVPg (P_SV_SVB v))), .inl (0, 40, .inl (SVFt (P_SV_SVB v))), .inl (0, 40, .inl (SVQu (P_SV_SVB v))), .inl (0, 6, .inl (SVRo (P_SV_SVB v))), .inl (0, 6, .inl (SVPd (P_SV_SVB v))), .inl (2, 6, .inl (SVPs (P_SV_SVB v)))]) (st2 := []) (c_copyRow 40 (SVQu (P_SV_SVB v)) (SVQu (P_SV_SVA v)) (by decide)) ⟨rfl, rfl⟩ rfl k_X8_copyRow l_X7_52 rfl rfl (fit_of hR (by decide) (by decide) (by decide) (by decide)) (Nat.le_of_ble_eq_true rfl) (by decide) rfl rfl rfl ?_
  refine go_s 4 X (pc2 := 71) (st2 := [.ref 12, .ref 27]) rfl ?_
  refine q_callS X [27, 12] [] (AH2 := [.inr (7, [.ref 1, .int (SVJc (P_SV_SVB v)), .ref 8, .ref 9, .ref 10, .ref 11, .ref 12, .ref 13, .ref 14]), .inr (0, [.ref 2, .ref 3, .ref 4, .ref 5, .ref 6, .int (HVCm (P_HV_HVA w3)), .int (HVSw (P_HV_HVA w3)), .ref 7]), .inl (0, 40, .inl (HVPr (P_HV_HVA w3))), .inl (0, 40, .inl (HVLf (P_HV_HVA w3))), .inl (0, 40, .inl (HVRt (P_HV_HVA w3))), .inl (0, 40, .inl (HVUp (P_HV_HVA w3))), .inl (0, 40, .inl (HVRk (P_HV_HVA w3))), .inl (0, 40, .inl (HVPa (P_HV_HVA w3))), .inl (0, 40, .inl (va_cpy (SVOw (P_SV_SVB v)) (SVOw (P_SV_SVA v)) 0 0 40)), .inl (0, 40, .inl (va_cpy (SVPg (P_SV_SVB v)) (SVPg (P_SV_SVA v)) 0 0 40)), .inl (0, 40, .inl (va_cpy (SVFt (P_SV_SVB v)) (SVFt (P_SV_SVA v)) 0 0 40)), .inl (0, 40, .inl (va_cpy (SVQu (P_SV_SVB v)) (SVQu (P_SV_SVA v)) 0 0 40)), .inl (0, 6, .inl (va_cpy (SVRo (P_SV_SVB v)) (SVRo (P_SV_SVA v)) 0 0 6)), .inl (0, 6, .inl (SVPd (P_SV_SVA v))), .inl (2, 6, .inl (SVPs (P_SV_SVA v))), .inr (7, [.ref 16, .int (SVJc (P_SV_SVB v)), .ref 23, .ref 24, .ref 25, .ref 26, .ref 27, .ref 28, .ref 29]), .inr (0, [.ref 17, .ref 18, .ref 19, .ref 20, .ref 21, .int (HVCm (P_HV_HVB w3)), .int (HVSw (P_HV_HVB w3)), .ref 22]), .inl (0, 40, .inl (HVPr (P_HV_HVB w3))), .inl (0, 40, .inl (HVLf (P_HV_HVB w3))), .inl (0, 40, .inl (HVRt (P_HV_HVB w3))), .inl (0, 40, .inl (HVUp (P_HV_HVB w3))), .inl (0, 40, .inl (HVRk (P_HV_HVB w3))), .inl (0, 40, .inl (HVPa (P_HV_HVB w3))), .inl (0, 40, .inl (SVOw (P_SV_SVB v))), .inl (0, 40, .inl (SVPg (P_SV_SVB v))), .inl (0, 40, .inl (SVFt (P_SV_SVB v))), .inl (0, 40, .inl (SVQu (P_SV_SVB v))), .inl (0, 6, .inl (SVRo (P_SV_SVB v))), .inl (0, 6, .inl (SVPd (P_SV_SVB v))), .inl (2, 6, .inl (SVPs (P_SV_SVB v)))]) (st2 := []) (c_copyRow 6 (SVRo (P_SV_SVB v)) (SVRo (P_SV_SVA v)) (by decide)) ⟨rfl, rfl⟩ rfl k_X8_copyRow l_X7_52 rfl rfl (fit_of hR (by decide) (by decide) (by decide) (by decide)) (Nat.le_of_ble_eq_true rfl) (by decide) rfl rfl rfl ?_
  refine go_s 4 X (pc2 := 82) (st2 := [.ref 13, .ref 28]) rfl ?_
  refine q_callS X [28, 13] [] (AH2 := [.inr (7, [.ref 1, .int (SVJc (P_SV_SVB v)), .ref 8, .ref 9, .ref 10, .ref 11, .ref 12, .ref 13, .ref 14]), .inr (0, [.ref 2, .ref 3, .ref 4, .ref 5, .ref 6, .int (HVCm (P_HV_HVA w3)), .int (HVSw (P_HV_HVA w3)), .ref 7]), .inl (0, 40, .inl (HVPr (P_HV_HVA w3))), .inl (0, 40, .inl (HVLf (P_HV_HVA w3))), .inl (0, 40, .inl (HVRt (P_HV_HVA w3))), .inl (0, 40, .inl (HVUp (P_HV_HVA w3))), .inl (0, 40, .inl (HVRk (P_HV_HVA w3))), .inl (0, 40, .inl (HVPa (P_HV_HVA w3))), .inl (0, 40, .inl (va_cpy (SVOw (P_SV_SVB v)) (SVOw (P_SV_SVA v)) 0 0 40)), .inl (0, 40, .inl (va_cpy (SVPg (P_SV_SVB v)) (SVPg (P_SV_SVA v)) 0 0 40)), .inl (0, 40, .inl (va_cpy (SVFt (P_SV_SVB v)) (SVFt (P_SV_SVA v)) 0 0 40)), .inl (0, 40, .inl (va_cpy (SVQu (P_SV_SVB v)) (SVQu (P_SV_SVA v)) 0 0 40)), .inl (0, 6, .inl (va_cpy (SVRo (P_SV_SVB v)) (SVRo (P_SV_SVA v)) 0 0 6)), .inl (0, 6, .inl (va_cpy (SVPd (P_SV_SVB v)) (SVPd (P_SV_SVA v)) 0 0 6)), .inl (2, 6, .inl (SVPs (P_SV_SVA v))), .inr (7, [.ref 16, .int (SVJc (P_SV_SVB v)), .ref 23, .ref 24, .ref 25, .ref 26, .ref 27, .ref 28, .ref 29]), .inr (0, [.ref 17, .ref 18, .ref 19, .ref 20, .ref 21, .int (HVCm (P_HV_HVB w3)), .int (HVSw (P_HV_HVB w3)), .ref 22]), .inl (0, 40, .inl (HVPr (P_HV_HVB w3))), .inl (0, 40, .inl (HVLf (P_HV_HVB w3))), .inl (0, 40, .inl (HVRt (P_HV_HVB w3))), .inl (0, 40, .inl (HVUp (P_HV_HVB w3))), .inl (0, 40, .inl (HVRk (P_HV_HVB w3))), .inl (0, 40, .inl (HVPa (P_HV_HVB w3))), .inl (0, 40, .inl (SVOw (P_SV_SVB v))), .inl (0, 40, .inl (SVPg (P_SV_SVB v))), .inl (0, 40, .inl (SVFt (P_SV_SVB v))), .inl (0, 40, .inl (SVQu (P_SV_SVB v))), .inl (0, 6, .inl (SVRo (P_SV_SVB v))), .inl (0, 6, .inl (SVPd (P_SV_SVB v))), .inl (2, 6, .inl (SVPs (P_SV_SVB v)))]) (st2 := []) (c_copyRow 6 (SVPd (P_SV_SVB v)) (SVPd (P_SV_SVA v)) (by decide)) ⟨rfl, rfl⟩ rfl k_X8_copyRow l_X7_52 rfl rfl (fit_of hR (by decide) (by decide) (by decide) (by decide)) (Nat.le_of_ble_eq_true rfl) (by decide) rfl rfl rfl ?_
  refine go_l 2 X (pc2 := 87) (ls2 := [some (.ref 0), some (.ref 15), some (.int 0)]) (st2 := []) rfl ?_
  exact AW.eq (a_X7_copyFrom_h87 X hR FU _ _ _ _ h) rfl rfl rfl rfl
set_option maxHeartbeats 6000000 in
set_option maxRecDepth 20000 in
theorem c_X2_add (v : NV) (a : Int64) (r : Unit) (w : NV) (h : f_X2_add v a = some (r, w)) : Sem z_X2_add 0 0 0 [.ref 0, .long a] (WN v) (PST (.inl none) (WN w)) := by
  refine Sem.of zo_X2_add (by decide +kernel) (Nat.le_of_ble_eq_true rfl) fun κ X hE hR hN => ?_
  unfold f_X2_add at h
  refine AW.eq (pc' := 0) (ls' := [some (.ref 0), some (.long a), none]) (st' := []) (AH' := [.inr (2, [.ref 1, .int (NVCt v)]), .inl (1, 8, .inr (.inl (NVPk v)))]) ?_ rfl rfl rfl rfl
  refine go_s 2 X (pc2 := 4) (st2 := [.int (NVCt v)]) rfl ?_
  refine r_if_lt X 36 rfl rfl (fun c1 => ?_) (fun c1 => ?_)
  · rw [if_pos c1] at h
    cases h
    exact r_vret X rfl rfl ⟨rfl, rfl⟩ (by decide) (by decide)
  · rw [if_neg c1] at h
    refine go_s 3 X (pc2 := 13) (st2 := [.int 8, .int (NVCt v)]) rfl ?_
    refine r_icmp_ge X 36 rfl rfl (fun c2 => ?_) (fun c2 => ?_)
    · rw [if_pos c2] at h
      cases h
      exact r_vret X rfl rfl ⟨rfl, rfl⟩ (by decide) (by decide)
    · rw [if_neg c2] at h
      refine go_s 5 X (pc2 := 25) (st2 := [.long a, .int (NVCt v), .ref 1]) rfl ?_
      by_cases b3 : oob (NVCt v) 8
      · rw [if_pos b3] at h; cases h
      rw [if_neg b3] at h
      refine r_last X rfl rfl b3 ?_
      refine go 6 X (pc2 := 36) (ls2 := [some (.ref 0), some (.long a), none]) (st2 := []) (AH2 := [.inr (2, [.ref 1, .int ((NVCt v) + 1)]), .inl (1, 8, .inr (.inl (vp_updL (NVPk v) (Int32.toNatClampNeg (NVCt v)) a)))]) rfl ?_
      cases h
      exact r_vret X rfl rfl ⟨rfl, rfl⟩ (by decide) (by decide)
set_option maxHeartbeats 6000000 in
set_option maxRecDepth 20000 in
theorem a_X2_find_h2 {κ : KX} (X : CX κ z_X2_find) (hR : κR κ = rmM 0 0 0) : ∀ (n : Nat) (l1 : Int64) (l3 : Int32) (v : NV) (r : Int32) (h : f_X2_find_h2 n l1 l3 v = some r), AW κ (QM κ (PST (.inl (some (.int r))) (WN v)) 0 0) 2 [some (.ref 0), some (.long l1), none, some (.int l3)] [] (WN v) 0 0 := by
  intro n
  induction n with
  | zero =>
    intro l1 l3 v r h
    unfold f_X2_find_h2 at h
    cases h
  | succ n ih =>
    intro l1 l3 v r h
    unfold f_X2_find_h2 at h
    refine AW.eq (pc' := 2) (ls' := [some (.ref 0), some (.long l1), none, some (.int l3)]) (st' := []) (AH' := [.inr (2, [.ref 1, .int (NVCt v)]), .inl (1, 8, .inr (.inl (NVPk v)))]) ?_ rfl rfl rfl rfl
    refine go_s 3 X (pc2 := 7) (st2 := [.int (NVCt v), .int l3]) rfl ?_
    refine r_icmp_ge X 35 rfl rfl (fun c1 => ?_) (fun c1 => ?_)
    · rw [if_pos c1] at h
      refine go_s 1 X (pc2 := 36) (st2 := [.int (-1)]) rfl ?_
      cases h
      exact r_iret X rfl rfl ⟨rfl, rfl⟩ (by decide) (by decide)
    · rw [if_neg c1] at h
      refine go_s 2 X (pc2 := 13) (st2 := [.int 8, .int l3]) rfl ?_
      refine r_icmp_ge X 35 rfl rfl (fun c2 => ?_) (fun c2 => ?_)
      · rw [if_pos c2] at h
        refine go_s 1 X (pc2 := 36) (st2 := [.int (-1)]) rfl ?_
        cases h
        exact r_iret X rfl rfl ⟨rfl, rfl⟩ (by decide) (by decide)
      · rw [if_neg c2] at h
        refine go_s 3 X (pc2 := 21) (st2 := [.int l3, .ref 1]) rfl ?_
        by_cases b3 : oob l3 8
        · rw [if_pos b3] at h; cases h
        rw [if_neg b3] at h
        refine r_lald X rfl rfl b3 ?_
        refine go_s 2 X (pc2 := 24) (st2 := [.int (lg_cmp ((NVPk v) (Int32.toNatClampNeg l3)) l1)]) rfl ?_
        refine r_if_ne X 29 rfl rfl (fun c4 => ?_) (fun c4 => ?_)
        · rw [if_neg c4] at h
          refine go_l 2 X (pc2 := 2) (ls2 := [some (.ref 0), some (.long l1), none, some (.int (l3 + 1))]) (st2 := []) rfl ?_
          exact AW.eq (ih _ _ _ _ h) rfl rfl rfl rfl
        · rw [if_pos c4] at h
          refine go_s 1 X (pc2 := 28) (st2 := [.int l3]) rfl ?_
          cases h
          exact r_iret X rfl rfl ⟨rfl, rfl⟩ (by decide) (by decide)
set_option maxHeartbeats 6000000 in
set_option maxRecDepth 20000 in
theorem c_X2_find (v : NV) (a : Int64) (r : Int32) (h : f_X2_find v a = some r) : Sem z_X2_find 0 0 0 [.ref 0, .long a] (WN v) (PST (.inl (some (.int r))) (WN v)) := by
  refine Sem.of zo_X2_find (by decide +kernel) (Nat.le_of_ble_eq_true rfl) fun κ X hE hR hN => ?_
  unfold f_X2_find at h
  refine AW.eq (pc' := 0) (ls' := [some (.ref 0), some (.long a), none, none]) (st' := []) (AH' := [.inr (2, [.ref 1, .int (NVCt v)]), .inl (1, 8, .inr (.inl (NVPk v)))]) ?_ rfl rfl rfl rfl
  refine go_l 2 X (pc2 := 2) (ls2 := [some (.ref 0), some (.long a), none, some (.int 0)]) (st2 := []) rfl ?_
  exact AW.eq (a_X2_find_h2 X hR FU _ _ _ _ h) rfl rfl rfl rfl
set_option maxHeartbeats 6000000 in
set_option maxRecDepth 20000 in
theorem c_X4_fail (v : RV) (a : Int32) (r : Unit) (w : RV) (h : f_X4_fail v a = some (r, w)) : Sem z_X4_fail 0 0 0 [.ref 0, .int a] (WR v) (PST (.inl none) (WR w)) := by
  refine Sem.of zo_X4_fail (by decide +kernel) (Nat.le_of_ble_eq_true rfl) fun κ X hE hR hN => ?_
  unfold f_X4_fail at h
  refine AW.eq (pc' := 0) (ls' := [some (.ref 0), some (.int a)]) (st' := []) (AH' := [.inr (4, [.ref 1, .int (RVLn v), .int (RVEn v), .int (RVNx v), .int (RVTk v), .int (RVAt v), .long (RVWd v), .int (RVVa v), .int (RVEk v), .int (RVEa v)]), .inl (0, 600, .inl (RVTx v))]) ?_ rfl rfl rfl rfl
  refine go_s 2 X (pc2 := 4) (st2 := [.int (RVEk v)]) rfl ?_
  refine r_if_ne X 20 rfl rfl (fun c1 => ?_) (fun c1 => ?_)
  · rw [if_neg c1] at h
    cases h
    exact r_vret X rfl rfl ⟨rfl, rfl⟩ (by decide) (by decide)
  · rw [if_pos c1] at h
    refine go 7 X (pc2 := 20) (ls2 := [some (.ref 0), some (.int a)]) (st2 := []) (AH2 := [.inr (4, [.ref 1, .int (RVLn v), .int (RVEn v), .int (RVNx v), .int (RVTk v), .int (RVAt v), .long (RVWd v), .int (RVVa v), .int a, .int (RVAt v)]), .inl (0, 600, .inl (RVTx v))]) rfl ?_
    cases h
    exact r_vret X rfl rfl ⟨rfl, rfl⟩ (by decide) (by decide)
set_option maxHeartbeats 6000000 in
set_option maxRecDepth 20000 in
theorem c_X4_isValid (v : RV) (r : Int32) (h : f_X4_isValid v = some r) : Sem z_X4_isValid 0 0 0 [.ref 0] (WR v) (PST (.inl (some (.int r))) (WR v)) := by
  refine Sem.of zo_X4_isValid (by decide +kernel) (Nat.le_of_ble_eq_true rfl) fun κ X hE hR hN => ?_
  unfold f_X4_isValid at h
  refine AW.eq (pc' := 0) (ls' := [some (.ref 0)]) (st' := []) (AH' := [.inr (4, [.ref 1, .int (RVLn v), .int (RVEn v), .int (RVNx v), .int (RVTk v), .int (RVAt v), .long (RVWd v), .int (RVVa v), .int (RVEk v), .int (RVEa v)]), .inl (0, 600, .inl (RVTx v))]) ?_ rfl rfl rfl rfl
  refine go_s 2 X (pc2 := 4) (st2 := [.int (RVEk v)]) rfl ?_
  refine r_if_ne X 11 rfl rfl (fun c1 => ?_) (fun c1 => ?_)
  · rw [if_neg c1] at h
    refine go_s 1 X (pc2 := 12) (st2 := [.int 0]) rfl ?_
    cases h
    exact r_zret X (ty := .boolean) rfl rfl rfl ⟨rfl, rfl⟩ (by decide) (by decide)
  · rw [if_pos c1] at h
    refine go_s 2 X (pc2 := 12) (st2 := [.int 1]) rfl ?_
    cases h
    exact r_zret X (ty := .boolean) rfl rfl rfl ⟨rfl, rfl⟩ (by decide) (by decide)
set_option maxHeartbeats 6000000 in
set_option maxRecDepth 20000 in
theorem c_X4_accepts (v : RV) (a : Int32) (b : Int32) (r : Int32) (w : RV) (h : f_X4_accepts v a b = some (r, w)) : Sem z_X4_accepts 1 0 0 [.ref 0, .int a, .int b] (WR v) (PST (.inl (some (.int r))) (WR w)) := by
  refine Sem.of zo_X4_accepts (by decide +kernel) (Nat.le_of_ble_eq_true rfl) fun κ X hE hR hN => ?_
  unfold f_X4_accepts at h
  refine AW.eq (pc' := 0) (ls' := [some (.ref 0), some (.int a), some (.int b)]) (st' := []) (AH' := [.inr (4, [.ref 1, .int (RVLn v), .int (RVEn v), .int (RVNx v), .int (RVTk v), .int (RVAt v), .long (RVWd v), .int (RVVa v), .int (RVEk v), .int (RVEa v)]), .inl (0, 600, .inl (RVTx v))]) ?_ rfl rfl rfl rfl
  refine go_s 3 X (pc2 := 5) (st2 := [.int a, .int (RVTk v)]) rfl ?_
  refine r_icmp_ne X 21 rfl rfl (fun c1 => ?_) (fun c1 => ?_)
  · rw [if_neg c1] at h
    refine go_s 2 X (pc2 := 23) (st2 := [.int 1, .ref 0]) rfl ?_
    obtain ⟨r3, w4, hq2, h⟩ := bnd2_inv h
    refine q_callV X [0, 1] [] (AH2 := [.inr (4, [.ref 1, .int (RVLn w4), .int (RVEn w4), .int (RVNx w4), .int (RVTk w4), .int (RVAt w4), .long (RVWd w4), .int (RVVa w4), .int (RVEk w4), .int (RVEa w4)]), .inl (0, 600, .inl (RVTx w4))]) (st2 := []) (c_X4_fail _ _ _ _ hq2) ⟨rfl, rfl⟩ rfl k_X4_fail l_X4_60 rfl rfl rfl rfl rfl (fit_of hR (by decide) (by decide) (by decide) (by decide)) (Nat.le_of_ble_eq_true rfl) (by decide) rfl rfl rfl ?_
    refine go_s 1 X (pc2 := 27) (st2 := [.ref 0]) rfl ?_
    obtain ⟨r6, hq5, h⟩ := obind_inv h
    refine q_callV X [0, 1] [] (AH2 := [.inr (4, [.ref 1, .int (RVLn w4), .int (RVEn w4), .int (RVNx w4), .int (RVTk w4), .int (RVAt w4), .long (RVWd w4), .int (RVVa w4), .int (RVEk w4), .int (RVEa w4)]), .inl (0, 600, .inl (RVTx w4))]) (st2 := [.int r6]) (c_X4_isValid _ _ hq5) ⟨rfl, rfl⟩ rfl k_X4_isValid l_X4_63 rfl rfl rfl rfl rfl (fit_of hR (by decide) (by decide) (by decide) (by decide)) (Nat.le_of_ble_eq_true rfl) (by decide) rfl rfl rfl ?_
    by_cases b8 : ¬ (r6 = 0 ∨ r6 = 1)
    · rw [if_pos b8] at h; cases h
    rw [if_neg b8] at h
    cases h
    exact r_zret X (ty := .boolean) rfl rfl (nar_b b8) ⟨rfl, rfl⟩ (by decide) (by decide)
  · rw [if_pos c1] at h
    refine go_s 6 X (pc2 := 18) (st2 := [.int b, .int ((RVNx v) - (RVAt v))]) rfl ?_
    refine r_icmp_le X 26 rfl rfl (fun c9 => ?_) (fun c9 => ?_)
    · rw [if_pos c9] at h
      refine go_s 1 X (pc2 := 27) (st2 := [.ref 0]) rfl ?_
      obtain ⟨r11, hq10, h⟩ := obind_inv h
      refine q_callV X [0, 1] [] (AH2 := [.inr (4, [.ref 1, .int (RVLn v), .int (RVEn v), .int (RVNx v), .int (RVTk v), .int (RVAt v), .long (RVWd v), .int (RVVa v), .int (RVEk v), .int (RVEa v)]), .inl (0, 600, .inl (RVTx v))]) (st2 := [.int r11]) (c_X4_isValid _ _ hq10) ⟨rfl, rfl⟩ rfl k_X4_isValid l_X4_63 rfl rfl rfl rfl rfl (fit_of hR (by decide) (by decide) (by decide) (by decide)) (Nat.le_of_ble_eq_true rfl) (by decide) rfl rfl rfl ?_
      by_cases b13 : ¬ (r11 = 0 ∨ r11 = 1)
      · rw [if_pos b13] at h; cases h
      rw [if_neg b13] at h
      cases h
      exact r_zret X (ty := .boolean) rfl rfl (nar_b b13) ⟨rfl, rfl⟩ (by decide) (by decide)
    · rw [if_neg c9] at h
      refine go_s 2 X (pc2 := 23) (st2 := [.int 1, .ref 0]) rfl ?_
      obtain ⟨r15, w16, hq14, h⟩ := bnd2_inv h
      refine q_callV X [0, 1] [] (AH2 := [.inr (4, [.ref 1, .int (RVLn w16), .int (RVEn w16), .int (RVNx w16), .int (RVTk w16), .int (RVAt w16), .long (RVWd w16), .int (RVVa w16), .int (RVEk w16), .int (RVEa w16)]), .inl (0, 600, .inl (RVTx w16))]) (st2 := []) (c_X4_fail _ _ _ _ hq14) ⟨rfl, rfl⟩ rfl k_X4_fail l_X4_60 rfl rfl rfl rfl rfl (fit_of hR (by decide) (by decide) (by decide) (by decide)) (Nat.le_of_ble_eq_true rfl) (by decide) rfl rfl rfl ?_
      refine go_s 1 X (pc2 := 27) (st2 := [.ref 0]) rfl ?_
      obtain ⟨r18, hq17, h⟩ := obind_inv h
      refine q_callV X [0, 1] [] (AH2 := [.inr (4, [.ref 1, .int (RVLn w16), .int (RVEn w16), .int (RVNx w16), .int (RVTk w16), .int (RVAt w16), .long (RVWd w16), .int (RVVa w16), .int (RVEk w16), .int (RVEa w16)]), .inl (0, 600, .inl (RVTx w16))]) (st2 := [.int r18]) (c_X4_isValid _ _ hq17) ⟨rfl, rfl⟩ rfl k_X4_isValid l_X4_63 rfl rfl rfl rfl rfl (fit_of hR (by decide) (by decide) (by decide) (by decide)) (Nat.le_of_ble_eq_true rfl) (by decide) rfl rfl rfl ?_
      by_cases b20 : ¬ (r18 = 0 ∨ r18 = 1)
      · rw [if_pos b20] at h; cases h
      rw [if_neg b20] at h
      cases h
      exact r_zret X (ty := .boolean) rfl rfl (nar_b b20) ⟨rfl, rfl⟩ (by decide) (by decide)
set_option maxHeartbeats 6000000 in
set_option maxRecDepth 20000 in
theorem c_X4_appendByte (v : RV) (a : Int32) (r : Unit) (w : RV) (h : f_X4_appendByte v a = some (r, w)) : Sem z_X4_appendByte 0 0 0 [.ref 0, .int a] (WR v) (PST (.inl none) (WR w)) := by
  refine Sem.of zo_X4_appendByte (by decide +kernel) (Nat.le_of_ble_eq_true rfl) fun κ X hE hR hN => ?_
  unfold f_X4_appendByte at h
  refine AW.eq (pc' := 0) (ls' := [some (.ref 0), some (.int a)]) (st' := []) (AH' := [.inr (4, [.ref 1, .int (RVLn v), .int (RVEn v), .int (RVNx v), .int (RVTk v), .int (RVAt v), .long (RVWd v), .int (RVVa v), .int (RVEk v), .int (RVEa v)]), .inl (0, 600, .inl (RVTx v))]) ?_ rfl rfl rfl rfl
  refine go_s 2 X (pc2 := 4) (st2 := [.int (RVLn v)]) rfl ?_
  refine r_if_lt X 41 rfl rfl (fun c1 => ?_) (fun c1 => ?_)
  · rw [if_pos c1] at h
    cases h
    exact r_vret X rfl rfl ⟨rfl, rfl⟩ (by decide) (by decide)
  · rw [if_neg c1] at h
    refine go_s 3 X (pc2 := 14) (st2 := [.int 600, .int (RVLn v)]) rfl ?_
    refine r_icmp_ge X 41 rfl rfl (fun c2 => ?_) (fun c2 => ?_)
    · rw [if_pos c2] at h
      cases h
      exact r_vret X rfl rfl ⟨rfl, rfl⟩ (by decide) (by decide)
    · rw [if_neg c2] at h
      refine go_s 7 X (pc2 := 30) (st2 := [.int (a &&& 255), .int (RVLn v), .ref 1]) rfl ?_
      by_cases b3 : oob (RVLn v) 600
      · rw [if_pos b3] at h; cases h
      rw [if_neg b3] at h
      refine r_iast X rfl rfl b3 ?_
      refine go 6 X (pc2 := 41) (ls2 := [some (.ref 0), some (.int a)]) (st2 := []) (AH2 := [.inr (4, [.ref 1, .int ((RVLn v) + 1), .int (RVEn v), .int (RVNx v), .int (RVTk v), .int (RVAt v), .long (RVWd v), .int (RVVa v), .int (RVEk v), .int (RVEa v)]), .inl (0, 600, .inl (upd (RVTx v) (Int32.toNatClampNeg (RVLn v)) (a &&& 255)))]) rfl ?_
      cases h
      exact r_vret X rfl rfl ⟨rfl, rfl⟩ (by decide) (by decide)
set_option maxHeartbeats 6000000 in
set_option maxRecDepth 20000 in
theorem c_X4_appendFourBytes (v : RV) (a : Int32) (r : Unit) (w : RV) (h : f_X4_appendFourBytes v a = some (r, w)) : Sem z_X4_appendFourBytes 1 0 0 [.ref 0, .int a] (WR v) (PST (.inl none) (WR w)) := by
  refine Sem.of zo_X4_appendFourBytes (by decide +kernel) (Nat.le_of_ble_eq_true rfl) fun κ X hE hR hN => ?_
  unfold f_X4_appendFourBytes at h
  refine AW.eq (pc' := 0) (ls' := [some (.ref 0), some (.int a)]) (st' := []) (AH' := [.inr (4, [.ref 1, .int (RVLn v), .int (RVEn v), .int (RVNx v), .int (RVTk v), .int (RVAt v), .long (RVWd v), .int (RVVa v), .int (RVEk v), .int (RVEa v)]), .inl (0, 600, .inl (RVTx v))]) ?_ rfl rfl rfl rfl
  refine go_s 4 X (pc2 := 5) (st2 := [.int ((Int32.toUInt32 a >>> (Int32.toUInt32 24 &&& Int32.toUInt32 31)).toInt32), .ref 0]) rfl ?_
  obtain ⟨r2, w3, hq1, h⟩ := bnd2_inv h
  refine q_callV X [0, 1] [] (AH2 := [.inr (4, [.ref 1, .int (RVLn w3), .int (RVEn w3), .int (RVNx w3), .int (RVTk w3), .int (RVAt w3), .long (RVWd w3), .int (RVVa w3), .int (RVEk w3), .int (RVEa w3)]), .inl (0, 600, .inl (RVTx w3))]) (st2 := []) (c_X4_appendByte _ _ _ _ hq1) ⟨rfl, rfl⟩ rfl k_X4_appendByte l_X4_53 rfl rfl rfl rfl rfl (fit_of hR (by decide) (by decide) (by decide) (by decide)) (Nat.le_of_ble_eq_true rfl) (by decide) rfl rfl rfl ?_
  refine go_s 4 X (pc2 := 13) (st2 := [.int ((Int32.toUInt32 a >>> (Int32.toUInt32 16 &&& Int32.toUInt32 31)).toInt32), .ref 0]) rfl ?_
  obtain ⟨r5, w6, hq4, h⟩ := bnd2_inv h
  refine q_callV X [0, 1] [] (AH2 := [.inr (4, [.ref 1, .int (RVLn w6), .int (RVEn w6), .int (RVNx w6), .int (RVTk w6), .int (RVAt w6), .long (RVWd w6), .int (RVVa w6), .int (RVEk w6), .int (RVEa w6)]), .inl (0, 600, .inl (RVTx w6))]) (st2 := []) (c_X4_appendByte _ _ _ _ hq4) ⟨rfl, rfl⟩ rfl k_X4_appendByte l_X4_53 rfl rfl rfl rfl rfl (fit_of hR (by decide) (by decide) (by decide) (by decide)) (Nat.le_of_ble_eq_true rfl) (by decide) rfl rfl rfl ?_
  refine go_s 4 X (pc2 := 21) (st2 := [.int ((Int32.toUInt32 a >>> (Int32.toUInt32 8 &&& Int32.toUInt32 31)).toInt32), .ref 0]) rfl ?_
  obtain ⟨r8, w9, hq7, h⟩ := bnd2_inv h
  refine q_callV X [0, 1] [] (AH2 := [.inr (4, [.ref 1, .int (RVLn w9), .int (RVEn w9), .int (RVNx w9), .int (RVTk w9), .int (RVAt w9), .long (RVWd w9), .int (RVVa w9), .int (RVEk w9), .int (RVEa w9)]), .inl (0, 600, .inl (RVTx w9))]) (st2 := []) (c_X4_appendByte _ _ _ _ hq7) ⟨rfl, rfl⟩ rfl k_X4_appendByte l_X4_53 rfl rfl rfl rfl rfl (fit_of hR (by decide) (by decide) (by decide) (by decide)) (Nat.le_of_ble_eq_true rfl) (by decide) rfl rfl rfl ?_
  refine go_s 2 X (pc2 := 26) (st2 := [.int a, .ref 0]) rfl ?_
  obtain ⟨r11, w12, hq10, h⟩ := bnd2_inv h
  refine q_callV X [0, 1] [] (AH2 := [.inr (4, [.ref 1, .int (RVLn w12), .int (RVEn w12), .int (RVNx w12), .int (RVTk w12), .int (RVAt w12), .long (RVWd w12), .int (RVVa w12), .int (RVEk w12), .int (RVEa w12)]), .inl (0, 600, .inl (RVTx w12))]) (st2 := []) (c_X4_appendByte _ _ _ _ hq10) ⟨rfl, rfl⟩ rfl k_X4_appendByte l_X4_53 rfl rfl rfl rfl rfl (fit_of hR (by decide) (by decide) (by decide) (by decide)) (Nat.le_of_ble_eq_true rfl) (by decide) rfl rfl rfl ?_
  cases h
  exact r_vret X rfl rfl ⟨rfl, rfl⟩ (by decide) (by decide)
set_option maxHeartbeats 6000000 in
set_option maxRecDepth 20000 in
theorem a_X4_appendText_h2 {κ : KX} (X : CX κ z_X4_appendText) (hR : κR κ = rmM 7 0 0) (a : Nat) (hs_a : a < 6) : ∀ (n : Nat) (l2 : Int32) (v : RV) (r : Unit) (w : RV) (h : f_X4_appendText_h2 a n l2 v = some (r, w)), AW κ (QM κ (PST (.inl none) (WR w)) 0 0) 2 [some (.ref 0), some (.ref (SB + a)), some (.int l2)] [] (WR v) 0 0 := by
  intro n
  induction n with
  | zero =>
    intro l2 v r w h
    unfold f_X4_appendText_h2 at h
    cases h
  | succ n ih =>
    intro l2 v r w h
    unfold f_X4_appendText_h2 at h
    refine AW.eq (pc' := 2) (ls' := [some (.ref 0), some (.ref (SB + a)), some (.int l2)]) (st' := []) (AH' := [.inr (4, [.ref 1, .int (RVLn v), .int (RVEn v), .int (RVNx v), .int (RVTk v), .int (RVAt v), .long (RVWd v), .int (RVVa v), .int (RVEk v), .int (RVEa v)]), .inl (0, 600, .inl (RVTx v))]) ?_ rfl rfl rfl rfl
    refine go_s 2 X (pc2 := 4) (st2 := [.ref (SB + a), .int l2]) rfl ?_
    refine r_slen X (i := a) rfl (by decide +kernel) hs_a hR (by decide) (by decide) (by decide) (Nat.le_of_ble_eq_true rfl) ?_
    refine r_icmp_ge X 25 rfl rfl (fun c1 => ?_) (fun c1 => ?_)
    · rw [if_pos c1] at h
      cases h
      exact r_vret X rfl rfl ⟨rfl, rfl⟩ (by decide) (by decide)
    · rw [if_neg c1] at h
      refine go_s 3 X (pc2 := 13) (st2 := [.int l2, .ref (SB + a), .ref 0]) rfl ?_
      by_cases b2 : oob l2 (lenS.getD a 0)
      · rw [if_pos b2] at h; cases h
      rw [if_neg b2] at h
      refine r_schar X (i := a) rfl (by decide +kernel) hs_a hR (by decide) (by decide) (by decide) (Nat.le_of_ble_eq_true rfl) b2 ?_
      obtain ⟨r4, w5, hq3, h⟩ := bnd2_inv h
      refine q_callV X [0, 1] [] (AH2 := [.inr (4, [.ref 1, .int (RVLn w5), .int (RVEn w5), .int (RVNx w5), .int (RVTk w5), .int (RVAt w5), .long (RVWd w5), .int (RVVa w5), .int (RVEk w5), .int (RVEa w5)]), .inl (0, 600, .inl (RVTx w5))]) (st2 := []) (c_X4_appendByte _ _ _ _ hq3) ⟨rfl, rfl⟩ rfl k_X4_appendByte l_X4_53 rfl rfl rfl rfl rfl (fit_of hR (by decide) (by decide) (by decide) (by decide)) (Nat.le_of_ble_eq_true rfl) (by decide) rfl rfl rfl ?_
      refine go_l 2 X (pc2 := 2) (ls2 := [some (.ref 0), some (.ref (SB + a)), some (.int (l2 + 1))]) (st2 := []) rfl ?_
      exact AW.eq (ih _ _ _ _ h) rfl rfl rfl rfl
set_option maxHeartbeats 6000000 in
set_option maxRecDepth 20000 in
theorem c_X4_appendText (v : RV) (a : Nat) (r : Unit) (w : RV) (h : f_X4_appendText v a = some (r, w)) (hs_a : a < 6) : Sem z_X4_appendText 7 0 0 [.ref 0, .ref (SB + a)] (WR v) (PST (.inl none) (WR w)) := by
  refine Sem.of zo_X4_appendText (by decide +kernel) (Nat.le_of_ble_eq_true rfl) fun κ X hE hR hN => ?_
  unfold f_X4_appendText at h
  refine AW.eq (pc' := 0) (ls' := [some (.ref 0), some (.ref (SB + a)), none]) (st' := []) (AH' := [.inr (4, [.ref 1, .int (RVLn v), .int (RVEn v), .int (RVNx v), .int (RVTk v), .int (RVAt v), .long (RVWd v), .int (RVVa v), .int (RVEk v), .int (RVEa v)]), .inl (0, 600, .inl (RVTx v))]) ?_ rfl rfl rfl rfl
  refine go_l 2 X (pc2 := 2) (ls2 := [some (.ref 0), some (.ref (SB + a)), some (.int 0)]) (st2 := []) rfl ?_
  exact AW.eq (a_X4_appendText_h2 X hR a hs_a FU _ _ _ _ h) rfl rfl rfl rfl
set_option maxHeartbeats 6000000 in
set_option maxRecDepth 20000 in
theorem c_X4_begin (v : RV) (r : Unit) (w : RV) (h : f_X4_begin v = some (r, w)) : Sem z_X4_begin 0 0 0 [.ref 0] (WR v) (PST (.inl none) (WR w)) := by
  refine Sem.of zo_X4_begin (by decide +kernel) (Nat.le_of_ble_eq_true rfl) fun κ X hE hR hN => ?_
  unfold f_X4_begin at h
  refine AW.eq (pc' := 0) (ls' := [some (.ref 0)]) (st' := []) (AH' := [.inr (4, [.ref 1, .int (RVLn v), .int (RVEn v), .int (RVNx v), .int (RVTk v), .int (RVAt v), .long (RVWd v), .int (RVVa v), .int (RVEk v), .int (RVEa v)]), .inl (0, 600, .inl (RVTx v))]) ?_ rfl rfl rfl rfl
  refine go 16 X (pc2 := 28) (ls2 := [some (.ref 0)]) (st2 := []) (AH2 := [.inr (4, [.ref 1, .int 0, .int (RVLn v), .int 0, .int (RVTk v), .int (RVAt v), .long (RVWd v), .int (RVVa v), .int 0, .int (-1)]), .inl (0, 600, .inl (RVTx v))]) rfl ?_
  cases h
  exact r_vret X rfl rfl ⟨rfl, rfl⟩ (by decide) (by decide)
set_option maxHeartbeats 6000000 in
set_option maxRecDepth 20000 in
theorem c_X4_isBlank (a : Int32) (r : Int32) (h : f_X4_isBlank a = some r) : Sem z_X4_isBlank 0 0 0 [.int a] [] (PST (.inl (some (.int r))) []) := by
  refine Sem.of zo_X4_isBlank (by decide +kernel) (Nat.le_of_ble_eq_true rfl) fun κ X hE hR hN => ?_
  unfold f_X4_isBlank at h
  refine AW.eq (pc' := 0) (ls' := [some (.int a)]) (st' := []) (AH' := []) ?_ rfl rfl rfl rfl
  refine go_s 2 X (pc2 := 3) (st2 := [.int 32, .int a]) rfl ?_
  refine r_icmp_eq X 12 rfl rfl (fun c1 => ?_) (fun c1 => ?_)
  · rw [if_pos c1] at h
    refine go_s 2 X (pc2 := 17) (st2 := [.int 1]) rfl ?_
    cases h
    exact r_zret X (ty := .boolean) rfl rfl rfl ⟨rfl, rfl⟩ (by decide) (by decide)
  · rw [if_neg c1] at h
    refine go_s 2 X (pc2 := 9) (st2 := [.int 10, .int a]) rfl ?_
    refine r_icmp_ne X 16 rfl rfl (fun c2 => ?_) (fun c2 => ?_)
    · rw [if_neg c2] at h
      refine go_s 1 X (pc2 := 17) (st2 := [.int 0]) rfl ?_
      cases h
      exact r_zret X (ty := .boolean) rfl rfl rfl ⟨rfl, rfl⟩ (by decide) (by decide)
    · rw [if_pos c2] at h
      refine go_s 2 X (pc2 := 17) (st2 := [.int 1]) rfl ?_
      cases h
      exact r_zret X (ty := .boolean) rfl rfl rfl ⟨rfl, rfl⟩ (by decide) (by decide)
set_option maxHeartbeats 6000000 in
set_option maxRecDepth 20000 in
theorem c_X4_isDigit (a : Int32) (r : Int32) (h : f_X4_isDigit a = some r) : Sem z_X4_isDigit 0 0 0 [.int a] [] (PST (.inl (some (.int r))) []) := by
  refine Sem.of zo_X4_isDigit (by decide +kernel) (Nat.le_of_ble_eq_true rfl) fun κ X hE hR hN => ?_
  unfold f_X4_isDigit at h
  refine AW.eq (pc' := 0) (ls' := [some (.int a)]) (st' := []) (AH' := []) ?_ rfl rfl rfl rfl
  refine go_s 2 X (pc2 := 3) (st2 := [.int 48, .int a]) rfl ?_
  refine r_icmp_lt X 16 rfl rfl (fun c1 => ?_) (fun c1 => ?_)
  · rw [if_pos c1] at h
    refine go_s 1 X (pc2 := 17) (st2 := [.int 0]) rfl ?_
    cases h
    exact r_zret X (ty := .boolean) rfl rfl rfl ⟨rfl, rfl⟩ (by decide) (by decide)
  · rw [if_neg c1] at h
    refine go_s 2 X (pc2 := 9) (st2 := [.int 57, .int a]) rfl ?_
    refine r_icmp_gt X 16 rfl rfl (fun c2 => ?_) (fun c2 => ?_)
    · rw [if_pos c2] at h
      refine go_s 1 X (pc2 := 17) (st2 := [.int 0]) rfl ?_
      cases h
      exact r_zret X (ty := .boolean) rfl rfl rfl ⟨rfl, rfl⟩ (by decide) (by decide)
    · rw [if_neg c2] at h
      refine go_s 2 X (pc2 := 17) (st2 := [.int 1]) rfl ?_
      cases h
      exact r_zret X (ty := .boolean) rfl rfl rfl ⟨rfl, rfl⟩ (by decide) (by decide)
set_option maxHeartbeats 6000000 in
set_option maxRecDepth 20000 in
theorem c_X4_isLetter (a : Int32) (r : Int32) (h : f_X4_isLetter a = some r) : Sem z_X4_isLetter 0 0 0 [.int a] [] (PST (.inl (some (.int r))) []) := by
  refine Sem.of zo_X4_isLetter (by decide +kernel) (Nat.le_of_ble_eq_true rfl) fun κ X hE hR hN => ?_
  unfold f_X4_isLetter at h
  refine AW.eq (pc' := 0) (ls' := [some (.int a)]) (st' := []) (AH' := []) ?_ rfl rfl rfl rfl
  refine go_s 2 X (pc2 := 3) (st2 := [.int 97, .int a]) rfl ?_
  refine r_icmp_lt X 16 rfl rfl (fun c1 => ?_) (fun c1 => ?_)
  · rw [if_pos c1] at h
    refine go_s 1 X (pc2 := 17) (st2 := [.int 0]) rfl ?_
    cases h
    exact r_zret X (ty := .boolean) rfl rfl rfl ⟨rfl, rfl⟩ (by decide) (by decide)
  · rw [if_neg c1] at h
    refine go_s 2 X (pc2 := 9) (st2 := [.int 122, .int a]) rfl ?_
    refine r_icmp_gt X 16 rfl rfl (fun c2 => ?_) (fun c2 => ?_)
    · rw [if_pos c2] at h
      refine go_s 1 X (pc2 := 17) (st2 := [.int 0]) rfl ?_
      cases h
      exact r_zret X (ty := .boolean) rfl rfl rfl ⟨rfl, rfl⟩ (by decide) (by decide)
    · rw [if_neg c2] at h
      refine go_s 2 X (pc2 := 17) (st2 := [.int 1]) rfl ?_
      cases h
      exact r_zret X (ty := .boolean) rfl rfl rfl ⟨rfl, rfl⟩ (by decide) (by decide)
set_option maxHeartbeats 6000000 in
set_option maxRecDepth 20000 in
theorem a_X4_packed_h4 {κ : KX} (X : CX κ z_X4_packed) (hR : κR κ = rmM 7 0 0) (a : Nat) (hs_a : a < 6) : ∀ (n : Nat) (l1 : Int64) (l3 : Int32) (r : Int64) (h : f_X4_packed_h4 a n l1 l3 = some r), AW κ (QM κ (PST (.inl (some (.long r))) []) 0 0) 4 [some (.ref (SB + a)), some (.long l1), none, some (.int l3)] [] [] 0 0 := by
  intro n
  induction n with
  | zero =>
    intro l1 l3 r h
    unfold f_X4_packed_h4 at h
    cases h
  | succ n ih =>
    intro l1 l3 r h
    unfold f_X4_packed_h4 at h
    refine AW.eq (pc' := 4) (ls' := [some (.ref (SB + a)), some (.long l1), none, some (.int l3)]) (st' := []) (AH' := []) ?_ rfl rfl rfl rfl
    refine go_s 2 X (pc2 := 6) (st2 := [.ref (SB + a), .int l3]) rfl ?_
    refine r_slen X (i := a) rfl (by decide +kernel) hs_a hR (by decide) (by decide) (by decide) (Nat.le_of_ble_eq_true rfl) ?_
    refine r_icmp_ge X 38 rfl rfl (fun c1 => ?_) (fun c1 => ?_)
    · rw [if_pos c1] at h
      refine go_s 1 X (pc2 := 39) (st2 := [.long l1]) rfl ?_
      cases h
      exact r_lret X rfl rfl ⟨rfl, rfl⟩ (by decide) (by decide)
    · rw [if_neg c1] at h
      refine go_s 2 X (pc2 := 15) (st2 := [.int 8, .int l3]) rfl ?_
      refine r_icmp_ge X 38 rfl rfl (fun c2 => ?_) (fun c2 => ?_)
      · rw [if_pos c2] at h
        refine go_s 1 X (pc2 := 39) (st2 := [.long l1]) rfl ?_
        cases h
        exact r_lret X rfl rfl ⟨rfl, rfl⟩ (by decide) (by decide)
      · rw [if_neg c2] at h
        refine go_s 3 X (pc2 := 21) (st2 := [.int l3, .ref (SB + a), .long l1]) rfl ?_
        by_cases b3 : oob l3 (lenS.getD a 0)
        · rw [if_pos b3] at h; cases h
        rw [if_neg b3] at h
        refine r_schar X (i := a) rfl (by decide +kernel) hs_a hR (by decide) (by decide) (by decide) (Nat.le_of_ble_eq_true rfl) b3 ?_
        refine go_l 9 X (pc2 := 4) (ls2 := [some (.ref (SB + a)), some (.long (l1 ||| ((Int32.toInt64 (schar a (Int32.toNatClampNeg l3))) <<< (Int32.toInt64 (8 * l3) &&& 63)))), none, some (.int (l3 + 1))]) (st2 := []) rfl ?_
        exact AW.eq (ih _ _ _ h) rfl rfl rfl rfl
set_option maxHeartbeats 6000000 in
set_option maxRecDepth 20000 in
theorem c_X4_packed (a : Nat) (r : Int64) (h : f_X4_packed a = some r) (hs_a : a < 6) : Sem z_X4_packed 7 0 0 [.ref (SB + a)] [] (PST (.inl (some (.long r))) []) := by
  refine Sem.of zo_X4_packed (by decide +kernel) (Nat.le_of_ble_eq_true rfl) fun κ X hE hR hN => ?_
  unfold f_X4_packed at h
  refine AW.eq (pc' := 0) (ls' := [some (.ref (SB + a)), none, none, none]) (st' := []) (AH' := []) ?_ rfl rfl rfl rfl
  refine go_l 4 X (pc2 := 4) (ls2 := [some (.ref (SB + a)), some (.long 0), none, some (.int 0)]) (st2 := []) rfl ?_
  exact AW.eq (a_X4_packed_h4 X hR a hs_a FU _ _ _ h) rfl rfl rfl rfl
set_option maxHeartbeats 6000000 in
set_option maxRecDepth 20000 in
theorem c_X4_isWord (v : RV) (a : Nat) (r : Int32) (h : f_X4_isWord v a = some r) (hs_a : a < 6) : Sem z_X4_isWord 8 0 0 [.ref 0, .ref (SB + a)] (WR v) (PST (.inl (some (.int r))) (WR v)) := by
  refine Sem.of zo_X4_isWord (by decide +kernel) (Nat.le_of_ble_eq_true rfl) fun κ X hE hR hN => ?_
  unfold f_X4_isWord at h
  refine AW.eq (pc' := 0) (ls' := [some (.ref 0), some (.ref (SB + a))]) (st' := []) (AH' := [.inr (4, [.ref 1, .int (RVLn v), .int (RVEn v), .int (RVNx v), .int (RVTk v), .int (RVAt v), .long (RVWd v), .int (RVVa v), .int (RVEk v), .int (RVEa v)]), .inl (0, 600, .inl (RVTx v))]) ?_ rfl rfl rfl rfl
  refine go_s 3 X (pc2 := 5) (st2 := [.int 1, .int (RVTk v)]) rfl ?_
  refine r_icmp_ne X 24 rfl rfl (fun c1 => ?_) (fun c1 => ?_)
  · rw [if_neg c1] at h
    refine go_s 1 X (pc2 := 25) (st2 := [.int 0]) rfl ?_
    cases h
    exact r_zret X (ty := .boolean) rfl rfl rfl ⟨rfl, rfl⟩ (by decide) (by decide)
  · rw [if_pos c1] at h
    refine go_s 3 X (pc2 := 13) (st2 := [.ref (SB + a), .long (RVWd v)]) rfl ?_
    obtain ⟨r3, hq2, h⟩ := obind_inv h
    refine q_callS X [] [] (AH2 := [.inr (4, [.ref 1, .int (RVLn v), .int (RVEn v), .int (RVNx v), .int (RVTk v), .int (RVAt v), .long (RVWd v), .int (RVVa v), .int (RVEk v), .int (RVEa v)]), .inl (0, 600, .inl (RVTx v))]) (st2 := [.long r3, .long (RVWd v)]) (c_X4_packed _ _ hq2 hs_a) ⟨rfl, rfl⟩ rfl k_X4_packed l_X4_67 rfl (by simp only [List.map_cons, List.map_nil, cvV, List.reverse_cons, List.reverse_nil, List.nil_append, List.cons_append, iof_k hs_a]) (fit_of hR (by decide) (by decide) (by decide) (by decide)) (Nat.le_of_ble_eq_true rfl) (by decide) rfl rfl rfl ?_
    refine go_s 1 X (pc2 := 17) (st2 := [.int (lg_cmp (RVWd v) r3)]) rfl ?_
    refine r_if_ne X 24 rfl rfl (fun c5 => ?_) (fun c5 => ?_)
    · rw [if_neg c5] at h
      refine go_s 1 X (pc2 := 25) (st2 := [.int 0]) rfl ?_
      cases h
      exact r_zret X (ty := .boolean) rfl rfl rfl ⟨rfl, rfl⟩ (by decide) (by decide)
    · rw [if_pos c5] at h
      refine go_s 2 X (pc2 := 25) (st2 := [.int 1]) rfl ?_
      cases h
      exact r_zret X (ty := .boolean) rfl rfl rfl ⟨rfl, rfl⟩ (by decide) (by decide)
set_option maxHeartbeats 6000000 in
set_option maxRecDepth 20000 in
theorem c_X4_nextByte (v : RV) (r : Int32) (h : f_X4_nextByte v = some r) : Sem z_X4_nextByte 0 0 0 [.ref 0] (WR v) (PST (.inl (some (.int r))) (WR v)) := by
  refine Sem.of zo_X4_nextByte (by decide +kernel) (Nat.le_of_ble_eq_true rfl) fun κ X hE hR hN => ?_
  unfold f_X4_nextByte at h
  refine AW.eq (pc' := 0) (ls' := [some (.ref 0)]) (st' := []) (AH' := [.inr (4, [.ref 1, .int (RVLn v), .int (RVEn v), .int (RVNx v), .int (RVTk v), .int (RVAt v), .long (RVWd v), .int (RVVa v), .int (RVEk v), .int (RVEa v)]), .inl (0, 600, .inl (RVTx v))]) ?_ rfl rfl rfl rfl
  refine go_s 2 X (pc2 := 4) (st2 := [.int (RVNx v)]) rfl ?_
  refine r_if_lt X 40 rfl rfl (fun c1 => ?_) (fun c1 => ?_)
  · rw [if_pos c1] at h
    refine go_s 1 X (pc2 := 41) (st2 := [.int (-1)]) rfl ?_
    cases h
    exact r_iret X rfl rfl ⟨rfl, rfl⟩ (by decide) (by decide)
  · rw [if_neg c1] at h
    refine go_s 4 X (pc2 := 15) (st2 := [.int (RVEn v), .int (RVNx v)]) rfl ?_
    refine r_icmp_ge X 40 rfl rfl (fun c2 => ?_) (fun c2 => ?_)
    · rw [if_pos c2] at h
      refine go_s 1 X (pc2 := 41) (st2 := [.int (-1)]) rfl ?_
      cases h
      exact r_iret X rfl rfl ⟨rfl, rfl⟩ (by decide) (by decide)
    · rw [if_neg c2] at h
      refine go_s 3 X (pc2 := 25) (st2 := [.int 600, .int (RVNx v)]) rfl ?_
      refine r_icmp_ge X 40 rfl rfl (fun c3 => ?_) (fun c3 => ?_)
      · rw [if_pos c3] at h
        refine go_s 1 X (pc2 := 41) (st2 := [.int (-1)]) rfl ?_
        cases h
        exact r_iret X rfl rfl ⟨rfl, rfl⟩ (by decide) (by decide)
      · rw [if_neg c3] at h
        refine go_s 4 X (pc2 := 36) (st2 := [.int (RVNx v), .ref 1]) rfl ?_
        by_cases b4 : oob (RVNx v) 600
        · rw [if_pos b4] at h; cases h
        rw [if_neg b4] at h
        refine r_iald X rfl rfl b4 ?_
        refine go_s 1 X (pc2 := 41) (st2 := [.int ((RVTx v) (Int32.toNatClampNeg (RVNx v)))]) rfl ?_
        cases h
        exact r_iret X rfl rfl ⟨rfl, rfl⟩ (by decide) (by decide)
set_option maxHeartbeats 6000000 in
set_option maxRecDepth 20000 in
theorem a_X4_readDigits_h5 {κ : KX} (X : CX κ z_X4_readDigits) (hR : κR κ = rmM 1 0 0) : ∀ (n : Nat) (v : RV) (r : Unit) (w : RV) (h : f_X4_readDigits_h5 n v = some (r, w)), AW κ (QM κ (PST (.inl none) (WR w)) 0 0) 5 [some (.ref 0)] [] (WR v) 0 0 := by
  intro n
  induction n with
  | zero =>
    intro v r w h
    unfold f_X4_readDigits_h5 at h
    cases h
  | succ n ih =>
    intro v r w h
    unfold f_X4_readDigits_h5 at h
    refine AW.eq (pc' := 5) (ls' := [some (.ref 0)]) (st' := []) (AH' := [.inr (4, [.ref 1, .int (RVLn v), .int (RVEn v), .int (RVNx v), .int (RVTk v), .int (RVAt v), .long (RVWd v), .int (RVVa v), .int (RVEk v), .int (RVEa v)]), .inl (0, 600, .inl (RVTx v))]) ?_ rfl rfl rfl rfl
    refine go_s 4 X (pc2 := 13) (st2 := [.int (RVEn v), .int (RVNx v)]) rfl ?_
    refine r_icmp_ge X 71 rfl rfl (fun c1 => ?_) (fun c1 => ?_)
    · rw [if_pos c1] at h
      refine go 3 X (pc2 := 76) (ls2 := [some (.ref 0)]) (st2 := []) (AH2 := [.inr (4, [.ref 1, .int (RVLn v), .int (RVEn v), .int (RVNx v), .int 2, .int (RVAt v), .long (RVWd v), .int (RVVa v), .int (RVEk v), .int (RVEa v)]), .inl (0, 600, .inl (RVTx v))]) rfl ?_
      cases h
      exact r_vret X rfl rfl ⟨rfl, rfl⟩ (by decide) (by decide)
    · rw [if_neg c1] at h
      refine go_s 1 X (pc2 := 17) (st2 := [.ref 0]) rfl ?_
      obtain ⟨r3, hq2, h⟩ := obind_inv h
      refine q_callV X [0, 1] [] (AH2 := [.inr (4, [.ref 1, .int (RVLn v), .int (RVEn v), .int (RVNx v), .int (RVTk v), .int (RVAt v), .long (RVWd v), .int (RVVa v), .int (RVEk v), .int (RVEa v)]), .inl (0, 600, .inl (RVTx v))]) (st2 := [.int r3]) (c_X4_nextByte _ _ hq2) ⟨rfl, rfl⟩ rfl k_X4_nextByte l_X4_81 rfl rfl rfl rfl rfl (fit_of hR (by decide) (by decide) (by decide) (by decide)) (Nat.le_of_ble_eq_true rfl) (by decide) rfl rfl rfl ?_
      obtain ⟨r6, hq5, h⟩ := obind_inv h
      refine q_callS X [] [] (AH2 := [.inr (4, [.ref 1, .int (RVLn v), .int (RVEn v), .int (RVNx v), .int (RVTk v), .int (RVAt v), .long (RVWd v), .int (RVVa v), .int (RVEk v), .int (RVEa v)]), .inl (0, 600, .inl (RVTx v))]) (st2 := [.int r6]) (c_X4_isDigit _ _ hq5) ⟨rfl, rfl⟩ rfl k_X4_isDigit l_X4_94 rfl rfl (fit_of hR (by decide) (by decide) (by decide) (by decide)) (Nat.le_of_ble_eq_true rfl) (by decide) rfl rfl rfl ?_
      refine r_if_eq X 71 rfl rfl (fun c8 => ?_) (fun c8 => ?_)
      · rw [if_pos c8] at h
        refine go 3 X (pc2 := 76) (ls2 := [some (.ref 0)]) (st2 := []) (AH2 := [.inr (4, [.ref 1, .int (RVLn v), .int (RVEn v), .int (RVNx v), .int 2, .int (RVAt v), .long (RVWd v), .int (RVVa v), .int (RVEk v), .int (RVEa v)]), .inl (0, 600, .inl (RVTx v))]) rfl ?_
        cases h
        exact r_vret X rfl rfl ⟨rfl, rfl⟩ (by decide) (by decide)
      · rw [if_neg c8] at h
        refine go_s 6 X (pc2 := 36) (st2 := [.int 3, .int ((RVNx v) - (RVAt v))]) rfl ?_
        refine r_icmp_ge X 58 rfl rfl (fun c9 => ?_) (fun c9 => ?_)
        · rw [if_pos c9] at h
          refine go 7 X (pc2 := 5) (ls2 := [some (.ref 0)]) (st2 := []) (AH2 := [.inr (4, [.ref 1, .int (RVLn v), .int (RVEn v), .int ((RVNx v) + 1), .int (RVTk v), .int (RVAt v), .long (RVWd v), .int (RVVa v), .int (RVEk v), .int (RVEa v)]), .inl (0, 600, .inl (RVTx v))]) rfl ?_
          exact AW.eq (ih _ _ _ h) rfl rfl rfl rfl
        · rw [if_neg c9] at h
          refine go_s 6 X (pc2 := 48) (st2 := [.ref 0, .int ((RVVa v) * 10), .ref 0]) rfl ?_
          obtain ⟨r11, hq10, h⟩ := obind_inv h
          refine q_callV X [0, 1] [] (AH2 := [.inr (4, [.ref 1, .int (RVLn v), .int (RVEn v), .int (RVNx v), .int (RVTk v), .int (RVAt v), .long (RVWd v), .int (RVVa v), .int (RVEk v), .int (RVEa v)]), .inl (0, 600, .inl (RVTx v))]) (st2 := [.int r11, .int ((RVVa v) * 10), .ref 0]) (c_X4_nextByte _ _ hq10) ⟨rfl, rfl⟩ rfl k_X4_nextByte l_X4_81 rfl rfl rfl rfl rfl (fit_of hR (by decide) (by decide) (by decide) (by decide)) (Nat.le_of_ble_eq_true rfl) (by decide) rfl rfl rfl ?_
          refine go 11 X (pc2 := 5) (ls2 := [some (.ref 0)]) (st2 := []) (AH2 := [.inr (4, [.ref 1, .int (RVLn v), .int (RVEn v), .int ((RVNx v) + 1), .int (RVTk v), .int (RVAt v), .long (RVWd v), .int ((((RVVa v) * 10) + r11) - 48), .int (RVEk v), .int (RVEa v)]), .inl (0, 600, .inl (RVTx v))]) rfl ?_
          exact AW.eq (ih _ _ _ h) rfl rfl rfl rfl
set_option maxHeartbeats 6000000 in
set_option maxRecDepth 20000 in
theorem c_X4_readDigits (v : RV) (r : Unit) (w : RV) (h : f_X4_readDigits v = some (r, w)) : Sem z_X4_readDigits 1 0 0 [.ref 0] (WR v) (PST (.inl none) (WR w)) := by
  refine Sem.of zo_X4_readDigits (by decide +kernel) (Nat.le_of_ble_eq_true rfl) fun κ X hE hR hN => ?_
  unfold f_X4_readDigits at h
  refine AW.eq (pc' := 0) (ls' := [some (.ref 0)]) (st' := []) (AH' := [.inr (4, [.ref 1, .int (RVLn v), .int (RVEn v), .int (RVNx v), .int (RVTk v), .int (RVAt v), .long (RVWd v), .int (RVVa v), .int (RVEk v), .int (RVEa v)]), .inl (0, 600, .inl (RVTx v))]) ?_ rfl rfl rfl rfl
  refine go 3 X (pc2 := 5) (ls2 := [some (.ref 0)]) (st2 := []) (AH2 := [.inr (4, [.ref 1, .int (RVLn v), .int (RVEn v), .int (RVNx v), .int (RVTk v), .int (RVAt v), .long (RVWd v), .int 0, .int (RVEk v), .int (RVEa v)]), .inl (0, 600, .inl (RVTx v))]) rfl ?_
  exact AW.eq (a_X4_readDigits_h5 X hR FU _ _ _ h) rfl rfl rfl rfl
set_option maxHeartbeats 6000000 in
set_option maxRecDepth 20000 in
theorem a_X4_readWord_h5 {κ : KX} (X : CX κ z_X4_readWord) (hR : κR κ = rmM 1 0 0) : ∀ (n : Nat) (v : RV) (r : Unit) (w : RV) (h : f_X4_readWord_h5 n v = some (r, w)), AW κ (QM κ (PST (.inl none) (WR w)) 0 0) 5 [some (.ref 0)] [] (WR v) 0 0 := by
  intro n
  induction n with
  | zero =>
    intro v r w h
    unfold f_X4_readWord_h5 at h
    cases h
  | succ n ih =>
    intro v r w h
    unfold f_X4_readWord_h5 at h
    refine AW.eq (pc' := 5) (ls' := [some (.ref 0)]) (st' := []) (AH' := [.inr (4, [.ref 1, .int (RVLn v), .int (RVEn v), .int (RVNx v), .int (RVTk v), .int (RVAt v), .long (RVWd v), .int (RVVa v), .int (RVEk v), .int (RVEa v)]), .inl (0, 600, .inl (RVTx v))]) ?_ rfl rfl rfl rfl
    refine go_s 4 X (pc2 := 13) (st2 := [.int (RVEn v), .int (RVNx v)]) rfl ?_
    refine r_icmp_ge X 80 rfl rfl (fun c1 => ?_) (fun c1 => ?_)
    · rw [if_pos c1] at h
      refine go_s 7 X (pc2 := 92) (st2 := [.int 8, .int ((RVNx v) - (RVAt v)), .ref 0]) rfl ?_
      refine r_icmp_le X 99 rfl rfl (fun c2 => ?_) (fun c2 => ?_)
      · rw [if_pos c2] at h
        refine go 2 X (pc2 := 103) (ls2 := [some (.ref 0)]) (st2 := []) (AH2 := [.inr (4, [.ref 1, .int (RVLn v), .int (RVEn v), .int (RVNx v), .int 1, .int (RVAt v), .long (RVWd v), .int (RVVa v), .int (RVEk v), .int (RVEa v)]), .inl (0, 600, .inl (RVTx v))]) rfl ?_
        cases h
        exact r_vret X rfl rfl ⟨rfl, rfl⟩ (by decide) (by decide)
      · rw [if_neg c2] at h
        refine go 3 X (pc2 := 103) (ls2 := [some (.ref 0)]) (st2 := []) (AH2 := [.inr (4, [.ref 1, .int (RVLn v), .int (RVEn v), .int (RVNx v), .int 4, .int (RVAt v), .long (RVWd v), .int (RVVa v), .int (RVEk v), .int (RVEa v)]), .inl (0, 600, .inl (RVTx v))]) rfl ?_
        cases h
        exact r_vret X rfl rfl ⟨rfl, rfl⟩ (by decide) (by decide)
    · rw [if_neg c1] at h
      refine go_s 1 X (pc2 := 17) (st2 := [.ref 0]) rfl ?_
      obtain ⟨r4, hq3, h⟩ := obind_inv h
      refine q_callV X [0, 1] [] (AH2 := [.inr (4, [.ref 1, .int (RVLn v), .int (RVEn v), .int (RVNx v), .int (RVTk v), .int (RVAt v), .long (RVWd v), .int (RVVa v), .int (RVEk v), .int (RVEa v)]), .inl (0, 600, .inl (RVTx v))]) (st2 := [.int r4]) (c_X4_nextByte _ _ hq3) ⟨rfl, rfl⟩ rfl k_X4_nextByte l_X4_81 rfl rfl rfl rfl rfl (fit_of hR (by decide) (by decide) (by decide) (by decide)) (Nat.le_of_ble_eq_true rfl) (by decide) rfl rfl rfl ?_
      obtain ⟨r7, hq6, h⟩ := obind_inv h
      refine q_callS X [] [] (AH2 := [.inr (4, [.ref 1, .int (RVLn v), .int (RVEn v), .int (RVNx v), .int (RVTk v), .int (RVAt v), .long (RVWd v), .int (RVVa v), .int (RVEk v), .int (RVEa v)]), .inl (0, 600, .inl (RVTx v))]) (st2 := [.int r7]) (c_X4_isLetter _ _ hq6) ⟨rfl, rfl⟩ rfl k_X4_isLetter l_X4_88 rfl rfl (fit_of hR (by decide) (by decide) (by decide) (by decide)) (Nat.le_of_ble_eq_true rfl) (by decide) rfl rfl rfl ?_
      refine r_if_eq X 80 rfl rfl (fun c9 => ?_) (fun c9 => ?_)
      · rw [if_pos c9] at h
        refine go_s 7 X (pc2 := 92) (st2 := [.int 8, .int ((RVNx v) - (RVAt v)), .ref 0]) rfl ?_
        refine r_icmp_le X 99 rfl rfl (fun c10 => ?_) (fun c10 => ?_)
        · rw [if_pos c10] at h
          refine go 2 X (pc2 := 103) (ls2 := [some (.ref 0)]) (st2 := []) (AH2 := [.inr (4, [.ref 1, .int (RVLn v), .int (RVEn v), .int (RVNx v), .int 1, .int (RVAt v), .long (RVWd v), .int (RVVa v), .int (RVEk v), .int (RVEa v)]), .inl (0, 600, .inl (RVTx v))]) rfl ?_
          cases h
          exact r_vret X rfl rfl ⟨rfl, rfl⟩ (by decide) (by decide)
        · rw [if_neg c10] at h
          refine go 3 X (pc2 := 103) (ls2 := [some (.ref 0)]) (st2 := []) (AH2 := [.inr (4, [.ref 1, .int (RVLn v), .int (RVEn v), .int (RVNx v), .int 4, .int (RVAt v), .long (RVWd v), .int (RVVa v), .int (RVEk v), .int (RVEa v)]), .inl (0, 600, .inl (RVTx v))]) rfl ?_
          cases h
          exact r_vret X rfl rfl ⟨rfl, rfl⟩ (by decide) (by decide)
      · rw [if_neg c9] at h
        refine go_s 6 X (pc2 := 37) (st2 := [.int 8, .int ((RVNx v) - (RVAt v))]) rfl ?_
        refine r_icmp_ge X 67 rfl rfl (fun c11 => ?_) (fun c11 => ?_)
        · rw [if_pos c11] at h
          refine go 7 X (pc2 := 5) (ls2 := [some (.ref 0)]) (st2 := []) (AH2 := [.inr (4, [.ref 1, .int (RVLn v), .int (RVEn v), .int ((RVNx v) + 1), .int (RVTk v), .int (RVAt v), .long (RVWd v), .int (RVVa v), .int (RVEk v), .int (RVEa v)]), .inl (0, 600, .inl (RVTx v))]) rfl ?_
          exact AW.eq (ih _ _ _ h) rfl rfl rfl rfl
        · rw [if_neg c11] at h
          refine go_s 4 X (pc2 := 46) (st2 := [.ref 0, .long (RVWd v), .ref 0]) rfl ?_
          obtain ⟨r13, hq12, h⟩ := obind_inv h
          refine q_callV X [0, 1] [] (AH2 := [.inr (4, [.ref 1, .int (RVLn v), .int (RVEn v), .int (RVNx v), .int (RVTk v), .int (RVAt v), .long (RVWd v), .int (RVVa v), .int (RVEk v), .int (RVEa v)]), .inl (0, 600, .inl (RVTx v))]) (st2 := [.int r13, .long (RVWd v), .ref 0]) (c_X4_nextByte _ _ hq12) ⟨rfl, rfl⟩ rfl k_X4_nextByte l_X4_81 rfl rfl rfl rfl rfl (fit_of hR (by decide) (by decide) (by decide) (by decide)) (Nat.le_of_ble_eq_true rfl) (by decide) rfl rfl rfl ?_
          refine go 18 X (pc2 := 5) (ls2 := [some (.ref 0)]) (st2 := []) (AH2 := [.inr (4, [.ref 1, .int (RVLn v), .int (RVEn v), .int ((RVNx v) + 1), .int (RVTk v), .int (RVAt v), .long ((RVWd v) ||| ((Int32.toInt64 r13) <<< (Int32.toInt64 (8 * ((RVNx v) - (RVAt v))) &&& 63))), .int (RVVa v), .int (RVEk v), .int (RVEa v)]), .inl (0, 600, .inl (RVTx v))]) rfl ?_
          exact AW.eq (ih _ _ _ h) rfl rfl rfl rfl
set_option maxHeartbeats 6000000 in
set_option maxRecDepth 20000 in
theorem c_X4_readWord (v : RV) (r : Unit) (w : RV) (h : f_X4_readWord v = some (r, w)) : Sem z_X4_readWord 1 0 0 [.ref 0] (WR v) (PST (.inl none) (WR w)) := by
  refine Sem.of zo_X4_readWord (by decide +kernel) (Nat.le_of_ble_eq_true rfl) fun κ X hE hR hN => ?_
  unfold f_X4_readWord at h
  refine AW.eq (pc' := 0) (ls' := [some (.ref 0)]) (st' := []) (AH' := [.inr (4, [.ref 1, .int (RVLn v), .int (RVEn v), .int (RVNx v), .int (RVTk v), .int (RVAt v), .long (RVWd v), .int (RVVa v), .int (RVEk v), .int (RVEa v)]), .inl (0, 600, .inl (RVTx v))]) ?_ rfl rfl rfl rfl
  refine go 3 X (pc2 := 5) (ls2 := [some (.ref 0)]) (st2 := []) (AH2 := [.inr (4, [.ref 1, .int (RVLn v), .int (RVEn v), .int (RVNx v), .int (RVTk v), .int (RVAt v), .long 0, .int (RVVa v), .int (RVEk v), .int (RVEa v)]), .inl (0, 600, .inl (RVTx v))]) rfl ?_
  exact AW.eq (a_X4_readWord_h5 X hR FU _ _ _ h) rfl rfl rfl rfl
set_option maxHeartbeats 6000000 in
set_option maxRecDepth 20000 in
theorem a_X4_readToken_h8 {κ : KX} (X : CX κ z_X4_readToken) (hR : κR κ = rmM 2 0 0) : ∀ (n : Nat) (v : RV) (r : Unit) (w : RV) (h : f_X4_readToken_h8 n v = some (r, w)), AW κ (QM κ (PST (.inl none) (WR w)) 0 0) 8 [some (.ref 0), none] [] (WR v) 0 0 := by
  intro n
  induction n with
  | zero =>
    intro v r w h
    unfold f_X4_readToken_h8 at h
    cases h
  | succ n ih =>
    intro v r w h
    unfold f_X4_readToken_h8 at h
    refine AW.eq (pc' := 8) (ls' := [some (.ref 0), none]) (st' := []) (AH' := [.inr (4, [.ref 1, .int (RVLn v), .int (RVEn v), .int (RVNx v), .int (RVTk v), .int (RVAt v), .long (RVWd v), .int (RVVa v), .int (RVEk v), .int (RVEa v)]), .inl (0, 600, .inl (RVTx v))]) ?_ rfl rfl rfl rfl
    refine go_s 4 X (pc2 := 16) (st2 := [.int (RVEn v), .int (RVNx v)]) rfl ?_
    refine r_icmp_ge X 42 rfl rfl (fun c5 => ?_) (fun c5 => ?_)
    · rw [if_pos c5] at h
      refine go 5 X (pc2 := 51) (ls2 := [some (.ref 0), none]) (st2 := [.ref 0]) (AH2 := [.inr (4, [.ref 1, .int (RVLn v), .int (RVEn v), .int (RVNx v), .int (RVTk v), .int (RVNx v), .long (RVWd v), .int (RVVa v), .int (RVEk v), .int (RVEa v)]), .inl (0, 600, .inl (RVTx v))]) rfl ?_
      obtain ⟨r7, hq6, h⟩ := obind_inv h
      refine q_callV X [0, 1] [] (AH2 := [.inr (4, [.ref 1, .int (RVLn v), .int (RVEn v), .int (RVNx v), .int (RVTk v), .int (RVNx v), .long (RVWd v), .int (RVVa v), .int (RVEk v), .int (RVEa v)]), .inl (0, 600, .inl (RVTx v))]) (st2 := [.int r7]) (c_X4_nextByte _ _ hq6) ⟨rfl, rfl⟩ rfl k_X4_nextByte l_X4_81 rfl rfl rfl rfl rfl (fit_of hR (by decide) (by decide) (by decide) (by decide)) (Nat.le_of_ble_eq_true rfl) (by decide) rfl rfl rfl ?_
      refine go_l 2 X (pc2 := 56) (ls2 := [some (.ref 0), some (.int r7)]) (st2 := [.int r7]) rfl ?_
      obtain ⟨r10, hq9, h⟩ := obind_inv h
      refine q_callS X [] [] (AH2 := [.inr (4, [.ref 1, .int (RVLn v), .int (RVEn v), .int (RVNx v), .int (RVTk v), .int (RVNx v), .long (RVWd v), .int (RVVa v), .int (RVEk v), .int (RVEa v)]), .inl (0, 600, .inl (RVTx v))]) (st2 := [.int r10]) (c_X4_isLetter _ _ hq9) ⟨rfl, rfl⟩ rfl k_X4_isLetter l_X4_88 rfl rfl (fit_of hR (by decide) (by decide) (by decide) (by decide)) (Nat.le_of_ble_eq_true rfl) (by decide) rfl rfl rfl ?_
      refine r_if_eq X 69 rfl rfl (fun c12 => ?_) (fun c12 => ?_)
      · rw [if_pos c12] at h
        refine go_s 1 X (pc2 := 70) (st2 := [.int r7]) rfl ?_
        obtain ⟨r14, hq13, h⟩ := obind_inv h
        refine q_callS X [] [] (AH2 := [.inr (4, [.ref 1, .int (RVLn v), .int (RVEn v), .int (RVNx v), .int (RVTk v), .int (RVNx v), .long (RVWd v), .int (RVVa v), .int (RVEk v), .int (RVEa v)]), .inl (0, 600, .inl (RVTx v))]) (st2 := [.int r14]) (c_X4_isDigit _ _ hq13) ⟨rfl, rfl⟩ rfl k_X4_isDigit l_X4_94 rfl rfl (fit_of hR (by decide) (by decide) (by decide) (by decide)) (Nat.le_of_ble_eq_true rfl) (by decide) rfl rfl rfl ?_
        refine r_if_eq X 83 rfl rfl (fun c16 => ?_) (fun c16 => ?_)
        · rw [if_pos c16] at h
          refine go_s 2 X (pc2 := 86) (st2 := [.int 59, .int r7]) rfl ?_
          refine r_icmp_ne X 107 rfl rfl (fun c17 => ?_) (fun c17 => ?_)
          · rw [if_neg c17] at h
            refine go_s 3 X (pc2 := 110) (st2 := [.int (-1), .int r7, .ref 0]) rfl ?_
            refine r_icmp_ne X 117 rfl rfl (fun c18 => ?_) (fun c18 => ?_)
            · rw [if_neg c18] at h
              refine go 2 X (pc2 := 121) (ls2 := [some (.ref 0), some (.int r7)]) (st2 := []) (AH2 := [.inr (4, [.ref 1, .int (RVLn v), .int (RVEn v), .int (RVNx v), .int 4, .int (RVNx v), .long (RVWd v), .int (RVVa v), .int (RVEk v), .int (RVEa v)]), .inl (0, 600, .inl (RVTx v))]) rfl ?_
              cases h
              exact r_vret X rfl rfl ⟨rfl, rfl⟩ (by decide) (by decide)
            · rw [if_pos c18] at h
              refine go 3 X (pc2 := 121) (ls2 := [some (.ref 0), some (.int r7)]) (st2 := []) (AH2 := [.inr (4, [.ref 1, .int (RVLn v), .int (RVEn v), .int (RVNx v), .int 0, .int (RVNx v), .long (RVWd v), .int (RVVa v), .int (RVEk v), .int (RVEa v)]), .inl (0, 600, .inl (RVTx v))]) rfl ?_
              cases h
              exact r_vret X rfl rfl ⟨rfl, rfl⟩ (by decide) (by decide)
          · rw [if_pos c17] at h
            refine go 10 X (pc2 := 121) (ls2 := [some (.ref 0), some (.int r7)]) (st2 := []) (AH2 := [.inr (4, [.ref 1, .int (RVLn v), .int (RVEn v), .int ((RVNx v) + 1), .int 3, .int (RVNx v), .long (RVWd v), .int (RVVa v), .int (RVEk v), .int (RVEa v)]), .inl (0, 600, .inl (RVTx v))]) rfl ?_
            cases h
            exact r_vret X rfl rfl ⟨rfl, rfl⟩ (by decide) (by decide)
        · rw [if_neg c16] at h
          refine go_s 1 X (pc2 := 77) (st2 := [.ref 0]) rfl ?_
          obtain ⟨r20, w21, hq19, h⟩ := bnd2_inv h
          refine q_callV X [0, 1] [] (AH2 := [.inr (4, [.ref 1, .int (RVLn w21), .int (RVEn w21), .int (RVNx w21), .int (RVTk w21), .int (RVAt w21), .long (RVWd w21), .int (RVVa w21), .int (RVEk w21), .int (RVEa w21)]), .inl (0, 600, .inl (RVTx w21))]) (st2 := []) (c_X4_readDigits _ _ _ hq19) ⟨rfl, rfl⟩ rfl k_X4_readDigits l_X4_97 rfl rfl rfl rfl rfl (fit_of hR (by decide) (by decide) (by decide) (by decide)) (Nat.le_of_ble_eq_true rfl) (by decide) rfl rfl rfl ?_
          refine go_s 1 X (pc2 := 121) (st2 := []) rfl ?_
          cases h
          exact r_vret X rfl rfl ⟨rfl, rfl⟩ (by decide) (by decide)
      · rw [if_neg c12] at h
        refine go_s 1 X (pc2 := 63) (st2 := [.ref 0]) rfl ?_
        obtain ⟨r23, w24, hq22, h⟩ := bnd2_inv h
        refine q_callV X [0, 1] [] (AH2 := [.inr (4, [.ref 1, .int (RVLn w24), .int (RVEn w24), .int (RVNx w24), .int (RVTk w24), .int (RVAt w24), .long (RVWd w24), .int (RVVa w24), .int (RVEk w24), .int (RVEa w24)]), .inl (0, 600, .inl (RVTx w24))]) (st2 := []) (c_X4_readWord _ _ _ hq22) ⟨rfl, rfl⟩ rfl k_X4_readWord l_X4_91 rfl rfl rfl rfl rfl (fit_of hR (by decide) (by decide) (by decide) (by decide)) (Nat.le_of_ble_eq_true rfl) (by decide) rfl rfl rfl ?_
        refine go_s 1 X (pc2 := 121) (st2 := []) rfl ?_
        cases h
        exact r_vret X rfl rfl ⟨rfl, rfl⟩ (by decide) (by decide)
    · rw [if_neg c5] at h
      refine go_s 1 X (pc2 := 20) (st2 := [.ref 0]) rfl ?_
      obtain ⟨r26, hq25, h⟩ := obind_inv h
      refine q_callV X [0, 1] [] (AH2 := [.inr (4, [.ref 1, .int (RVLn v), .int (RVEn v), .int (RVNx v), .int (RVTk v), .int (RVAt v), .long (RVWd v), .int (RVVa v), .int (RVEk v), .int (RVEa v)]), .inl (0, 600, .inl (RVTx v))]) (st2 := [.int r26]) (c_X4_nextByte _ _ hq25) ⟨rfl, rfl⟩ rfl k_X4_nextByte l_X4_81 rfl rfl rfl rfl rfl (fit_of hR (by decide) (by decide) (by decide) (by decide)) (Nat.le_of_ble_eq_true rfl) (by decide) rfl rfl rfl ?_
      obtain ⟨r29, hq28, h⟩ := obind_inv h
      refine q_callS X [] [] (AH2 := [.inr (4, [.ref 1, .int (RVLn v), .int (RVEn v), .int (RVNx v), .int (RVTk v), .int (RVAt v), .long (RVWd v), .int (RVVa v), .int (RVEk v), .int (RVEa v)]), .inl (0, 600, .inl (RVTx v))]) (st2 := [.int r29]) (c_X4_isBlank _ _ hq28) ⟨rfl, rfl⟩ rfl k_X4_isBlank l_X4_84 rfl rfl (fit_of hR (by decide) (by decide) (by decide) (by decide)) (Nat.le_of_ble_eq_true rfl) (by decide) rfl rfl rfl ?_
      refine r_if_eq X 42 rfl rfl (fun c31 => ?_) (fun c31 => ?_)
      · rw [if_pos c31] at h
        refine go 5 X (pc2 := 51) (ls2 := [some (.ref 0), none]) (st2 := [.ref 0]) (AH2 := [.inr (4, [.ref 1, .int (RVLn v), .int (RVEn v), .int (RVNx v), .int (RVTk v), .int (RVNx v), .long (RVWd v), .int (RVVa v), .int (RVEk v), .int (RVEa v)]), .inl (0, 600, .inl (RVTx v))]) rfl ?_
        obtain ⟨r33, hq32, h⟩ := obind_inv h
        refine q_callV X [0, 1] [] (AH2 := [.inr (4, [.ref 1, .int (RVLn v), .int (RVEn v), .int (RVNx v), .int (RVTk v), .int (RVNx v), .long (RVWd v), .int (RVVa v), .int (RVEk v), .int (RVEa v)]), .inl (0, 600, .inl (RVTx v))]) (st2 := [.int r33]) (c_X4_nextByte _ _ hq32) ⟨rfl, rfl⟩ rfl k_X4_nextByte l_X4_81 rfl rfl rfl rfl rfl (fit_of hR (by decide) (by decide) (by decide) (by decide)) (Nat.le_of_ble_eq_true rfl) (by decide) rfl rfl rfl ?_
        refine go_l 2 X (pc2 := 56) (ls2 := [some (.ref 0), some (.int r33)]) (st2 := [.int r33]) rfl ?_
        obtain ⟨r36, hq35, h⟩ := obind_inv h
        refine q_callS X [] [] (AH2 := [.inr (4, [.ref 1, .int (RVLn v), .int (RVEn v), .int (RVNx v), .int (RVTk v), .int (RVNx v), .long (RVWd v), .int (RVVa v), .int (RVEk v), .int (RVEa v)]), .inl (0, 600, .inl (RVTx v))]) (st2 := [.int r36]) (c_X4_isLetter _ _ hq35) ⟨rfl, rfl⟩ rfl k_X4_isLetter l_X4_88 rfl rfl (fit_of hR (by decide) (by decide) (by decide) (by decide)) (Nat.le_of_ble_eq_true rfl) (by decide) rfl rfl rfl ?_
        refine r_if_eq X 69 rfl rfl (fun c38 => ?_) (fun c38 => ?_)
        · rw [if_pos c38] at h
          refine go_s 1 X (pc2 := 70) (st2 := [.int r33]) rfl ?_
          obtain ⟨r40, hq39, h⟩ := obind_inv h
          refine q_callS X [] [] (AH2 := [.inr (4, [.ref 1, .int (RVLn v), .int (RVEn v), .int (RVNx v), .int (RVTk v), .int (RVNx v), .long (RVWd v), .int (RVVa v), .int (RVEk v), .int (RVEa v)]), .inl (0, 600, .inl (RVTx v))]) (st2 := [.int r40]) (c_X4_isDigit _ _ hq39) ⟨rfl, rfl⟩ rfl k_X4_isDigit l_X4_94 rfl rfl (fit_of hR (by decide) (by decide) (by decide) (by decide)) (Nat.le_of_ble_eq_true rfl) (by decide) rfl rfl rfl ?_
          refine r_if_eq X 83 rfl rfl (fun c42 => ?_) (fun c42 => ?_)
          · rw [if_pos c42] at h
            refine go_s 2 X (pc2 := 86) (st2 := [.int 59, .int r33]) rfl ?_
            refine r_icmp_ne X 107 rfl rfl (fun c43 => ?_) (fun c43 => ?_)
            · rw [if_neg c43] at h
              refine go_s 3 X (pc2 := 110) (st2 := [.int (-1), .int r33, .ref 0]) rfl ?_
              refine r_icmp_ne X 117 rfl rfl (fun c44 => ?_) (fun c44 => ?_)
              · rw [if_neg c44] at h
                refine go 2 X (pc2 := 121) (ls2 := [some (.ref 0), some (.int r33)]) (st2 := []) (AH2 := [.inr (4, [.ref 1, .int (RVLn v), .int (RVEn v), .int (RVNx v), .int 4, .int (RVNx v), .long (RVWd v), .int (RVVa v), .int (RVEk v), .int (RVEa v)]), .inl (0, 600, .inl (RVTx v))]) rfl ?_
                cases h
                exact r_vret X rfl rfl ⟨rfl, rfl⟩ (by decide) (by decide)
              · rw [if_pos c44] at h
                refine go 3 X (pc2 := 121) (ls2 := [some (.ref 0), some (.int r33)]) (st2 := []) (AH2 := [.inr (4, [.ref 1, .int (RVLn v), .int (RVEn v), .int (RVNx v), .int 0, .int (RVNx v), .long (RVWd v), .int (RVVa v), .int (RVEk v), .int (RVEa v)]), .inl (0, 600, .inl (RVTx v))]) rfl ?_
                cases h
                exact r_vret X rfl rfl ⟨rfl, rfl⟩ (by decide) (by decide)
            · rw [if_pos c43] at h
              refine go 10 X (pc2 := 121) (ls2 := [some (.ref 0), some (.int r33)]) (st2 := []) (AH2 := [.inr (4, [.ref 1, .int (RVLn v), .int (RVEn v), .int ((RVNx v) + 1), .int 3, .int (RVNx v), .long (RVWd v), .int (RVVa v), .int (RVEk v), .int (RVEa v)]), .inl (0, 600, .inl (RVTx v))]) rfl ?_
              cases h
              exact r_vret X rfl rfl ⟨rfl, rfl⟩ (by decide) (by decide)
          · rw [if_neg c42] at h
            refine go_s 1 X (pc2 := 77) (st2 := [.ref 0]) rfl ?_
            obtain ⟨r46, w47, hq45, h⟩ := bnd2_inv h
            refine q_callV X [0, 1] [] (AH2 := [.inr (4, [.ref 1, .int (RVLn w47), .int (RVEn w47), .int (RVNx w47), .int (RVTk w47), .int (RVAt w47), .long (RVWd w47), .int (RVVa w47), .int (RVEk w47), .int (RVEa w47)]), .inl (0, 600, .inl (RVTx w47))]) (st2 := []) (c_X4_readDigits _ _ _ hq45) ⟨rfl, rfl⟩ rfl k_X4_readDigits l_X4_97 rfl rfl rfl rfl rfl (fit_of hR (by decide) (by decide) (by decide) (by decide)) (Nat.le_of_ble_eq_true rfl) (by decide) rfl rfl rfl ?_
            refine go_s 1 X (pc2 := 121) (st2 := []) rfl ?_
            cases h
            exact r_vret X rfl rfl ⟨rfl, rfl⟩ (by decide) (by decide)
        · rw [if_neg c38] at h
          refine go_s 1 X (pc2 := 63) (st2 := [.ref 0]) rfl ?_
          obtain ⟨r49, w50, hq48, h⟩ := bnd2_inv h
          refine q_callV X [0, 1] [] (AH2 := [.inr (4, [.ref 1, .int (RVLn w50), .int (RVEn w50), .int (RVNx w50), .int (RVTk w50), .int (RVAt w50), .long (RVWd w50), .int (RVVa w50), .int (RVEk w50), .int (RVEa w50)]), .inl (0, 600, .inl (RVTx w50))]) (st2 := []) (c_X4_readWord _ _ _ hq48) ⟨rfl, rfl⟩ rfl k_X4_readWord l_X4_91 rfl rfl rfl rfl rfl (fit_of hR (by decide) (by decide) (by decide) (by decide)) (Nat.le_of_ble_eq_true rfl) (by decide) rfl rfl rfl ?_
          refine go_s 1 X (pc2 := 121) (st2 := []) rfl ?_
          cases h
          exact r_vret X rfl rfl ⟨rfl, rfl⟩ (by decide) (by decide)
      · rw [if_neg c31] at h
        refine go 7 X (pc2 := 8) (ls2 := [some (.ref 0), none]) (st2 := []) (AH2 := [.inr (4, [.ref 1, .int (RVLn v), .int (RVEn v), .int ((RVNx v) + 1), .int (RVTk v), .int (RVAt v), .long (RVWd v), .int (RVVa v), .int (RVEk v), .int (RVEa v)]), .inl (0, 600, .inl (RVTx v))]) rfl ?_
        exact AW.eq (ih _ _ _ h) rfl rfl rfl rfl
set_option maxHeartbeats 6000000 in
set_option maxRecDepth 20000 in
theorem c_X4_readToken (v : RV) (r : Unit) (w : RV) (h : f_X4_readToken v = some (r, w)) : Sem z_X4_readToken 2 0 0 [.ref 0] (WR v) (PST (.inl none) (WR w)) := by
  refine Sem.of zo_X4_readToken (by decide +kernel) (Nat.le_of_ble_eq_true rfl) fun κ X hE hR hN => ?_
  unfold f_X4_readToken at h
  refine AW.eq (pc' := 0) (ls' := [some (.ref 0), none]) (st' := []) (AH' := [.inr (4, [.ref 1, .int (RVLn v), .int (RVEn v), .int (RVNx v), .int (RVTk v), .int (RVAt v), .long (RVWd v), .int (RVVa v), .int (RVEk v), .int (RVEa v)]), .inl (0, 600, .inl (RVTx v))]) ?_ rfl rfl rfl rfl
  refine go_s 1 X (pc2 := 1) (st2 := [.ref 0]) rfl ?_
  obtain ⟨r2, hq1, h⟩ := obind_inv h
  refine q_callV X [0, 1] [] (AH2 := [.inr (4, [.ref 1, .int (RVLn v), .int (RVEn v), .int (RVNx v), .int (RVTk v), .int (RVAt v), .long (RVWd v), .int (RVVa v), .int (RVEk v), .int (RVEa v)]), .inl (0, 600, .inl (RVTx v))]) (st2 := [.int r2]) (c_X4_isValid _ _ hq1) ⟨rfl, rfl⟩ rfl k_X4_isValid l_X4_63 rfl rfl rfl rfl rfl (fit_of hR (by decide) (by decide) (by decide) (by decide)) (Nat.le_of_ble_eq_true rfl) (by decide) rfl rfl rfl ?_
  refine r_if_ne X 8 rfl rfl (fun c4 => ?_) (fun c4 => ?_)
  · rw [if_neg c4] at h
    exact AW.eq (a_X4_readToken_h8 X hR FU _ _ _ h) rfl rfl rfl rfl
  · rw [if_pos c4] at h
    cases h
    exact r_vret X rfl rfl ⟨rfl, rfl⟩ (by decide) (by decide)
set_option maxHeartbeats 6000000 in
set_option maxRecDepth 20000 in
theorem c_X4_knownName (v : P_RV_NV) (r : Int32) (w : P_RV_NV) (h : f_X4_knownName v = some (r, w)) : Sem z_X4_knownName 3 0 0 [.ref 0, .ref 2] (WP_RV_NV v) (PST (.inl (some (.int r))) (WP_RV_NV w)) := by
  refine Sem.of zo_X4_knownName (by decide +kernel) (Nat.le_of_ble_eq_true rfl) fun κ X hE hR hN => ?_
  unfold f_X4_knownName at h
  refine AW.eq (pc' := 0) (ls' := [some (.ref 0), some (.ref 2), none]) (st' := []) (AH' := [.inr (4, [.ref 1, .int (RVLn (P_RV_NVA v)), .int (RVEn (P_RV_NVA v)), .int (RVNx (P_RV_NVA v)), .int (RVTk (P_RV_NVA v)), .int (RVAt (P_RV_NVA v)), .long (RVWd (P_RV_NVA v)), .int (RVVa (P_RV_NVA v)), .int (RVEk (P_RV_NVA v)), .int (RVEa (P_RV_NVA v))]), .inl (0, 600, .inl (RVTx (P_RV_NVA v))), .inr (2, [.ref 3, .int (NVCt (P_RV_NVB v))]), .inl (1, 8, .inr (.inl (NVPk (P_RV_NVB v))))]) ?_ rfl rfl rfl rfl
  refine go_s 1 X (pc2 := 1) (st2 := [.ref 0]) rfl ?_
  obtain ⟨r2, w3, hq1, h⟩ := bnd2_inv h
  refine q_callV X [0, 1] [] (AH2 := [.inr (4, [.ref 1, .int (RVLn w3), .int (RVEn w3), .int (RVNx w3), .int (RVTk w3), .int (RVAt w3), .long (RVWd w3), .int (RVVa w3), .int (RVEk w3), .int (RVEa w3)]), .inl (0, 600, .inl (RVTx w3)), .inr (2, [.ref 3, .int (NVCt (P_RV_NVB v))]), .inl (1, 8, .inr (.inl (NVPk (P_RV_NVB v))))]) (st2 := []) (c_X4_readToken _ _ _ hq1) ⟨rfl, rfl⟩ rfl k_X4_readToken l_X4_57 rfl rfl rfl rfl rfl (fit_of hR (by decide) (by decide) (by decide) (by decide)) (Nat.le_of_ble_eq_true rfl) (by decide) rfl rfl rfl ?_
  refine go_s 3 X (pc2 := 8) (st2 := [.int 6, .int 1, .ref 0]) rfl ?_
  obtain ⟨r5, w6, hq4, h⟩ := bnd2_inv h
  refine q_callV X [0, 1] [] (AH2 := [.inr (4, [.ref 1, .int (RVLn w6), .int (RVEn w6), .int (RVNx w6), .int (RVTk w6), .int (RVAt w6), .long (RVWd w6), .int (RVVa w6), .int (RVEk w6), .int (RVEa w6)]), .inl (0, 600, .inl (RVTx w6)), .inr (2, [.ref 3, .int (NVCt (P_RV_NVB v))]), .inl (1, 8, .inr (.inl (NVPk (P_RV_NVB v))))]) (st2 := [.int r5]) (c_X4_accepts _ _ _ _ _ hq4) ⟨rfl, rfl⟩ rfl k_X4_accepts l_X4_71 rfl rfl rfl rfl rfl (fit_of hR (by decide) (by decide) (by decide) (by decide)) (Nat.le_of_ble_eq_true rfl) (by decide) rfl rfl rfl ?_
  refine r_if_ne X 16 rfl rfl (fun c7 => ?_) (fun c7 => ?_)
  · rw [if_neg c7] at h
    refine go_s 3 X (pc2 := 21) (st2 := [.long (RVWd w6), .ref 2]) rfl ?_
    obtain ⟨r9, hq8, h⟩ := obind_inv h
    refine q_callV X [2, 3] [] (AH2 := [.inr (4, [.ref 1, .int (RVLn w6), .int (RVEn w6), .int (RVNx w6), .int (RVTk w6), .int (RVAt w6), .long (RVWd w6), .int (RVVa w6), .int (RVEk w6), .int (RVEa w6)]), .inl (0, 600, .inl (RVTx w6)), .inr (2, [.ref 3, .int (NVCt (P_RV_NVB v))]), .inl (1, 8, .inr (.inl (NVPk (P_RV_NVB v))))]) (st2 := [.int r9]) (c_X2_find _ _ _ hq8) ⟨rfl, rfl⟩ rfl k_X2_find l_X4_75 rfl rfl rfl rfl rfl (fit_of hR (by decide) (by decide) (by decide) (by decide)) (Nat.le_of_ble_eq_true rfl) (by decide) rfl rfl rfl ?_
    refine go_l 3 X (pc2 := 27) (ls2 := [some (.ref 0), some (.ref 2), some (.int r9)]) (st2 := [.int (-1), .int r9]) rfl ?_
    refine r_icmp_ne X 35 rfl rfl (fun c11 => ?_) (fun c11 => ?_)
    · rw [if_neg c11] at h
      refine go_s 1 X (pc2 := 36) (st2 := [.int r9]) rfl ?_
      cases h
      exact r_iret X rfl rfl ⟨rfl, rfl⟩ (by decide) (by decide)
    · rw [if_pos c11] at h
      refine go_s 2 X (pc2 := 32) (st2 := [.int 3, .ref 0]) rfl ?_
      obtain ⟨r13, w14, hq12, h⟩ := bnd2_inv h
      refine q_callV X [0, 1] [] (AH2 := [.inr (4, [.ref 1, .int (RVLn w14), .int (RVEn w14), .int (RVNx w14), .int (RVTk w14), .int (RVAt w14), .long (RVWd w14), .int (RVVa w14), .int (RVEk w14), .int (RVEa w14)]), .inl (0, 600, .inl (RVTx w14)), .inr (2, [.ref 3, .int (NVCt (P_RV_NVB v))]), .inl (1, 8, .inr (.inl (NVPk (P_RV_NVB v))))]) (st2 := []) (c_X4_fail _ _ _ _ hq12) ⟨rfl, rfl⟩ rfl k_X4_fail l_X4_60 rfl rfl rfl rfl rfl (fit_of hR (by decide) (by decide) (by decide) (by decide)) (Nat.le_of_ble_eq_true rfl) (by decide) rfl rfl rfl ?_
      refine go_s 1 X (pc2 := 36) (st2 := [.int r9]) rfl ?_
      cases h
      exact r_iret X rfl rfl ⟨rfl, rfl⟩ (by decide) (by decide)
  · rw [if_pos c7] at h
    refine go_s 1 X (pc2 := 15) (st2 := [.int (-1)]) rfl ?_
    cases h
    exact r_iret X rfl rfl ⟨rfl, rfl⟩ (by decide) (by decide)
set_option maxHeartbeats 6000000 in
set_option maxRecDepth 20000 in
theorem c_X4_newName (v : P_RV_NV) (r : Int64) (w : P_RV_NV) (h : f_X4_newName v = some (r, w)) : Sem z_X4_newName 3 0 0 [.ref 0, .ref 2] (WP_RV_NV v) (PST (.inl (some (.long r))) (WP_RV_NV w)) := by
  refine Sem.of zo_X4_newName (by decide +kernel) (Nat.le_of_ble_eq_true rfl) fun κ X hE hR hN => ?_
  unfold f_X4_newName at h
  refine AW.eq (pc' := 0) (ls' := [some (.ref 0), some (.ref 2)]) (st' := []) (AH' := [.inr (4, [.ref 1, .int (RVLn (P_RV_NVA v)), .int (RVEn (P_RV_NVA v)), .int (RVNx (P_RV_NVA v)), .int (RVTk (P_RV_NVA v)), .int (RVAt (P_RV_NVA v)), .long (RVWd (P_RV_NVA v)), .int (RVVa (P_RV_NVA v)), .int (RVEk (P_RV_NVA v)), .int (RVEa (P_RV_NVA v))]), .inl (0, 600, .inl (RVTx (P_RV_NVA v))), .inr (2, [.ref 3, .int (NVCt (P_RV_NVB v))]), .inl (1, 8, .inr (.inl (NVPk (P_RV_NVB v))))]) ?_ rfl rfl rfl rfl
  refine go_s 1 X (pc2 := 1) (st2 := [.ref 0]) rfl ?_
  obtain ⟨r2, w3, hq1, h⟩ := bnd2_inv h
  refine q_callV X [0, 1] [] (AH2 := [.inr (4, [.ref 1, .int (RVLn w3), .int (RVEn w3), .int (RVNx w3), .int (RVTk w3), .int (RVAt w3), .long (RVWd w3), .int (RVVa w3), .int (RVEk w3), .int (RVEa w3)]), .inl (0, 600, .inl (RVTx w3)), .inr (2, [.ref 3, .int (NVCt (P_RV_NVB v))]), .inl (1, 8, .inr (.inl (NVPk (P_RV_NVB v))))]) (st2 := []) (c_X4_readToken _ _ _ hq1) ⟨rfl, rfl⟩ rfl k_X4_readToken l_X4_57 rfl rfl rfl rfl rfl (fit_of hR (by decide) (by decide) (by decide) (by decide)) (Nat.le_of_ble_eq_true rfl) (by decide) rfl rfl rfl ?_
  refine go_s 3 X (pc2 := 8) (st2 := [.int 6, .int 1, .ref 0]) rfl ?_
  obtain ⟨r5, w6, hq4, h⟩ := bnd2_inv h
  refine q_callV X [0, 1] [] (AH2 := [.inr (4, [.ref 1, .int (RVLn w6), .int (RVEn w6), .int (RVNx w6), .int (RVTk w6), .int (RVAt w6), .long (RVWd w6), .int (RVVa w6), .int (RVEk w6), .int (RVEa w6)]), .inl (0, 600, .inl (RVTx w6)), .inr (2, [.ref 3, .int (NVCt (P_RV_NVB v))]), .inl (1, 8, .inr (.inl (NVPk (P_RV_NVB v))))]) (st2 := [.int r5]) (c_X4_accepts _ _ _ _ _ hq4) ⟨rfl, rfl⟩ rfl k_X4_accepts l_X4_71 rfl rfl rfl rfl rfl (fit_of hR (by decide) (by decide) (by decide) (by decide)) (Nat.le_of_ble_eq_true rfl) (by decide) rfl rfl rfl ?_
  refine r_if_eq X 31 rfl rfl (fun c7 => ?_) (fun c7 => ?_)
  · rw [if_pos c7] at h
    refine go_s 2 X (pc2 := 35) (st2 := [.long (RVWd w6)]) rfl ?_
    cases h
    exact r_lret X rfl rfl ⟨rfl, rfl⟩ (by decide) (by decide)
  · rw [if_neg c7] at h
    refine go_s 3 X (pc2 := 19) (st2 := [.long (RVWd w6), .ref 2]) rfl ?_
    obtain ⟨r9, hq8, h⟩ := obind_inv h
    refine q_callV X [2, 3] [] (AH2 := [.inr (4, [.ref 1, .int (RVLn w6), .int (RVEn w6), .int (RVNx w6), .int (RVTk w6), .int (RVAt w6), .long (RVWd w6), .int (RVVa w6), .int (RVEk w6), .int (RVEa w6)]), .inl (0, 600, .inl (RVTx w6)), .inr (2, [.ref 3, .int (NVCt (P_RV_NVB v))]), .inl (1, 8, .inr (.inl (NVPk (P_RV_NVB v))))]) (st2 := [.int r9]) (c_X2_find _ _ _ hq8) ⟨rfl, rfl⟩ rfl k_X2_find l_X4_75 rfl rfl rfl rfl rfl (fit_of hR (by decide) (by decide) (by decide) (by decide)) (Nat.le_of_ble_eq_true rfl) (by decide) rfl rfl rfl ?_
    refine go_s 1 X (pc2 := 23) (st2 := [.int (-1), .int r9]) rfl ?_
    refine r_icmp_eq X 31 rfl rfl (fun c11 => ?_) (fun c11 => ?_)
    · rw [if_pos c11] at h
      refine go_s 2 X (pc2 := 35) (st2 := [.long (RVWd w6)]) rfl ?_
      cases h
      exact r_lret X rfl rfl ⟨rfl, rfl⟩ (by decide) (by decide)
    · rw [if_neg c11] at h
      refine go_s 2 X (pc2 := 28) (st2 := [.int 3, .ref 0]) rfl ?_
      obtain ⟨r13, w14, hq12, h⟩ := bnd2_inv h
      refine q_callV X [0, 1] [] (AH2 := [.inr (4, [.ref 1, .int (RVLn w14), .int (RVEn w14), .int (RVNx w14), .int (RVTk w14), .int (RVAt w14), .long (RVWd w14), .int (RVVa w14), .int (RVEk w14), .int (RVEa w14)]), .inl (0, 600, .inl (RVTx w14)), .inr (2, [.ref 3, .int (NVCt (P_RV_NVB v))]), .inl (1, 8, .inr (.inl (NVPk (P_RV_NVB v))))]) (st2 := []) (c_X4_fail _ _ _ _ hq12) ⟨rfl, rfl⟩ rfl k_X4_fail l_X4_60 rfl rfl rfl rfl rfl (fit_of hR (by decide) (by decide) (by decide) (by decide)) (Nat.le_of_ble_eq_true rfl) (by decide) rfl rfl rfl ?_
      refine go_s 2 X (pc2 := 35) (st2 := [.long (RVWd w14)]) rfl ?_
      cases h
      exact r_lret X rfl rfl ⟨rfl, rfl⟩ (by decide) (by decide)
set_option maxHeartbeats 6000000 in
set_option maxRecDepth 20000 in
theorem c_X4_number (v : RV) (a : Int32) (b : Int32) (r : Int32) (w : RV) (h : f_X4_number v a b = some (r, w)) : Sem z_X4_number 3 0 0 [.ref 0, .int a, .int b] (WR v) (PST (.inl (some (.int r))) (WR w)) := by
  refine Sem.of zo_X4_number (by decide +kernel) (Nat.le_of_ble_eq_true rfl) fun κ X hE hR hN => ?_
  unfold f_X4_number at h
  refine AW.eq (pc' := 0) (ls' := [some (.ref 0), some (.int a), some (.int b)]) (st' := []) (AH' := [.inr (4, [.ref 1, .int (RVLn v), .int (RVEn v), .int (RVNx v), .int (RVTk v), .int (RVAt v), .long (RVWd v), .int (RVVa v), .int (RVEk v), .int (RVEa v)]), .inl (0, 600, .inl (RVTx v))]) ?_ rfl rfl rfl rfl
  refine go_s 1 X (pc2 := 1) (st2 := [.ref 0]) rfl ?_
  obtain ⟨r2, w3, hq1, h⟩ := bnd2_inv h
  refine q_callV X [0, 1] [] (AH2 := [.inr (4, [.ref 1, .int (RVLn w3), .int (RVEn w3), .int (RVNx w3), .int (RVTk w3), .int (RVAt w3), .long (RVWd w3), .int (RVVa w3), .int (RVEk w3), .int (RVEa w3)]), .inl (0, 600, .inl (RVTx w3))]) (st2 := []) (c_X4_readToken _ _ _ hq1) ⟨rfl, rfl⟩ rfl k_X4_readToken l_X4_57 rfl rfl rfl rfl rfl (fit_of hR (by decide) (by decide) (by decide) (by decide)) (Nat.le_of_ble_eq_true rfl) (by decide) rfl rfl rfl ?_
  refine go_s 3 X (pc2 := 7) (st2 := [.int 3, .int 2, .ref 0]) rfl ?_
  obtain ⟨r5, w6, hq4, h⟩ := bnd2_inv h
  refine q_callV X [0, 1] [] (AH2 := [.inr (4, [.ref 1, .int (RVLn w6), .int (RVEn w6), .int (RVNx w6), .int (RVTk w6), .int (RVAt w6), .long (RVWd w6), .int (RVVa w6), .int (RVEk w6), .int (RVEa w6)]), .inl (0, 600, .inl (RVTx w6))]) (st2 := [.int r5]) (c_X4_accepts _ _ _ _ _ hq4) ⟨rfl, rfl⟩ rfl k_X4_accepts l_X4_71 rfl rfl rfl rfl rfl (fit_of hR (by decide) (by decide) (by decide) (by decide)) (Nat.le_of_ble_eq_true rfl) (by decide) rfl rfl rfl ?_
  refine r_if_ne X 15 rfl rfl (fun c7 => ?_) (fun c7 => ?_)
  · rw [if_neg c7] at h
    refine go_s 3 X (pc2 := 20) (st2 := [.int a, .int (RVVa w6)]) rfl ?_
    refine r_icmp_lt X 31 rfl rfl (fun c8 => ?_) (fun c8 => ?_)
    · rw [if_pos c8] at h
      refine go_s 2 X (pc2 := 33) (st2 := [.int 2, .ref 0]) rfl ?_
      obtain ⟨r10, w11, hq9, h⟩ := bnd2_inv h
      refine q_callV X [0, 1] [] (AH2 := [.inr (4, [.ref 1, .int (RVLn w11), .int (RVEn w11), .int (RVNx w11), .int (RVTk w11), .int (RVAt w11), .long (RVWd w11), .int (RVVa w11), .int (RVEk w11), .int (RVEa w11)]), .inl (0, 600, .inl (RVTx w11))]) (st2 := []) (c_X4_fail _ _ _ _ hq9) ⟨rfl, rfl⟩ rfl k_X4_fail l_X4_60 rfl rfl rfl rfl rfl (fit_of hR (by decide) (by decide) (by decide) (by decide)) (Nat.le_of_ble_eq_true rfl) (by decide) rfl rfl rfl ?_
      refine go_s 1 X (pc2 := 37) (st2 := [.int (-1)]) rfl ?_
      cases h
      exact r_iret X rfl rfl ⟨rfl, rfl⟩ (by decide) (by decide)
    · rw [if_neg c8] at h
      refine go_s 3 X (pc2 := 28) (st2 := [.int b, .int (RVVa w6)]) rfl ?_
      refine r_icmp_le X 38 rfl rfl (fun c12 => ?_) (fun c12 => ?_)
      · rw [if_pos c12] at h
        refine go_s 2 X (pc2 := 42) (st2 := [.int (RVVa w6)]) rfl ?_
        cases h
        exact r_iret X rfl rfl ⟨rfl, rfl⟩ (by decide) (by decide)
      · rw [if_neg c12] at h
        refine go_s 2 X (pc2 := 33) (st2 := [.int 2, .ref 0]) rfl ?_
        obtain ⟨r14, w15, hq13, h⟩ := bnd2_inv h
        refine q_callV X [0, 1] [] (AH2 := [.inr (4, [.ref 1, .int (RVLn w15), .int (RVEn w15), .int (RVNx w15), .int (RVTk w15), .int (RVAt w15), .long (RVWd w15), .int (RVVa w15), .int (RVEk w15), .int (RVEa w15)]), .inl (0, 600, .inl (RVTx w15))]) (st2 := []) (c_X4_fail _ _ _ _ hq13) ⟨rfl, rfl⟩ rfl k_X4_fail l_X4_60 rfl rfl rfl rfl rfl (fit_of hR (by decide) (by decide) (by decide) (by decide)) (Nat.le_of_ble_eq_true rfl) (by decide) rfl rfl rfl ?_
        refine go_s 1 X (pc2 := 37) (st2 := [.int (-1)]) rfl ?_
        cases h
        exact r_iret X rfl rfl ⟨rfl, rfl⟩ (by decide) (by decide)
  · rw [if_pos c7] at h
    refine go_s 1 X (pc2 := 14) (st2 := [.int (-1)]) rfl ?_
    cases h
    exact r_iret X rfl rfl ⟨rfl, rfl⟩ (by decide) (by decide)
set_option maxHeartbeats 6000000 in
set_option maxRecDepth 20000 in
theorem c_X4_semicolon (v : RV) (r : Unit) (w : RV) (h : f_X4_semicolon v = some (r, w)) : Sem z_X4_semicolon 3 0 0 [.ref 0] (WR v) (PST (.inl none) (WR w)) := by
  refine Sem.of zo_X4_semicolon (by decide +kernel) (Nat.le_of_ble_eq_true rfl) fun κ X hE hR hN => ?_
  unfold f_X4_semicolon at h
  refine AW.eq (pc' := 0) (ls' := [some (.ref 0)]) (st' := []) (AH' := [.inr (4, [.ref 1, .int (RVLn v), .int (RVEn v), .int (RVNx v), .int (RVTk v), .int (RVAt v), .long (RVWd v), .int (RVVa v), .int (RVEk v), .int (RVEa v)]), .inl (0, 600, .inl (RVTx v))]) ?_ rfl rfl rfl rfl
  refine go_s 1 X (pc2 := 1) (st2 := [.ref 0]) rfl ?_
  obtain ⟨r2, w3, hq1, h⟩ := bnd2_inv h
  refine q_callV X [0, 1] [] (AH2 := [.inr (4, [.ref 1, .int (RVLn w3), .int (RVEn w3), .int (RVNx w3), .int (RVTk w3), .int (RVAt w3), .long (RVWd w3), .int (RVVa w3), .int (RVEk w3), .int (RVEa w3)]), .inl (0, 600, .inl (RVTx w3))]) (st2 := []) (c_X4_readToken _ _ _ hq1) ⟨rfl, rfl⟩ rfl k_X4_readToken l_X4_57 rfl rfl rfl rfl rfl (fit_of hR (by decide) (by decide) (by decide) (by decide)) (Nat.le_of_ble_eq_true rfl) (by decide) rfl rfl rfl ?_
  refine go_s 3 X (pc2 := 7) (st2 := [.int 1, .int 3, .ref 0]) rfl ?_
  obtain ⟨r5, w6, hq4, h⟩ := bnd2_inv h
  refine q_callV X [0, 1] [] (AH2 := [.inr (4, [.ref 1, .int (RVLn w6), .int (RVEn w6), .int (RVNx w6), .int (RVTk w6), .int (RVAt w6), .long (RVWd w6), .int (RVVa w6), .int (RVEk w6), .int (RVEa w6)]), .inl (0, 600, .inl (RVTx w6))]) (st2 := [.int r5]) (c_X4_accepts _ _ _ _ _ hq4) ⟨rfl, rfl⟩ rfl k_X4_accepts l_X4_71 rfl rfl rfl rfl rfl (fit_of hR (by decide) (by decide) (by decide) (by decide)) (Nat.le_of_ble_eq_true rfl) (by decide) rfl rfl rfl ?_
  refine go_s 1 X (pc2 := 11) (st2 := []) rfl ?_
  cases h
  exact r_vret X rfl rfl ⟨rfl, rfl⟩ (by decide) (by decide)
set_option maxHeartbeats 6000000 in
set_option maxRecDepth 20000 in
theorem c_X4_startsStatement (v : RV) (r : Int32) (w : RV) (h : f_X4_startsStatement v = some (r, w)) : Sem z_X4_startsStatement 3 0 0 [.ref 0] (WR v) (PST (.inl (some (.int r))) (WR w)) := by
  refine Sem.of zo_X4_startsStatement (by decide +kernel) (Nat.le_of_ble_eq_true rfl) fun κ X hE hR hN => ?_
  unfold f_X4_startsStatement at h
  refine AW.eq (pc' := 0) (ls' := [some (.ref 0)]) (st' := []) (AH' := [.inr (4, [.ref 1, .int (RVLn v), .int (RVEn v), .int (RVNx v), .int (RVTk v), .int (RVAt v), .long (RVWd v), .int (RVVa v), .int (RVEk v), .int (RVEa v)]), .inl (0, 600, .inl (RVTx v))]) ?_ rfl rfl rfl rfl
  refine go_s 1 X (pc2 := 1) (st2 := [.ref 0]) rfl ?_
  obtain ⟨r2, w3, hq1, h⟩ := bnd2_inv h
  refine q_callV X [0, 1] [] (AH2 := [.inr (4, [.ref 1, .int (RVLn w3), .int (RVEn w3), .int (RVNx w3), .int (RVTk w3), .int (RVAt w3), .long (RVWd w3), .int (RVVa w3), .int (RVEk w3), .int (RVEa w3)]), .inl (0, 600, .inl (RVTx w3))]) (st2 := []) (c_X4_readToken _ _ _ hq1) ⟨rfl, rfl⟩ rfl k_X4_readToken l_X4_57 rfl rfl rfl rfl rfl (fit_of hR (by decide) (by decide) (by decide) (by decide)) (Nat.le_of_ble_eq_true rfl) (by decide) rfl rfl rfl ?_
  refine go_s 3 X (pc2 := 9) (st2 := [.int 1, .int (RVTk w3)]) rfl ?_
  refine r_icmp_eq X 24 rfl rfl (fun c4 => ?_) (fun c4 => ?_)
  · rw [if_pos c4] at h
    refine go_s 1 X (pc2 := 25) (st2 := [.ref 0]) rfl ?_
    obtain ⟨r6, hq5, h⟩ := obind_inv h
    refine q_callV X [0, 1] [] (AH2 := [.inr (4, [.ref 1, .int (RVLn w3), .int (RVEn w3), .int (RVNx w3), .int (RVTk w3), .int (RVAt w3), .long (RVWd w3), .int (RVVa w3), .int (RVEk w3), .int (RVEa w3)]), .inl (0, 600, .inl (RVTx w3))]) (st2 := [.int r6]) (c_X4_isValid _ _ hq5) ⟨rfl, rfl⟩ rfl k_X4_isValid l_X4_63 rfl rfl rfl rfl rfl (fit_of hR (by decide) (by decide) (by decide) (by decide)) (Nat.le_of_ble_eq_true rfl) (by decide) rfl rfl rfl ?_
    refine r_if_eq X 43 rfl rfl (fun c8 => ?_) (fun c8 => ?_)
    · rw [if_pos c8] at h
      refine go_s 1 X (pc2 := 44) (st2 := [.int 0]) rfl ?_
      cases h
      exact r_zret X (ty := .boolean) rfl rfl rfl ⟨rfl, rfl⟩ (by decide) (by decide)
    · rw [if_neg c8] at h
      refine go_s 3 X (pc2 := 36) (st2 := [.int 1, .int (RVTk w3)]) rfl ?_
      refine r_icmp_ne X 43 rfl rfl (fun c9 => ?_) (fun c9 => ?_)
      · rw [if_neg c9] at h
        refine go_s 1 X (pc2 := 44) (st2 := [.int 0]) rfl ?_
        cases h
        exact r_zret X (ty := .boolean) rfl rfl rfl ⟨rfl, rfl⟩ (by decide) (by decide)
      · rw [if_pos c9] at h
        refine go_s 2 X (pc2 := 44) (st2 := [.int 1]) rfl ?_
        cases h
        exact r_zret X (ty := .boolean) rfl rfl rfl ⟨rfl, rfl⟩ (by decide) (by decide)
  · rw [if_neg c4] at h
    refine go_s 2 X (pc2 := 16) (st2 := [.int (RVTk w3)]) rfl ?_
    refine r_if_eq X 24 rfl rfl (fun c10 => ?_) (fun c10 => ?_)
    · rw [if_pos c10] at h
      refine go_s 1 X (pc2 := 25) (st2 := [.ref 0]) rfl ?_
      obtain ⟨r12, hq11, h⟩ := obind_inv h
      refine q_callV X [0, 1] [] (AH2 := [.inr (4, [.ref 1, .int (RVLn w3), .int (RVEn w3), .int (RVNx w3), .int (RVTk w3), .int (RVAt w3), .long (RVWd w3), .int (RVVa w3), .int (RVEk w3), .int (RVEa w3)]), .inl (0, 600, .inl (RVTx w3))]) (st2 := [.int r12]) (c_X4_isValid _ _ hq11) ⟨rfl, rfl⟩ rfl k_X4_isValid l_X4_63 rfl rfl rfl rfl rfl (fit_of hR (by decide) (by decide) (by decide) (by decide)) (Nat.le_of_ble_eq_true rfl) (by decide) rfl rfl rfl ?_
      refine r_if_eq X 43 rfl rfl (fun c14 => ?_) (fun c14 => ?_)
      · rw [if_pos c14] at h
        refine go_s 1 X (pc2 := 44) (st2 := [.int 0]) rfl ?_
        cases h
        exact r_zret X (ty := .boolean) rfl rfl rfl ⟨rfl, rfl⟩ (by decide) (by decide)
      · rw [if_neg c14] at h
        refine go_s 3 X (pc2 := 36) (st2 := [.int 1, .int (RVTk w3)]) rfl ?_
        refine r_icmp_ne X 43 rfl rfl (fun c15 => ?_) (fun c15 => ?_)
        · rw [if_neg c15] at h
          refine go_s 1 X (pc2 := 44) (st2 := [.int 0]) rfl ?_
          cases h
          exact r_zret X (ty := .boolean) rfl rfl rfl ⟨rfl, rfl⟩ (by decide) (by decide)
        · rw [if_pos c15] at h
          refine go_s 2 X (pc2 := 44) (st2 := [.int 1]) rfl ?_
          cases h
          exact r_zret X (ty := .boolean) rfl rfl rfl ⟨rfl, rfl⟩ (by decide) (by decide)
    · rw [if_neg c10] at h
      refine go_s 2 X (pc2 := 21) (st2 := [.int 1, .ref 0]) rfl ?_
      obtain ⟨r17, w18, hq16, h⟩ := bnd2_inv h
      refine q_callV X [0, 1] [] (AH2 := [.inr (4, [.ref 1, .int (RVLn w18), .int (RVEn w18), .int (RVNx w18), .int (RVTk w18), .int (RVAt w18), .long (RVWd w18), .int (RVVa w18), .int (RVEk w18), .int (RVEa w18)]), .inl (0, 600, .inl (RVTx w18))]) (st2 := []) (c_X4_fail _ _ _ _ hq16) ⟨rfl, rfl⟩ rfl k_X4_fail l_X4_60 rfl rfl rfl rfl rfl (fit_of hR (by decide) (by decide) (by decide) (by decide)) (Nat.le_of_ble_eq_true rfl) (by decide) rfl rfl rfl ?_
      refine go_s 1 X (pc2 := 25) (st2 := [.ref 0]) rfl ?_
      obtain ⟨r20, hq19, h⟩ := obind_inv h
      refine q_callV X [0, 1] [] (AH2 := [.inr (4, [.ref 1, .int (RVLn w18), .int (RVEn w18), .int (RVNx w18), .int (RVTk w18), .int (RVAt w18), .long (RVWd w18), .int (RVVa w18), .int (RVEk w18), .int (RVEa w18)]), .inl (0, 600, .inl (RVTx w18))]) (st2 := [.int r20]) (c_X4_isValid _ _ hq19) ⟨rfl, rfl⟩ rfl k_X4_isValid l_X4_63 rfl rfl rfl rfl rfl (fit_of hR (by decide) (by decide) (by decide) (by decide)) (Nat.le_of_ble_eq_true rfl) (by decide) rfl rfl rfl ?_
      refine r_if_eq X 43 rfl rfl (fun c22 => ?_) (fun c22 => ?_)
      · rw [if_pos c22] at h
        refine go_s 1 X (pc2 := 44) (st2 := [.int 0]) rfl ?_
        cases h
        exact r_zret X (ty := .boolean) rfl rfl rfl ⟨rfl, rfl⟩ (by decide) (by decide)
      · rw [if_neg c22] at h
        refine go_s 3 X (pc2 := 36) (st2 := [.int 1, .int (RVTk w18)]) rfl ?_
        refine r_icmp_ne X 43 rfl rfl (fun c23 => ?_) (fun c23 => ?_)
        · rw [if_neg c23] at h
          refine go_s 1 X (pc2 := 44) (st2 := [.int 0]) rfl ?_
          cases h
          exact r_zret X (ty := .boolean) rfl rfl rfl ⟨rfl, rfl⟩ (by decide) (by decide)
        · rw [if_pos c23] at h
          refine go_s 2 X (pc2 := 44) (st2 := [.int 1]) rfl ?_
          cases h
          exact r_zret X (ty := .boolean) rfl rfl rfl ⟨rfl, rfl⟩ (by decide) (by decide)
set_option maxHeartbeats 6000000 in
set_option maxRecDepth 20000 in
theorem c_X6_addQueue (v : UV) (a : Int64) (b : Int32) (r : Unit) (w : UV) (h : f_X6_addQueue v a b = some (r, w)) : Sem z_X6_addQueue 1 0 0 [.ref 0, .long a, .int b] (WU v) (PST (.inl none) (WU w)) := by
  refine Sem.of zo_X6_addQueue (by decide +kernel) (Nat.le_of_ble_eq_true rfl) fun κ X hE hR hN => ?_
  unfold f_X6_addQueue at h
  refine AW.eq (pc' := 0) (ls' := [some (.ref 0), some (.long a), none, some (.int b), none]) (st' := []) (AH' := [.inr (6, [.ref 1, .ref 3, .ref 5]), .inr (2, [.ref 2, .int (NVCt (UVQs v))]), .inl (1, 8, .inr (.inl (NVPk (UVQs v)))), .inr (2, [.ref 4, .int (NVCt (UVOs v))]), .inl (1, 8, .inr (.inl (NVPk (UVOs v)))), .inl (0, 6, .inl (UVSp v))]) ?_ rfl rfl rfl rfl
  refine go_l 5 X (pc2 := 11) (ls2 := [some (.ref 0), some (.long a), none, some (.int b), some (.int (NVCt (UVQs v)))]) (st2 := [.int (NVCt (UVQs v))]) rfl ?_
  refine r_if_lt X 37 rfl rfl (fun c1 => ?_) (fun c1 => ?_)
  · rw [if_pos c1] at h
    cases h
    exact r_vret X rfl rfl ⟨rfl, rfl⟩ (by decide) (by decide)
  · rw [if_neg c1] at h
    refine go_s 2 X (pc2 := 18) (st2 := [.int 6, .int (NVCt (UVQs v))]) rfl ?_
    refine r_icmp_ge X 37 rfl rfl (fun c2 => ?_) (fun c2 => ?_)
    · rw [if_pos c2] at h
      cases h
      exact r_vret X rfl rfl ⟨rfl, rfl⟩ (by decide) (by decide)
    · rw [if_neg c2] at h
      refine go_s 4 X (pc2 := 28) (st2 := [.int b, .int (NVCt (UVQs v)), .ref 5]) rfl ?_
      by_cases b3 : oob (NVCt (UVQs v)) 6
      · rw [if_pos b3] at h; cases h
      rw [if_neg b3] at h
      refine r_iast X rfl rfl b3 ?_
      refine go_s 3 X (pc2 := 34) (st2 := [.long a, .ref 1]) rfl ?_
      obtain ⟨r5, w6, hq4, h⟩ := bnd2_inv h
      refine q_callV X [1, 2] [] (AH2 := [.inr (6, [.ref 1, .ref 3, .ref 5]), .inr (2, [.ref 2, .int (NVCt w6)]), .inl (1, 8, .inr (.inl (NVPk w6))), .inr (2, [.ref 4, .int (NVCt (UVOs v))]), .inl (1, 8, .inr (.inl (NVPk (UVOs v)))), .inl (0, 6, .inl (upd (UVSp v) (Int32.toNatClampNeg (NVCt (UVQs v))) b))]) (st2 := []) (c_X2_add _ _ _ _ hq4) ⟨rfl, rfl⟩ rfl k_X2_add l_X6_29 rfl rfl rfl rfl rfl (fit_of hR (by decide) (by decide) (by decide) (by decide)) (Nat.le_of_ble_eq_true rfl) (by decide) rfl rfl rfl ?_
      cases h
      exact r_vret X rfl rfl ⟨rfl, rfl⟩ (by decide) (by decide)
set_option maxHeartbeats 6000000 in
set_option maxRecDepth 20000 in
theorem c_X6_clear (v : UV) (r : Unit) (w : UV) (h : f_X6_clear v = some (r, w)) : Sem z_X6_clear 0 0 0 [.ref 0] (WU v) (PST (.inl none) (WU w)) := by
  refine Sem.of zo_X6_clear (by decide +kernel) (Nat.le_of_ble_eq_true rfl) fun κ X hE hR hN => ?_
  unfold f_X6_clear at h
  refine AW.eq (pc' := 0) (ls' := [some (.ref 0)]) (st' := []) (AH' := [.inr (6, [.ref 1, .ref 3, .ref 5]), .inr (2, [.ref 2, .int (NVCt (UVQs v))]), .inl (1, 8, .inr (.inl (NVPk (UVQs v)))), .inr (2, [.ref 4, .int (NVCt (UVOs v))]), .inl (1, 8, .inr (.inl (NVPk (UVOs v)))), .inl (0, 6, .inl (UVSp v))]) ?_ rfl rfl rfl rfl
  refine go 8 X (pc2 := 16) (ls2 := [some (.ref 0)]) (st2 := []) (AH2 := [.inr (6, [.ref 1, .ref 3, .ref 5]), .inr (2, [.ref 2, .int 0]), .inl (1, 8, .inr (.inl (NVPk (UVQs v)))), .inr (2, [.ref 4, .int 0]), .inl (1, 8, .inr (.inl (NVPk (UVOs v)))), .inl (0, 6, .inl (UVSp v))]) rfl ?_
  cases h
  exact r_vret X rfl rfl ⟨rfl, rfl⟩ (by decide) (by decide)
set_option maxHeartbeats 6000000 in
set_option maxRecDepth 20000 in
theorem c_X6_minutes (v : UV) (a : Int32) (b : Int32) (r : Int32) (h : f_X6_minutes v a b = some r) : Sem z_X6_minutes 0 0 0 [.ref 0, .int a, .int b] (WU v) (PST (.inl (some (.int r))) (WU v)) := by
  refine Sem.of zo_X6_minutes (by decide +kernel) (Nat.le_of_ble_eq_true rfl) fun κ X hE hR hN => ?_
  unfold f_X6_minutes at h
  refine AW.eq (pc' := 0) (ls' := [some (.ref 0), some (.int a), some (.int b), none]) (st' := []) (AH' := [.inr (6, [.ref 1, .ref 3, .ref 5]), .inr (2, [.ref 2, .int (NVCt (UVQs v))]), .inl (1, 8, .inr (.inl (NVPk (UVQs v)))), .inr (2, [.ref 4, .int (NVCt (UVOs v))]), .inl (1, 8, .inr (.inl (NVPk (UVOs v)))), .inl (0, 6, .inl (UVSp v))]) ?_ rfl rfl rfl rfl
  refine go_s 1 X (pc2 := 1) (st2 := [.int a]) rfl ?_
  refine r_if_lt X 19 rfl rfl (fun c1 => ?_) (fun c1 => ?_)
  · rw [if_pos c1] at h
    refine go_l 3 X (pc2 := 22) (ls2 := [some (.ref 0), some (.int a), some (.int b), some (.int 0)]) (st2 := [.int 0]) rfl ?_
    refine r_if_le X 35 rfl rfl (fun c2 => ?_) (fun c2 => ?_)
    · refine go_s 1 X (pc2 := 36) (st2 := [.int 0]) rfl ?_
      cases h
      exact r_iret X rfl rfl ⟨rfl, rfl⟩ (by decide) (by decide)
    · exact absurd c2 (by decide)
  · rw [if_neg c1] at h
    refine go_s 2 X (pc2 := 7) (st2 := [.int 6, .int a]) rfl ?_
    refine r_icmp_ge X 19 rfl rfl (fun c3 => ?_) (fun c3 => ?_)
    · rw [if_pos c3] at h
      refine go_l 3 X (pc2 := 22) (ls2 := [some (.ref 0), some (.int a), some (.int b), some (.int 0)]) (st2 := [.int 0]) rfl ?_
      refine r_if_le X 35 rfl rfl (fun c4 => ?_) (fun c4 => ?_)
      · refine go_s 1 X (pc2 := 36) (st2 := [.int 0]) rfl ?_
        cases h
        exact r_iret X rfl rfl ⟨rfl, rfl⟩ (by decide) (by decide)
      · exact absurd c4 (by decide)
    · rw [if_neg c3] at h
      refine go_s 3 X (pc2 := 15) (st2 := [.int a, .ref 5]) rfl ?_
      by_cases b5 : oob a 6
      · rw [if_pos b5] at h; cases h
      rw [if_neg b5] at h
      refine r_iald X rfl rfl b5 ?_
      refine go_l 3 X (pc2 := 22) (ls2 := [some (.ref 0), some (.int a), some (.int b), some (.int ((UVSp v) (Int32.toNatClampNeg a)))]) (st2 := [.int ((UVSp v) (Int32.toNatClampNeg a))]) rfl ?_
      refine r_if_le X 35 rfl rfl (fun c6 => ?_) (fun c6 => ?_)
      · rw [if_pos c6] at h
        refine go_s 1 X (pc2 := 36) (st2 := [.int 0]) rfl ?_
        cases h
        exact r_iret X rfl rfl ⟨rfl, rfl⟩ (by decide) (by decide)
      · rw [if_neg c6] at h
        refine go_s 6 X (pc2 := 31) (st2 := [.int ((UVSp v) (Int32.toNatClampNeg a)), .int ((b + ((UVSp v) (Int32.toNatClampNeg a))) - 1)]) rfl ?_
        by_cases b7 : (((UVSp v) (Int32.toNatClampNeg a)) : Int32) = 0
        · rw [if_pos b7] at h; cases h
        rw [if_neg b7] at h
        refine r_idiv X rfl b7 ?_
        refine go_s 1 X (pc2 := 36) (st2 := [.int (((b + ((UVSp v) (Int32.toNatClampNeg a))) - 1) / ((UVSp v) (Int32.toNatClampNeg a)))]) rfl ?_
        cases h
        exact r_iret X rfl rfl ⟨rfl, rfl⟩ (by decide) (by decide)
set_option maxHeartbeats 6000000 in
set_option maxRecDepth 20000 in
theorem c_X7_isFull (v : SV) (r : Int32) (h : f_X7_isFull v = some r) : Sem z_X7_isFull 0 0 0 [.ref 0] (WS v) (PST (.inl (some (.int r))) (WS v)) := by
  refine Sem.of zo_X7_isFull (by decide +kernel) (Nat.le_of_ble_eq_true rfl) fun κ X hE hR hN => ?_
  unfold f_X7_isFull at h
  refine AW.eq (pc' := 0) (ls' := [some (.ref 0)]) (st' := []) (AH' := [.inr (7, [.ref 1, .int (SVJc v), .ref 8, .ref 9, .ref 10, .ref 11, .ref 12, .ref 13, .ref 14]), .inr (0, [.ref 2, .ref 3, .ref 4, .ref 5, .ref 6, .int (HVCm (SVH v)), .int (HVSw (SVH v)), .ref 7]), .inl (0, 40, .inl (HVPr (SVH v))), .inl (0, 40, .inl (HVLf (SVH v))), .inl (0, 40, .inl (HVRt (SVH v))), .inl (0, 40, .inl (HVUp (SVH v))), .inl (0, 40, .inl (HVRk (SVH v))), .inl (0, 40, .inl (HVPa (SVH v))), .inl (0, 40, .inl (SVOw v)), .inl (0, 40, .inl (SVPg v)), .inl (0, 40, .inl (SVFt v)), .inl (0, 40, .inl (SVQu v)), .inl (0, 6, .inl (SVRo v)), .inl (0, 6, .inl (SVPd v)), .inl (2, 6, .inl (SVPs v))]) ?_ rfl rfl rfl rfl
  refine go_s 3 X (pc2 := 6) (st2 := [.int 40, .int (SVJc v)]) rfl ?_
  refine r_icmp_lt X 13 rfl rfl (fun c1 => ?_) (fun c1 => ?_)
  · rw [if_pos c1] at h
    refine go_s 1 X (pc2 := 14) (st2 := [.int 0]) rfl ?_
    cases h
    exact r_zret X (ty := .boolean) rfl rfl rfl ⟨rfl, rfl⟩ (by decide) (by decide)
  · rw [if_neg c1] at h
    refine go_s 2 X (pc2 := 14) (st2 := [.int 1]) rfl ?_
    cases h
    exact r_zret X (ty := .boolean) rfl rfl rfl ⟨rfl, rfl⟩ (by decide) (by decide)
set_option maxHeartbeats 6000000 in
set_option maxRecDepth 20000 in
theorem c_X7_isQueue (a : Int32) (r : Int32) (h : f_X7_isQueue a = some r) : Sem z_X7_isQueue 0 0 0 [.int a] [] (PST (.inl (some (.int r))) []) := by
  refine Sem.of zo_X7_isQueue (by decide +kernel) (Nat.le_of_ble_eq_true rfl) fun κ X hE hR hN => ?_
  unfold f_X7_isQueue at h
  refine AW.eq (pc' := 0) (ls' := [some (.int a)]) (st' := []) (AH' := []) ?_ rfl rfl rfl rfl
  refine go_s 1 X (pc2 := 1) (st2 := [.int a]) rfl ?_
  refine r_if_lt X 14 rfl rfl (fun c1 => ?_) (fun c1 => ?_)
  · rw [if_pos c1] at h
    refine go_s 1 X (pc2 := 15) (st2 := [.int 0]) rfl ?_
    cases h
    exact r_zret X (ty := .boolean) rfl rfl rfl ⟨rfl, rfl⟩ (by decide) (by decide)
  · rw [if_neg c1] at h
    refine go_s 2 X (pc2 := 7) (st2 := [.int 6, .int a]) rfl ?_
    refine r_icmp_ge X 14 rfl rfl (fun c2 => ?_) (fun c2 => ?_)
    · rw [if_pos c2] at h
      refine go_s 1 X (pc2 := 15) (st2 := [.int 0]) rfl ?_
      cases h
      exact r_zret X (ty := .boolean) rfl rfl rfl ⟨rfl, rfl⟩ (by decide) (by decide)
    · rw [if_neg c2] at h
      refine go_s 2 X (pc2 := 15) (st2 := [.int 1]) rfl ?_
      cases h
      exact r_zret X (ty := .boolean) rfl rfl rfl ⟨rfl, rfl⟩ (by decide) (by decide)
