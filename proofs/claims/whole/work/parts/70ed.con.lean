/-! ===== 15ed: contracts, by program ===== -/
set_option maxHeartbeats 400000 in
set_option maxRecDepth 20000 in
theorem c_X9_execute (v : MV) (a : Int32) (r : Int32) (w : MV) (h : f_X9_execute v a = some (r, w)) : Sem z_X9_execute 57 0 0 [.ref 0, .int a] (WM v) (PST (.inl (some (.int r))) (WM w)) := by
  refine Sem.of zo_X9_execute (by decide +kernel) (Nat.le_of_ble_eq_true rfl) fun κ X hE hR hN => ?_
  unfold f_X9_execute at h
  refine AW.eq (pc' := 0) (ls' := [some (.ref 0), some (.int a), none, none, none]) (st' := []) (AH' := [.inr (9, [.ref 1, .ref 2, .ref 3, .ref 4, .int (MVPc v), .int (MVIs v), .int (MVTh v), .ref 5, .int (MVSl v), .ref 6, .int (MVLn v), .int (MVEc v), .int (MVEo v), .int (MVSa v), .int (MVEn v), .int (MVTk v), .int (MVVa v), .int (MVFa v), .int (MVFo v), .ref 7, .int (MVSc v), .ref 8, .ref 9, .int (MVOl v)]), .inl (0, 500, .inl (MVSt v)), .inl (0, 500, .inl (MVAs v)), .inl (0, 500, .inl (MVSv v)), .inl (0, 4000, .inl (MVPt v)), .inl (0, 6, .inl (MVSp v)), .inl (3, 600, .inl (MVBf v)), .inl (0, 150, .inl (MVSm v)), .inl (0, 40, .inl (MVOr v)), .inl (3, 240, .inl (MVOu v))]) ?_ rfl rfl rfl rfl
  refine go_l 9 X (pc2 := 11) (ls2 := [some (.ref 0), some (.int a), some (.int (5 * a)), none, none]) (st2 := [.int ((5 * a) + 1), .ref 7]) rfl ?_
  by_cases b1 : oob ((5 * a) + 1) 150
  · rw [if_pos b1] at h; cases h
  rw [if_neg b1] at h
  refine r_iald X rfl rfl b1 ?_
  refine go_l 6 X (pc2 := 20) (ls2 := [some (.ref 0), some (.int a), some (.int (5 * a)), some (.int ((MVSm v) (Int32.toNatClampNeg ((5 * a) + 1)))), none]) (st2 := [.int ((5 * a) + 2), .ref 7]) rfl ?_
  by_cases b2 : oob ((5 * a) + 2) 150
  · rw [if_pos b2] at h; cases h
  rw [if_neg b2] at h
  refine r_iald X rfl rfl b2 ?_
  refine go_l 4 X (pc2 := 28) (ls2 := [some (.ref 0), some (.int a), some (.int (5 * a)), some (.int ((MVSm v) (Int32.toNatClampNeg ((5 * a) + 1)))), some (.int ((MVSm v) (Int32.toNatClampNeg ((5 * a) + 2))))]) (st2 := [.int (5 * a), .ref 7]) rfl ?_
  by_cases b3 : oob (5 * a) 150
  · rw [if_pos b3] at h; cases h
  rw [if_neg b3] at h
  refine r_iald X rfl rfl b3 ?_
  by_cases c4 : ((MVSm v) (Int32.toNatClampNeg (5 * a))) = 0
  · rw [if_pos c4] at h
    refine r_tableIn X 72 rfl (by rw [c4]; decide) (by rw [c4]; decide) (by rw [c4]; rfl) (by decide) ?_
    refine go_s 3 X (pc2 := 77) (st2 := [.int 2, .ref 1]) rfl ?_
    by_cases b5 : oob 2 500
    · rw [if_pos b5] at h; cases h
    rw [if_neg b5] at h
    refine r_iald X rfl rfl b5 ?_
    refine go_s 1 X (pc2 := 80) (st2 := [.int 40, .int ((MVSt v) (Int32.toNatClampNeg 2))]) rfl ?_
    refine r_icmp_ge X 113 rfl rfl (fun c6 => ?_) (fun c6 => ?_)
    · rw [if_pos c6] at h
      refine go_s 1 X (pc2 := 114) (st2 := [.int 0]) rfl ?_
      cases h
      exact r_zret X (ty := .boolean) rfl rfl rfl ⟨rfl, rfl⟩ (by decide) (by decide)
    · rw [if_neg c6] at h
      refine go_s 8 X (pc2 := 94) (st2 := [.int ((5 * a) + 3), .ref 7, .int ((MVSm v) (Int32.toNatClampNeg ((5 * a) + 2))), .int ((MVSm v) (Int32.toNatClampNeg ((5 * a) + 1))), .ref 0]) rfl ?_
      by_cases b7 : oob ((5 * a) + 3) 150
      · rw [if_pos b7] at h; cases h
      rw [if_neg b7] at h
      refine r_iald X rfl rfl b7 ?_
      refine go_s 5 X (pc2 := 102) (st2 := [.int ((5 * a) + 4), .ref 7, .int ((MVSm v) (Int32.toNatClampNeg ((5 * a) + 3))), .int ((MVSm v) (Int32.toNatClampNeg ((5 * a) + 2))), .int ((MVSm v) (Int32.toNatClampNeg ((5 * a) + 1))), .ref 0]) rfl ?_
      by_cases b8 : oob ((5 * a) + 4) 150
      · rw [if_pos b8] at h; cases h
      rw [if_neg b8] at h
      refine r_iald X rfl rfl b8 ?_
      obtain ⟨r10, w11, hq9, h⟩ := bnd2_inv h
      refine q_callV X [0, 1, 2, 3, 4, 5, 6, 7, 8, 9] [] (AH2 := [.inr (9, [.ref 1, .ref 2, .ref 3, .ref 4, .int (MVPc w11), .int (MVIs w11), .int (MVTh w11), .ref 5, .int (MVSl w11), .ref 6, .int (MVLn w11), .int (MVEc w11), .int (MVEo w11), .int (MVSa w11), .int (MVEn w11), .int (MVTk w11), .int (MVVa w11), .int (MVFa w11), .int (MVFo w11), .ref 7, .int (MVSc w11), .ref 8, .ref 9, .int (MVOl w11)]), .inl (0, 500, .inl (MVSt w11)), .inl (0, 500, .inl (MVAs w11)), .inl (0, 500, .inl (MVSv w11)), .inl (0, 4000, .inl (MVPt w11)), .inl (0, 6, .inl (MVSp w11)), .inl (3, 600, .inl (MVBf w11)), .inl (0, 150, .inl (MVSm w11)), .inl (0, 40, .inl (MVOr w11)), .inl (3, 240, .inl (MVOu w11))]) (st2 := [.int r10]) (c_X9_addJob _ _ _ _ _ _ _ hq9) ⟨rfl, rfl⟩ rfl k_X9_addJob l_X9_60 rfl rfl rfl rfl rfl (fit_of hR (by decide) (by decide) (by decide) (by decide)) (Nat.le_of_ble_eq_true rfl) (by decide) rfl rfl rfl ?_
      refine r_if_lt X 113 rfl rfl (fun c12 => ?_) (fun c12 => ?_)
      · rw [if_pos c12] at h
        refine go_s 1 X (pc2 := 114) (st2 := [.int 0]) rfl ?_
        cases h
        exact r_zret X (ty := .boolean) rfl rfl rfl ⟨rfl, rfl⟩ (by decide) (by decide)
      · rw [if_neg c12] at h
        refine go_s 2 X (pc2 := 114) (st2 := [.int 1]) rfl ?_
        cases h
        exact r_zret X (ty := .boolean) rfl rfl rfl ⟨rfl, rfl⟩ (by decide) (by decide)
  rw [if_neg c4] at h
  by_cases c13 : ((MVSm v) (Int32.toNatClampNeg (5 * a))) = 1
  · rw [if_pos c13] at h
    refine r_tableIn X 115 rfl (by rw [c13]; decide) (by rw [c13]; decide) (by rw [c13]; rfl) (by decide) ?_
    refine go_s 2 X (pc2 := 117) (st2 := [.int ((MVSm v) (Int32.toNatClampNeg ((5 * a) + 1))), .ref 0]) rfl ?_
    obtain ⟨r15, hq14, h⟩ := obind_inv h
    refine q_callV X [0, 1, 2, 3, 4, 5, 6, 7, 8, 9] [] (AH2 := [.inr (9, [.ref 1, .ref 2, .ref 3, .ref 4, .int (MVPc v), .int (MVIs v), .int (MVTh v), .ref 5, .int (MVSl v), .ref 6, .int (MVLn v), .int (MVEc v), .int (MVEo v), .int (MVSa v), .int (MVEn v), .int (MVTk v), .int (MVVa v), .int (MVFa v), .int (MVFo v), .ref 7, .int (MVSc v), .ref 8, .ref 9, .int (MVOl v)]), .inl (0, 500, .inl (MVSt v)), .inl (0, 500, .inl (MVAs v)), .inl (0, 500, .inl (MVSv v)), .inl (0, 4000, .inl (MVPt v)), .inl (0, 6, .inl (MVSp v)), .inl (3, 600, .inl (MVBf v)), .inl (0, 150, .inl (MVSm v)), .inl (0, 40, .inl (MVOr v)), .inl (3, 240, .inl (MVOu v))]) (st2 := [.int r15]) (c_X9_obstacle _ _ _ hq14) ⟨rfl, rfl⟩ rfl k_X9_obstacle l_X9_299 rfl rfl rfl rfl rfl (fit_of hR (by decide) (by decide) (by decide) (by decide)) (Nat.le_of_ble_eq_true rfl) (by decide) rfl rfl rfl ?_
    refine r_if_ne X 135 rfl rfl (fun c17 => ?_) (fun c17 => ?_)
    · rw [if_neg c17] at h
      refine go_s 1 X (pc2 := 136) (st2 := [.int 0]) rfl ?_
      cases h
      exact r_zret X (ty := .boolean) rfl rfl rfl ⟨rfl, rfl⟩ (by decide) (by decide)
    · rw [if_pos c17] at h
      refine go_s 2 X (pc2 := 125) (st2 := [.int ((MVSm v) (Int32.toNatClampNeg ((5 * a) + 1))), .ref 0]) rfl ?_
      obtain ⟨r19, w20, hq18, h⟩ := bnd2_inv h
      refine q_callV X [0, 1, 2, 3, 4, 5, 6, 7, 8, 9] [] (AH2 := [.inr (9, [.ref 1, .ref 2, .ref 3, .ref 4, .int (MVPc w20), .int (MVIs w20), .int (MVTh w20), .ref 5, .int (MVSl w20), .ref 6, .int (MVLn w20), .int (MVEc w20), .int (MVEo w20), .int (MVSa w20), .int (MVEn w20), .int (MVTk w20), .int (MVVa w20), .int (MVFa w20), .int (MVFo w20), .ref 7, .int (MVSc w20), .ref 8, .ref 9, .int (MVOl w20)]), .inl (0, 500, .inl (MVSt w20)), .inl (0, 500, .inl (MVAs w20)), .inl (0, 500, .inl (MVSv w20)), .inl (0, 4000, .inl (MVPt w20)), .inl (0, 6, .inl (MVSp w20)), .inl (3, 600, .inl (MVBf w20)), .inl (0, 150, .inl (MVSm w20)), .inl (0, 40, .inl (MVOr w20)), .inl (3, 240, .inl (MVOu w20))]) (st2 := [.int r19]) (c_X9_printRoot _ _ _ _ hq18) ⟨rfl, rfl⟩ rfl k_X9_printRoot l_X9_302 rfl rfl rfl rfl rfl (fit_of hR (by decide) (by decide) (by decide) (by decide)) (Nat.le_of_ble_eq_true rfl) (by decide) rfl rfl rfl ?_
      refine r_if_lt X 135 rfl rfl (fun c21 => ?_) (fun c21 => ?_)
      · rw [if_pos c21] at h
        refine go_s 1 X (pc2 := 136) (st2 := [.int 0]) rfl ?_
        cases h
        exact r_zret X (ty := .boolean) rfl rfl rfl ⟨rfl, rfl⟩ (by decide) (by decide)
      · rw [if_neg c21] at h
        refine go_s 2 X (pc2 := 136) (st2 := [.int 1]) rfl ?_
        cases h
        exact r_zret X (ty := .boolean) rfl rfl rfl ⟨rfl, rfl⟩ (by decide) (by decide)
  rw [if_neg c13] at h
  by_cases c22 : ((MVSm v) (Int32.toNatClampNeg (5 * a))) = 2
  · rw [if_pos c22] at h
    refine r_tableIn X 137 rfl (by rw [c22]; decide) (by rw [c22]; decide) (by rw [c22]; rfl) (by decide) ?_
    refine go_s 2 X (pc2 := 139) (st2 := [.int ((MVSm v) (Int32.toNatClampNeg ((5 * a) + 1))), .ref 0]) rfl ?_
    obtain ⟨r24, hq23, h⟩ := obind_inv h
    refine q_callV X [0, 1, 2, 3, 4, 5, 6, 7, 8, 9] [] (AH2 := [.inr (9, [.ref 1, .ref 2, .ref 3, .ref 4, .int (MVPc v), .int (MVIs v), .int (MVTh v), .ref 5, .int (MVSl v), .ref 6, .int (MVLn v), .int (MVEc v), .int (MVEo v), .int (MVSa v), .int (MVEn v), .int (MVTk v), .int (MVVa v), .int (MVFa v), .int (MVFo v), .ref 7, .int (MVSc v), .ref 8, .ref 9, .int (MVOl v)]), .inl (0, 500, .inl (MVSt v)), .inl (0, 500, .inl (MVAs v)), .inl (0, 500, .inl (MVSv v)), .inl (0, 4000, .inl (MVPt v)), .inl (0, 6, .inl (MVSp v)), .inl (3, 600, .inl (MVBf v)), .inl (0, 150, .inl (MVSm v)), .inl (0, 40, .inl (MVOr v)), .inl (3, 240, .inl (MVOu v))]) (st2 := [.int r24]) (c_X9_isWaitingJob _ _ _ hq23) ⟨rfl, rfl⟩ rfl k_X9_isWaitingJob l_X9_305 rfl rfl rfl rfl rfl (fit_of hR (by decide) (by decide) (by decide) (by decide)) (Nat.le_of_ble_eq_true rfl) (by decide) rfl rfl rfl ?_
    refine r_if_eq X 157 rfl rfl (fun c26 => ?_) (fun c26 => ?_)
    · rw [if_pos c26] at h
      refine go_s 1 X (pc2 := 158) (st2 := [.int 0]) rfl ?_
      cases h
      exact r_zret X (ty := .boolean) rfl rfl rfl ⟨rfl, rfl⟩ (by decide) (by decide)
    · rw [if_neg c26] at h
      refine go_s 2 X (pc2 := 147) (st2 := [.int ((MVSm v) (Int32.toNatClampNeg ((5 * a) + 1))), .ref 0]) rfl ?_
      obtain ⟨r28, w29, hq27, h⟩ := bnd2_inv h
      refine q_callV X [0, 1, 2, 3, 4, 5, 6, 7, 8, 9] [] (AH2 := [.inr (9, [.ref 1, .ref 2, .ref 3, .ref 4, .int (MVPc w29), .int (MVIs w29), .int (MVTh w29), .ref 5, .int (MVSl w29), .ref 6, .int (MVLn w29), .int (MVEc w29), .int (MVEo w29), .int (MVSa w29), .int (MVEn w29), .int (MVTk w29), .int (MVVa w29), .int (MVFa w29), .int (MVFo w29), .ref 7, .int (MVSc w29), .ref 8, .ref 9, .int (MVOl w29)]), .inl (0, 500, .inl (MVSt w29)), .inl (0, 500, .inl (MVAs w29)), .inl (0, 500, .inl (MVSv w29)), .inl (0, 4000, .inl (MVPt w29)), .inl (0, 6, .inl (MVSp w29)), .inl (3, 600, .inl (MVBf w29)), .inl (0, 150, .inl (MVSm w29)), .inl (0, 40, .inl (MVOr w29)), .inl (3, 240, .inl (MVOu w29))]) (st2 := [.int r28]) (c_X9_cancelJob _ _ _ _ hq27) ⟨rfl, rfl⟩ rfl k_X9_cancelJob l_X9_308 rfl rfl rfl rfl rfl (fit_of hR (by decide) (by decide) (by decide) (by decide)) (Nat.le_of_ble_eq_true rfl) (by decide) rfl rfl rfl ?_
      refine r_if_lt X 157 rfl rfl (fun c30 => ?_) (fun c30 => ?_)
      · rw [if_pos c30] at h
        refine go_s 1 X (pc2 := 158) (st2 := [.int 0]) rfl ?_
        cases h
        exact r_zret X (ty := .boolean) rfl rfl rfl ⟨rfl, rfl⟩ (by decide) (by decide)
      · rw [if_neg c30] at h
        refine go_s 2 X (pc2 := 158) (st2 := [.int 1]) rfl ?_
        cases h
        exact r_zret X (ty := .boolean) rfl rfl rfl ⟨rfl, rfl⟩ (by decide) (by decide)
  rw [if_neg c22] at h
  by_cases c31 : ((MVSm v) (Int32.toNatClampNeg (5 * a))) = 3
  · rw [if_pos c31] at h
    refine r_tableIn X 159 rfl (by rw [c31]; decide) (by rw [c31]; decide) (by rw [c31]; rfl) (by decide) ?_
    refine go_s 2 X (pc2 := 161) (st2 := [.int ((MVSm v) (Int32.toNatClampNeg ((5 * a) + 1))), .ref 0]) rfl ?_
    obtain ⟨r33, hq32, h⟩ := obind_inv h
    refine q_callV X [0, 1, 2, 3, 4, 5, 6, 7, 8, 9] [] (AH2 := [.inr (9, [.ref 1, .ref 2, .ref 3, .ref 4, .int (MVPc v), .int (MVIs v), .int (MVTh v), .ref 5, .int (MVSl v), .ref 6, .int (MVLn v), .int (MVEc v), .int (MVEo v), .int (MVSa v), .int (MVEn v), .int (MVTk v), .int (MVVa v), .int (MVFa v), .int (MVFo v), .ref 7, .int (MVSc v), .ref 8, .ref 9, .int (MVOl v)]), .inl (0, 500, .inl (MVSt v)), .inl (0, 500, .inl (MVAs v)), .inl (0, 500, .inl (MVSv v)), .inl (0, 4000, .inl (MVPt v)), .inl (0, 6, .inl (MVSp v)), .inl (3, 600, .inl (MVBf v)), .inl (0, 150, .inl (MVSm v)), .inl (0, 40, .inl (MVOr v)), .inl (3, 240, .inl (MVOu v))]) (st2 := [.int r33]) (c_X9_isWaitingJob _ _ _ hq32) ⟨rfl, rfl⟩ rfl k_X9_isWaitingJob l_X9_305 rfl rfl rfl rfl rfl (fit_of hR (by decide) (by decide) (by decide) (by decide)) (Nat.le_of_ble_eq_true rfl) (by decide) rfl rfl rfl ?_
    refine r_if_eq X 181 rfl rfl (fun c35 => ?_) (fun c35 => ?_)
    · rw [if_pos c35] at h
      refine go_s 1 X (pc2 := 182) (st2 := [.int 0]) rfl ?_
      cases h
      exact r_zret X (ty := .boolean) rfl rfl rfl ⟨rfl, rfl⟩ (by decide) (by decide)
    · rw [if_neg c35] at h
      refine go_s 3 X (pc2 := 171) (st2 := [.int ((MVSm v) (Int32.toNatClampNeg ((5 * a) + 2))), .int ((MVSm v) (Int32.toNatClampNeg ((5 * a) + 1))), .ref 0]) rfl ?_
      obtain ⟨r37, w38, hq36, h⟩ := bnd2_inv h
      refine q_callV X [0, 1, 2, 3, 4, 5, 6, 7, 8, 9] [] (AH2 := [.inr (9, [.ref 1, .ref 2, .ref 3, .ref 4, .int (MVPc w38), .int (MVIs w38), .int (MVTh w38), .ref 5, .int (MVSl w38), .ref 6, .int (MVLn w38), .int (MVEc w38), .int (MVEo w38), .int (MVSa w38), .int (MVEn w38), .int (MVTk w38), .int (MVVa w38), .int (MVFa w38), .int (MVFo w38), .ref 7, .int (MVSc w38), .ref 8, .ref 9, .int (MVOl w38)]), .inl (0, 500, .inl (MVSt w38)), .inl (0, 500, .inl (MVAs w38)), .inl (0, 500, .inl (MVSv w38)), .inl (0, 4000, .inl (MVPt w38)), .inl (0, 6, .inl (MVSp w38)), .inl (3, 600, .inl (MVBf w38)), .inl (0, 150, .inl (MVSm w38)), .inl (0, 40, .inl (MVOr w38)), .inl (3, 240, .inl (MVOu w38))]) (st2 := [.int r37]) (c_X9_setPriority _ _ _ _ _ hq36) ⟨rfl, rfl⟩ rfl k_X9_setPriority l_X9_311 rfl rfl rfl rfl rfl (fit_of hR (by decide) (by decide) (by decide) (by decide)) (Nat.le_of_ble_eq_true rfl) (by decide) rfl rfl rfl ?_
      refine r_if_lt X 181 rfl rfl (fun c39 => ?_) (fun c39 => ?_)
      · rw [if_pos c39] at h
        refine go_s 1 X (pc2 := 182) (st2 := [.int 0]) rfl ?_
        cases h
        exact r_zret X (ty := .boolean) rfl rfl rfl ⟨rfl, rfl⟩ (by decide) (by decide)
      · rw [if_neg c39] at h
        refine go_s 2 X (pc2 := 182) (st2 := [.int 1]) rfl ?_
        cases h
        exact r_zret X (ty := .boolean) rfl rfl rfl ⟨rfl, rfl⟩ (by decide) (by decide)
  rw [if_neg c31] at h
  by_cases c40 : ((MVSm v) (Int32.toNatClampNeg (5 * a))) = 4
  · rw [if_pos c40] at h
    refine r_tableIn X 183 rfl (by rw [c40]; decide) (by rw [c40]; decide) (by rw [c40]; rfl) (by decide) ?_
    refine go_s 2 X (pc2 := 185) (st2 := [.int ((MVSm v) (Int32.toNatClampNeg ((5 * a) + 1))), .ref 0]) rfl ?_
    obtain ⟨r42, hq41, h⟩ := obind_inv h
    refine q_callV X [0, 1, 2, 3, 4, 5, 6, 7, 8, 9] [] (AH2 := [.inr (9, [.ref 1, .ref 2, .ref 3, .ref 4, .int (MVPc v), .int (MVIs v), .int (MVTh v), .ref 5, .int (MVSl v), .ref 6, .int (MVLn v), .int (MVEc v), .int (MVEo v), .int (MVSa v), .int (MVEn v), .int (MVTk v), .int (MVVa v), .int (MVFa v), .int (MVFo v), .ref 7, .int (MVSc v), .ref 8, .ref 9, .int (MVOl v)]), .inl (0, 500, .inl (MVSt v)), .inl (0, 500, .inl (MVAs v)), .inl (0, 500, .inl (MVSv v)), .inl (0, 4000, .inl (MVPt v)), .inl (0, 6, .inl (MVSp v)), .inl (3, 600, .inl (MVBf v)), .inl (0, 150, .inl (MVSm v)), .inl (0, 40, .inl (MVOr v)), .inl (3, 240, .inl (MVOu v))]) (st2 := [.int r42]) (c_X9_isWaitingJob _ _ _ hq41) ⟨rfl, rfl⟩ rfl k_X9_isWaitingJob l_X9_305 rfl rfl rfl rfl rfl (fit_of hR (by decide) (by decide) (by decide) (by decide)) (Nat.le_of_ble_eq_true rfl) (by decide) rfl rfl rfl ?_
    refine r_if_eq X 215 rfl rfl (fun c44 => ?_) (fun c44 => ?_)
    · rw [if_pos c44] at h
      refine go_s 1 X (pc2 := 216) (st2 := [.int 0]) rfl ?_
      cases h
      exact r_zret X (ty := .boolean) rfl rfl rfl ⟨rfl, rfl⟩ (by decide) (by decide)
    · rw [if_neg c44] at h
      refine go_s 3 X (pc2 := 195) (st2 := [.int ((MVSm v) (Int32.toNatClampNeg ((5 * a) + 2))), .int ((MVSm v) (Int32.toNatClampNeg ((5 * a) + 1))), .ref 0]) rfl ?_
      obtain ⟨r46, hq45, h⟩ := obind_inv h
      refine q_callV X [0, 1, 2, 3, 4, 5, 6, 7, 8, 9] [] (AH2 := [.inr (9, [.ref 1, .ref 2, .ref 3, .ref 4, .int (MVPc v), .int (MVIs v), .int (MVTh v), .ref 5, .int (MVSl v), .ref 6, .int (MVLn v), .int (MVEc v), .int (MVEo v), .int (MVSa v), .int (MVEn v), .int (MVTk v), .int (MVVa v), .int (MVFa v), .int (MVFo v), .ref 7, .int (MVSc v), .ref 8, .ref 9, .int (MVOl v)]), .inl (0, 500, .inl (MVSt v)), .inl (0, 500, .inl (MVAs v)), .inl (0, 500, .inl (MVSv v)), .inl (0, 4000, .inl (MVPt v)), .inl (0, 6, .inl (MVSp v)), .inl (3, 600, .inl (MVBf v)), .inl (0, 150, .inl (MVSm v)), .inl (0, 40, .inl (MVOr v)), .inl (3, 240, .inl (MVOu v))]) (st2 := [.int r46]) (c_X9_isIn _ _ _ _ hq45) ⟨rfl, rfl⟩ rfl k_X9_isIn l_X9_133 rfl rfl rfl rfl rfl (fit_of hR (by decide) (by decide) (by decide) (by decide)) (Nat.le_of_ble_eq_true rfl) (by decide) rfl rfl rfl ?_
      refine r_if_ne X 215 rfl rfl (fun c48 => ?_) (fun c48 => ?_)
      · rw [if_neg c48] at h
        refine go_s 1 X (pc2 := 216) (st2 := [.int 0]) rfl ?_
        cases h
        exact r_zret X (ty := .boolean) rfl rfl rfl ⟨rfl, rfl⟩ (by decide) (by decide)
      · rw [if_pos c48] at h
        refine go_s 3 X (pc2 := 205) (st2 := [.int ((MVSm v) (Int32.toNatClampNeg ((5 * a) + 2))), .int ((MVSm v) (Int32.toNatClampNeg ((5 * a) + 1))), .ref 0]) rfl ?_
        obtain ⟨r50, w51, hq49, h⟩ := bnd2_inv h
        refine q_callV X [0, 1, 2, 3, 4, 5, 6, 7, 8, 9] [] (AH2 := [.inr (9, [.ref 1, .ref 2, .ref 3, .ref 4, .int (MVPc w51), .int (MVIs w51), .int (MVTh w51), .ref 5, .int (MVSl w51), .ref 6, .int (MVLn w51), .int (MVEc w51), .int (MVEo w51), .int (MVSa w51), .int (MVEn w51), .int (MVTk w51), .int (MVVa w51), .int (MVFa w51), .int (MVFo w51), .ref 7, .int (MVSc w51), .ref 8, .ref 9, .int (MVOl w51)]), .inl (0, 500, .inl (MVSt w51)), .inl (0, 500, .inl (MVAs w51)), .inl (0, 500, .inl (MVSv w51)), .inl (0, 4000, .inl (MVPt w51)), .inl (0, 6, .inl (MVSp w51)), .inl (3, 600, .inl (MVBf w51)), .inl (0, 150, .inl (MVSm w51)), .inl (0, 40, .inl (MVOr w51)), .inl (3, 240, .inl (MVOu w51))]) (st2 := [.int r50]) (c_X9_moveTo _ _ _ _ _ hq49) ⟨rfl, rfl⟩ rfl k_X9_moveTo l_X9_314 rfl rfl rfl rfl rfl (fit_of hR (by decide) (by decide) (by decide) (by decide)) (Nat.le_of_ble_eq_true rfl) (by decide) rfl rfl rfl ?_
        refine r_if_lt X 215 rfl rfl (fun c52 => ?_) (fun c52 => ?_)
        · rw [if_pos c52] at h
          refine go_s 1 X (pc2 := 216) (st2 := [.int 0]) rfl ?_
          cases h
          exact r_zret X (ty := .boolean) rfl rfl rfl ⟨rfl, rfl⟩ (by decide) (by decide)
        · rw [if_neg c52] at h
          refine go_s 2 X (pc2 := 216) (st2 := [.int 1]) rfl ?_
          cases h
          exact r_zret X (ty := .boolean) rfl rfl rfl ⟨rfl, rfl⟩ (by decide) (by decide)
  rw [if_neg c40] at h
  by_cases c53 : ((MVSm v) (Int32.toNatClampNeg (5 * a))) = 5
  · rw [if_pos c53] at h
    refine r_tableIn X 217 rfl (by rw [c53]; decide) (by rw [c53]; decide) (by rw [c53]; rfl) (by decide) ?_
    refine go_s 3 X (pc2 := 221) (st2 := [.int ((MVSm v) (Int32.toNatClampNeg ((5 * a) + 2))), .int ((MVSm v) (Int32.toNatClampNeg ((5 * a) + 1))), .ref 0]) rfl ?_
    obtain ⟨r55, w56, hq54, h⟩ := bnd2_inv h
    refine q_callV X [0, 1, 2, 3, 4, 5, 6, 7, 8, 9] [] (AH2 := [.inr (9, [.ref 1, .ref 2, .ref 3, .ref 4, .int (MVPc w56), .int (MVIs w56), .int (MVTh w56), .ref 5, .int (MVSl w56), .ref 6, .int (MVLn w56), .int (MVEc w56), .int (MVEo w56), .int (MVSa w56), .int (MVEn w56), .int (MVTk w56), .int (MVVa w56), .int (MVFa w56), .int (MVFo w56), .ref 7, .int (MVSc w56), .ref 8, .ref 9, .int (MVOl w56)]), .inl (0, 500, .inl (MVSt w56)), .inl (0, 500, .inl (MVAs w56)), .inl (0, 500, .inl (MVSv w56)), .inl (0, 4000, .inl (MVPt w56)), .inl (0, 6, .inl (MVSp w56)), .inl (3, 600, .inl (MVBf w56)), .inl (0, 150, .inl (MVSm w56)), .inl (0, 40, .inl (MVOr w56)), .inl (3, 240, .inl (MVOu w56))]) (st2 := [.int r55]) (c_X9_mergeInto _ _ _ _ _ hq54) ⟨rfl, rfl⟩ rfl k_X9_mergeInto l_X9_317 rfl rfl rfl rfl rfl (fit_of hR (by decide) (by decide) (by decide) (by decide)) (Nat.le_of_ble_eq_true rfl) (by decide) rfl rfl rfl ?_
    refine r_if_lt X 231 rfl rfl (fun c57 => ?_) (fun c57 => ?_)
    · rw [if_pos c57] at h
      refine go_s 1 X (pc2 := 232) (st2 := [.int 0]) rfl ?_
      cases h
      exact r_zret X (ty := .boolean) rfl rfl rfl ⟨rfl, rfl⟩ (by decide) (by decide)
    · rw [if_neg c57] at h
      refine go_s 2 X (pc2 := 232) (st2 := [.int 1]) rfl ?_
      cases h
      exact r_zret X (ty := .boolean) rfl rfl rfl ⟨rfl, rfl⟩ (by decide) (by decide)
  rw [if_neg c53] at h
  by_cases c58 : ((MVSm v) (Int32.toNatClampNeg (5 * a))) = 6
  · rw [if_pos c58] at h
    refine r_tableIn X 233 rfl (by rw [c58]; decide) (by rw [c58]; decide) (by rw [c58]; rfl) (by decide) ?_
    refine go_s 3 X (pc2 := 236) (st2 := [.int 1, .int ((MVSm v) (Int32.toNatClampNeg ((5 * a) + 1))), .ref 0]) rfl ?_
    obtain ⟨r60, w61, hq59, h⟩ := bnd2_inv h
    refine q_callV X [0, 1, 2, 3, 4, 5, 6, 7, 8, 9] [] (AH2 := [.inr (9, [.ref 1, .ref 2, .ref 3, .ref 4, .int (MVPc w61), .int (MVIs w61), .int (MVTh w61), .ref 5, .int (MVSl w61), .ref 6, .int (MVLn w61), .int (MVEc w61), .int (MVEo w61), .int (MVSa w61), .int (MVEn w61), .int (MVTk w61), .int (MVVa w61), .int (MVFa w61), .int (MVFo w61), .ref 7, .int (MVSc w61), .ref 8, .ref 9, .int (MVOl w61)]), .inl (0, 500, .inl (MVSt w61)), .inl (0, 500, .inl (MVAs w61)), .inl (0, 500, .inl (MVSv w61)), .inl (0, 4000, .inl (MVPt w61)), .inl (0, 6, .inl (MVSp w61)), .inl (3, 600, .inl (MVBf w61)), .inl (0, 150, .inl (MVSm w61)), .inl (0, 40, .inl (MVOr w61)), .inl (3, 240, .inl (MVOu w61))]) (st2 := [.int r60]) (c_X9_executePause _ _ _ _ _ hq59) ⟨rfl, rfl⟩ rfl k_X9_executePause l_X9_320 rfl rfl rfl rfl rfl (fit_of hR (by decide) (by decide) (by decide) (by decide)) (Nat.le_of_ble_eq_true rfl) (by decide) rfl rfl rfl ?_
    by_cases b62 : ¬ (r60 = 0 ∨ r60 = 1)
    · rw [if_pos b62] at h; cases h
    rw [if_neg b62] at h
    cases h
    exact r_zret X (ty := .boolean) rfl rfl (nar_b b62) ⟨rfl, rfl⟩ (by decide) (by decide)
  rw [if_neg c58] at h
  refine r_tableOut X 240 rfl (sw_out7 c4 c13 c22 c31 c40 c53 c58) (by decide) ?_
  refine go_s 3 X (pc2 := 243) (st2 := [.int 0, .int ((MVSm v) (Int32.toNatClampNeg ((5 * a) + 1))), .ref 0]) rfl ?_
  obtain ⟨r64, w65, hq63, h⟩ := bnd2_inv h
  refine q_callV X [0, 1, 2, 3, 4, 5, 6, 7, 8, 9] [] (AH2 := [.inr (9, [.ref 1, .ref 2, .ref 3, .ref 4, .int (MVPc w65), .int (MVIs w65), .int (MVTh w65), .ref 5, .int (MVSl w65), .ref 6, .int (MVLn w65), .int (MVEc w65), .int (MVEo w65), .int (MVSa w65), .int (MVEn w65), .int (MVTk w65), .int (MVVa w65), .int (MVFa w65), .int (MVFo w65), .ref 7, .int (MVSc w65), .ref 8, .ref 9, .int (MVOl w65)]), .inl (0, 500, .inl (MVSt w65)), .inl (0, 500, .inl (MVAs w65)), .inl (0, 500, .inl (MVSv w65)), .inl (0, 4000, .inl (MVPt w65)), .inl (0, 6, .inl (MVSp w65)), .inl (3, 600, .inl (MVBf w65)), .inl (0, 150, .inl (MVSm w65)), .inl (0, 40, .inl (MVOr w65)), .inl (3, 240, .inl (MVOu w65))]) (st2 := [.int r64]) (c_X9_executePause _ _ _ _ _ hq63) ⟨rfl, rfl⟩ rfl k_X9_executePause l_X9_320 rfl rfl rfl rfl rfl (fit_of hR (by decide) (by decide) (by decide) (by decide)) (Nat.le_of_ble_eq_true rfl) (by decide) rfl rfl rfl ?_
  by_cases b66 : ¬ (r64 = 0 ∨ r64 = 1)
  · rw [if_pos b66] at h; cases h
  rw [if_neg b66] at h
  cases h
  exact r_zret X (ty := .boolean) rfl rfl (nar_b b66) ⟨rfl, rfl⟩ (by decide) (by decide)
set_option maxHeartbeats 400000 in
set_option maxRecDepth 20000 in
theorem c_X9_expect (v : MV) (a : Int32) (b : Int32) (r : Unit) (w : MV) (h : f_X9_expect v a b = some (r, w)) : Sem z_X9_expect 0 0 0 [.ref 0, .int a, .int b] (WM v) (PST (.inl none) (WM w)) := by
  refine Sem.of zo_X9_expect (by decide +kernel) (Nat.le_of_ble_eq_true rfl) fun κ X hE hR hN => ?_
  unfold f_X9_expect at h
  refine AW.eq (pc' := 0) (ls' := [some (.ref 0), some (.int a), some (.int b)]) (st' := []) (AH' := [.inr (9, [.ref 1, .ref 2, .ref 3, .ref 4, .int (MVPc v), .int (MVIs v), .int (MVTh v), .ref 5, .int (MVSl v), .ref 6, .int (MVLn v), .int (MVEc v), .int (MVEo v), .int (MVSa v), .int (MVEn v), .int (MVTk v), .int (MVVa v), .int (MVFa v), .int (MVFo v), .ref 7, .int (MVSc v), .ref 8, .ref 9, .int (MVOl v)]), .inl (0, 500, .inl (MVSt v)), .inl (0, 500, .inl (MVAs v)), .inl (0, 500, .inl (MVSv v)), .inl (0, 4000, .inl (MVPt v)), .inl (0, 6, .inl (MVSp v)), .inl (3, 600, .inl (MVBf v)), .inl (0, 150, .inl (MVSm v)), .inl (0, 40, .inl (MVOr v)), .inl (3, 240, .inl (MVOu v))]) ?_ rfl rfl rfl rfl
  refine go_s 2 X (pc2 := 4) (st2 := [.int (MVFa v)]) rfl ?_
  refine r_if_ne X 24 rfl rfl (fun c1 => ?_) (fun c1 => ?_)
  · rw [if_neg c1] at h
    cases h
    exact r_vret X rfl rfl ⟨rfl, rfl⟩ (by decide) (by decide)
  · rw [if_pos c1] at h
    refine go_s 1 X (pc2 := 8) (st2 := [.int a]) rfl ?_
    refine r_if_ne X 24 rfl rfl (fun c2 => ?_) (fun c2 => ?_)
    · rw [if_neg c2] at h
      cases h
      exact r_vret X rfl rfl ⟨rfl, rfl⟩ (by decide) (by decide)
    · rw [if_pos c2] at h
      refine go 7 X (pc2 := 24) (ls2 := [some (.ref 0), some (.int a), some (.int b)]) (st2 := []) (AH2 := [.inr (9, [.ref 1, .ref 2, .ref 3, .ref 4, .int (MVPc v), .int (MVIs v), .int (MVTh v), .ref 5, .int (MVSl v), .ref 6, .int (MVLn v), .int (MVEc v), .int (MVEo v), .int (MVSa v), .int (MVEn v), .int (MVTk v), .int (MVVa v), .int b, .int (MVSa v), .ref 7, .int (MVSc v), .ref 8, .ref 9, .int (MVOl v)]), .inl (0, 500, .inl (MVSt v)), .inl (0, 500, .inl (MVAs v)), .inl (0, 500, .inl (MVSv v)), .inl (0, 4000, .inl (MVPt v)), .inl (0, 6, .inl (MVSp v)), .inl (3, 600, .inl (MVBf v)), .inl (0, 150, .inl (MVSm v)), .inl (0, 40, .inl (MVOr v)), .inl (3, 240, .inl (MVOu v))]) rfl ?_
      cases h
      exact r_vret X rfl rfl ⟨rfl, rfl⟩ (by decide) (by decide)
set_option maxHeartbeats 400000 in
set_option maxRecDepth 20000 in
theorem c_X9_heightFrom : ∀ (n : Nat) (v : MV) (a : Int32) (r : Int32) (h : f_X9_heightFrom n v a = some r), Sem z_X9_heightFrom (n + 2) 0 0 [.ref 0, .int a] (WM v) (PST (.inl (some (.int r))) (WM v)) := by
  intro n
  induction n with
  | zero =>
    intro v a r h
    unfold f_X9_heightFrom at h
    cases h
  | succ n ih =>
    intro v a r h
    refine Sem.of zo_X9_heightFrom (by decide +kernel) (Nat.le_of_ble_eq_true rfl) fun κ X hE hR hN => ?_
    unfold f_X9_heightFrom at h
    refine AW.eq (pc' := 0) (ls' := [some (.ref 0), some (.int a), none, none]) (st' := []) (AH' := [.inr (9, [.ref 1, .ref 2, .ref 3, .ref 4, .int (MVPc v), .int (MVIs v), .int (MVTh v), .ref 5, .int (MVSl v), .ref 6, .int (MVLn v), .int (MVEc v), .int (MVEo v), .int (MVSa v), .int (MVEn v), .int (MVTk v), .int (MVVa v), .int (MVFa v), .int (MVFo v), .ref 7, .int (MVSc v), .ref 8, .ref 9, .int (MVOl v)]), .inl (0, 500, .inl (MVSt v)), .inl (0, 500, .inl (MVAs v)), .inl (0, 500, .inl (MVSv v)), .inl (0, 4000, .inl (MVPt v)), .inl (0, 6, .inl (MVSp v)), .inl (3, 600, .inl (MVBf v)), .inl (0, 150, .inl (MVSm v)), .inl (0, 40, .inl (MVOr v)), .inl (3, 240, .inl (MVOu v))]) ?_ rfl rfl rfl rfl
    refine go_s 2 X (pc2 := 2) (st2 := [.int (-1), .int a]) rfl ?_
    refine r_icmp_ne X 7 rfl rfl (fun c1 => ?_) (fun c1 => ?_)
    · rw [if_neg c1] at h
      refine go_s 4 X (pc2 := 11) (st2 := [.int 5, .int a, .ref 0, .ref 0]) rfl ?_
      obtain ⟨r3, hq2, h⟩ := obind_inv h
      refine q_callV X [0, 1, 2, 3, 4, 5, 6, 7, 8, 9] [] (AH2 := [.inr (9, [.ref 1, .ref 2, .ref 3, .ref 4, .int (MVPc v), .int (MVIs v), .int (MVTh v), .ref 5, .int (MVSl v), .ref 6, .int (MVLn v), .int (MVEc v), .int (MVEo v), .int (MVSa v), .int (MVEn v), .int (MVTk v), .int (MVVa v), .int (MVFa v), .int (MVFo v), .ref 7, .int (MVSc v), .ref 8, .ref 9, .int (MVOl v)]), .inl (0, 500, .inl (MVSt v)), .inl (0, 500, .inl (MVAs v)), .inl (0, 500, .inl (MVSv v)), .inl (0, 4000, .inl (MVPt v)), .inl (0, 6, .inl (MVSp v)), .inl (3, 600, .inl (MVBf v)), .inl (0, 150, .inl (MVSm v)), .inl (0, 40, .inl (MVOr v)), .inl (3, 240, .inl (MVOu v))]) (st2 := [.int r3, .ref 0]) (c_X9_get _ _ _ _ hq2) ⟨rfl, rfl⟩ rfl k_X9_get l_X9_90 rfl rfl rfl rfl rfl (fit_of hR (by omega) (by decide) (by decide) (by decide)) (Nat.le_of_ble_eq_true rfl) (by decide) rfl rfl rfl ?_
      obtain ⟨r6, hq5, h⟩ := obind_inv h
      refine q_callV X [0, 1, 2, 3, 4, 5, 6, 7, 8, 9] [] (AH2 := [.inr (9, [.ref 1, .ref 2, .ref 3, .ref 4, .int (MVPc v), .int (MVIs v), .int (MVTh v), .ref 5, .int (MVSl v), .ref 6, .int (MVLn v), .int (MVEc v), .int (MVEo v), .int (MVSa v), .int (MVEn v), .int (MVTk v), .int (MVVa v), .int (MVFa v), .int (MVFo v), .ref 7, .int (MVSc v), .ref 8, .ref 9, .int (MVOl v)]), .inl (0, 500, .inl (MVSt v)), .inl (0, 500, .inl (MVAs v)), .inl (0, 500, .inl (MVSv v)), .inl (0, 4000, .inl (MVPt v)), .inl (0, 6, .inl (MVSp v)), .inl (3, 600, .inl (MVBf v)), .inl (0, 150, .inl (MVSm v)), .inl (0, 40, .inl (MVOr v)), .inl (3, 240, .inl (MVOu v))]) (st2 := [.int r6]) (ih _ _ _ hq5) ⟨rfl, rfl⟩ rfl k_X9_heightFrom l_X9_357 rfl rfl rfl rfl rfl (fit_of hR (by omega) (by decide) (by decide) (by decide)) (Nat.le_of_ble_eq_true rfl) (by decide) rfl rfl rfl ?_
      refine go_l 5 X (pc2 := 23) (ls2 := [some (.ref 0), some (.int a), some (.int r6), none]) (st2 := [.int 6, .int a, .ref 0, .ref 0]) rfl ?_
      obtain ⟨r9, hq8, h⟩ := obind_inv h
      refine q_callV X [0, 1, 2, 3, 4, 5, 6, 7, 8, 9] [] (AH2 := [.inr (9, [.ref 1, .ref 2, .ref 3, .ref 4, .int (MVPc v), .int (MVIs v), .int (MVTh v), .ref 5, .int (MVSl v), .ref 6, .int (MVLn v), .int (MVEc v), .int (MVEo v), .int (MVSa v), .int (MVEn v), .int (MVTk v), .int (MVVa v), .int (MVFa v), .int (MVFo v), .ref 7, .int (MVSc v), .ref 8, .ref 9, .int (MVOl v)]), .inl (0, 500, .inl (MVSt v)), .inl (0, 500, .inl (MVAs v)), .inl (0, 500, .inl (MVSv v)), .inl (0, 4000, .inl (MVPt v)), .inl (0, 6, .inl (MVSp v)), .inl (3, 600, .inl (MVBf v)), .inl (0, 150, .inl (MVSm v)), .inl (0, 40, .inl (MVOr v)), .inl (3, 240, .inl (MVOu v))]) (st2 := [.int r9, .ref 0]) (c_X9_get _ _ _ _ hq8) ⟨rfl, rfl⟩ rfl k_X9_get l_X9_90 rfl rfl rfl rfl rfl (fit_of hR (by omega) (by decide) (by decide) (by decide)) (Nat.le_of_ble_eq_true rfl) (by decide) rfl rfl rfl ?_
      obtain ⟨r12, hq11, h⟩ := obind_inv h
      refine q_callV X [0, 1, 2, 3, 4, 5, 6, 7, 8, 9] [] (AH2 := [.inr (9, [.ref 1, .ref 2, .ref 3, .ref 4, .int (MVPc v), .int (MVIs v), .int (MVTh v), .ref 5, .int (MVSl v), .ref 6, .int (MVLn v), .int (MVEc v), .int (MVEo v), .int (MVSa v), .int (MVEn v), .int (MVTk v), .int (MVVa v), .int (MVFa v), .int (MVFo v), .ref 7, .int (MVSc v), .ref 8, .ref 9, .int (MVOl v)]), .inl (0, 500, .inl (MVSt v)), .inl (0, 500, .inl (MVAs v)), .inl (0, 500, .inl (MVSv v)), .inl (0, 4000, .inl (MVPt v)), .inl (0, 6, .inl (MVSp v)), .inl (3, 600, .inl (MVBf v)), .inl (0, 150, .inl (MVSm v)), .inl (0, 40, .inl (MVOr v)), .inl (3, 240, .inl (MVOu v))]) (st2 := [.int r12]) (ih _ _ _ hq11) ⟨rfl, rfl⟩ rfl k_X9_heightFrom l_X9_357 rfl rfl rfl rfl rfl (fit_of hR (by omega) (by decide) (by decide) (by decide)) (Nat.le_of_ble_eq_true rfl) (by decide) rfl rfl rfl ?_
      refine go_l 4 X (pc2 := 33) (ls2 := [some (.ref 0), some (.int a), some (.int r6), some (.int r12)]) (st2 := [.int r12, .int r6, .int 1]) rfl ?_
      refine r_mmax X (d := 0) rfl (by decide +kernel) (by rw [hR]; exact ⟨by simp [rmM], by simp [rmM, csum, Value.category], Nat.zero_le _, Nat.zero_le _⟩) mm_smax mm_i mm_cmax ?_
      refine go_s 1 X (pc2 := 37) (st2 := [.int (1 + (if r6 < r12 then r12 else r6))]) rfl ?_
      cases h
      exact r_iret X rfl rfl ⟨rfl, rfl⟩ (by decide) (by decide)
    · rw [if_pos c1] at h
      refine go_s 1 X (pc2 := 6) (st2 := [.int 0]) rfl ?_
      cases h
      exact r_iret X rfl rfl ⟨rfl, rfl⟩ (by decide) (by decide)
set_option maxHeartbeats 400000 in
set_option maxRecDepth 20000 in
theorem c_X9_height (v : MV) (a : Int32) (r : Int32) (w : MV) (h : f_X9_height v a = some (r, w)) : Sem z_X9_height 53 0 0 [.ref 0, .int a] (WM v) (PST (.inl (some (.int r))) (WM w)) := by
  refine Sem.of zo_X9_height (by decide +kernel) (Nat.le_of_ble_eq_true rfl) fun κ X hE hR hN => ?_
  unfold f_X9_height at h
  refine AW.eq (pc' := 0) (ls' := [some (.ref 0), some (.int a)]) (st' := []) (AH' := [.inr (9, [.ref 1, .ref 2, .ref 3, .ref 4, .int (MVPc v), .int (MVIs v), .int (MVTh v), .ref 5, .int (MVSl v), .ref 6, .int (MVLn v), .int (MVEc v), .int (MVEo v), .int (MVSa v), .int (MVEn v), .int (MVTk v), .int (MVVa v), .int (MVFa v), .int (MVFo v), .ref 7, .int (MVSc v), .ref 8, .ref 9, .int (MVOl v)]), .inl (0, 500, .inl (MVSt v)), .inl (0, 500, .inl (MVAs v)), .inl (0, 500, .inl (MVSv v)), .inl (0, 4000, .inl (MVPt v)), .inl (0, 6, .inl (MVSp v)), .inl (3, 600, .inl (MVBf v)), .inl (0, 150, .inl (MVSm v)), .inl (0, 40, .inl (MVOr v)), .inl (3, 240, .inl (MVOu v))]) ?_ rfl rfl rfl rfl
  refine go_s 2 X (pc2 := 2) (st2 := [.int a, .ref 0]) rfl ?_
  obtain ⟨r2, w3, hq1, h⟩ := bnd2_inv h
  refine q_callV X [0, 1, 2, 3, 4, 5, 6, 7, 8, 9] [] (AH2 := [.inr (9, [.ref 1, .ref 2, .ref 3, .ref 4, .int (MVPc w3), .int (MVIs w3), .int (MVTh w3), .ref 5, .int (MVSl w3), .ref 6, .int (MVLn w3), .int (MVEc w3), .int (MVEo w3), .int (MVSa w3), .int (MVEn w3), .int (MVTk w3), .int (MVVa w3), .int (MVFa w3), .int (MVFo w3), .ref 7, .int (MVSc w3), .ref 8, .ref 9, .int (MVOl w3)]), .inl (0, 500, .inl (MVSt w3)), .inl (0, 500, .inl (MVAs w3)), .inl (0, 500, .inl (MVSv w3)), .inl (0, 4000, .inl (MVPt w3)), .inl (0, 6, .inl (MVSp w3)), .inl (3, 600, .inl (MVBf w3)), .inl (0, 150, .inl (MVSm w3)), .inl (0, 40, .inl (MVOr w3)), .inl (3, 240, .inl (MVOu w3))]) (st2 := [.int r2]) (c_X9_checkQueue _ _ _ _ hq1) ⟨rfl, rfl⟩ rfl k_X9_checkQueue l_X9_342 rfl rfl rfl rfl rfl (fit_of hR (by decide) (by decide) (by decide) (by decide)) (Nat.le_of_ble_eq_true rfl) (by decide) rfl rfl rfl ?_
  refine r_if_eq X 20 rfl rfl (fun c4 => ?_) (fun c4 => ?_)
  · rw [if_pos c4] at h
    refine go_s 1 X (pc2 := 21) (st2 := [.int 0]) rfl ?_
    cases h
    exact r_iret X rfl rfl ⟨rfl, rfl⟩ (by decide) (by decide)
  · rw [if_neg c4] at h
    refine go_s 3 X (pc2 := 11) (st2 := [.int a, .ref 0, .ref 0]) rfl ?_
    obtain ⟨r6, hq5, h⟩ := obind_inv h
    refine q_callV X [0, 1, 2, 3, 4, 5, 6, 7, 8, 9] [] (AH2 := [.inr (9, [.ref 1, .ref 2, .ref 3, .ref 4, .int (MVPc w3), .int (MVIs w3), .int (MVTh w3), .ref 5, .int (MVSl w3), .ref 6, .int (MVLn w3), .int (MVEc w3), .int (MVEo w3), .int (MVSa w3), .int (MVEn w3), .int (MVTk w3), .int (MVVa w3), .int (MVFa w3), .int (MVFo w3), .ref 7, .int (MVSc w3), .ref 8, .ref 9, .int (MVOl w3)]), .inl (0, 500, .inl (MVSt w3)), .inl (0, 500, .inl (MVAs w3)), .inl (0, 500, .inl (MVSv w3)), .inl (0, 4000, .inl (MVPt w3)), .inl (0, 6, .inl (MVSp w3)), .inl (3, 600, .inl (MVBf w3)), .inl (0, 150, .inl (MVSm w3)), .inl (0, 40, .inl (MVOr w3)), .inl (3, 240, .inl (MVOu w3))]) (st2 := [.int r6, .ref 0]) (c_X9_rootOf _ _ _ hq5) ⟨rfl, rfl⟩ rfl k_X9_rootOf l_X9_117 rfl rfl rfl rfl rfl (fit_of hR (by decide) (by decide) (by decide) (by decide)) (Nat.le_of_ble_eq_true rfl) (by decide) rfl rfl rfl ?_
    obtain ⟨r9, hq8, h⟩ := obind_inv h
    refine q_callV X [0, 1, 2, 3, 4, 5, 6, 7, 8, 9] [] (AH2 := [.inr (9, [.ref 1, .ref 2, .ref 3, .ref 4, .int (MVPc w3), .int (MVIs w3), .int (MVTh w3), .ref 5, .int (MVSl w3), .ref 6, .int (MVLn w3), .int (MVEc w3), .int (MVEo w3), .int (MVSa w3), .int (MVEn w3), .int (MVTk w3), .int (MVVa w3), .int (MVFa w3), .int (MVFo w3), .ref 7, .int (MVSc w3), .ref 8, .ref 9, .int (MVOl w3)]), .inl (0, 500, .inl (MVSt w3)), .inl (0, 500, .inl (MVAs w3)), .inl (0, 500, .inl (MVSv w3)), .inl (0, 4000, .inl (MVPt w3)), .inl (0, 6, .inl (MVSp w3)), .inl (3, 600, .inl (MVBf w3)), .inl (0, 150, .inl (MVSm w3)), .inl (0, 40, .inl (MVOr w3)), .inl (3, 240, .inl (MVOu w3))]) (st2 := [.int r9]) (c_X9_heightFrom 50 _ _ _ hq8) ⟨rfl, rfl⟩ rfl k_X9_heightFrom l_X9_357 rfl rfl rfl rfl rfl (fit_of hR (by decide) (by decide) (by decide) (by decide)) (Nat.le_of_ble_eq_true rfl) (by decide) rfl rfl rfl ?_
    refine go_s 1 X (pc2 := 21) (st2 := [.int r9]) rfl ?_
    cases h
    exact r_iret X rfl rfl ⟨rfl, rfl⟩ (by decide) (by decide)
set_option maxHeartbeats 400000 in
set_option maxRecDepth 20000 in
theorem c_X9_isCancelled (v : MV) (a : Int32) (r : Int32) (w : MV) (h : f_X9_isCancelled v a = some (r, w)) : Sem z_X9_isCancelled 3 0 0 [.ref 0, .int a] (WM v) (PST (.inl (some (.int r))) (WM w)) := by
  refine Sem.of zo_X9_isCancelled (by decide +kernel) (Nat.le_of_ble_eq_true rfl) fun κ X hE hR hN => ?_
  unfold f_X9_isCancelled at h
  refine AW.eq (pc' := 0) (ls' := [some (.ref 0), some (.int a)]) (st' := []) (AH' := [.inr (9, [.ref 1, .ref 2, .ref 3, .ref 4, .int (MVPc v), .int (MVIs v), .int (MVTh v), .ref 5, .int (MVSl v), .ref 6, .int (MVLn v), .int (MVEc v), .int (MVEo v), .int (MVSa v), .int (MVEn v), .int (MVTk v), .int (MVVa v), .int (MVFa v), .int (MVFo v), .ref 7, .int (MVSc v), .ref 8, .ref 9, .int (MVOl v)]), .inl (0, 500, .inl (MVSt v)), .inl (0, 500, .inl (MVAs v)), .inl (0, 500, .inl (MVSv v)), .inl (0, 4000, .inl (MVPt v)), .inl (0, 6, .inl (MVSp v)), .inl (3, 600, .inl (MVBf v)), .inl (0, 150, .inl (MVSm v)), .inl (0, 40, .inl (MVOr v)), .inl (3, 240, .inl (MVOu v))]) ?_ rfl rfl rfl rfl
  refine go_s 2 X (pc2 := 2) (st2 := [.int a, .ref 0]) rfl ?_
  obtain ⟨r2, w3, hq1, h⟩ := bnd2_inv h
  refine q_callV X [0, 1, 2, 3, 4, 5, 6, 7, 8, 9] [] (AH2 := [.inr (9, [.ref 1, .ref 2, .ref 3, .ref 4, .int (MVPc w3), .int (MVIs w3), .int (MVTh w3), .ref 5, .int (MVSl w3), .ref 6, .int (MVLn w3), .int (MVEc w3), .int (MVEo w3), .int (MVSa w3), .int (MVEn w3), .int (MVTk w3), .int (MVVa w3), .int (MVFa w3), .int (MVFo w3), .ref 7, .int (MVSc w3), .ref 8, .ref 9, .int (MVOl w3)]), .inl (0, 500, .inl (MVSt w3)), .inl (0, 500, .inl (MVAs w3)), .inl (0, 500, .inl (MVSv w3)), .inl (0, 4000, .inl (MVPt w3)), .inl (0, 6, .inl (MVSp w3)), .inl (3, 600, .inl (MVBf w3)), .inl (0, 150, .inl (MVSm w3)), .inl (0, 40, .inl (MVOr w3)), .inl (3, 240, .inl (MVOu w3))]) (st2 := [.int r2]) (c_X9_checkJob _ _ _ _ hq1) ⟨rfl, rfl⟩ rfl k_X9_checkJob l_X9_351 rfl rfl rfl rfl rfl (fit_of hR (by decide) (by decide) (by decide) (by decide)) (Nat.le_of_ble_eq_true rfl) (by decide) rfl rfl rfl ?_
  refine r_if_eq X 22 rfl rfl (fun c4 => ?_) (fun c4 => ?_)
  · rw [if_pos c4] at h
    refine go_s 1 X (pc2 := 23) (st2 := [.int 0]) rfl ?_
    cases h
    exact r_zret X (ty := .boolean) rfl rfl rfl ⟨rfl, rfl⟩ (by decide) (by decide)
  · rw [if_neg c4] at h
    refine go_s 3 X (pc2 := 11) (st2 := [.int 3, .int a, .ref 0]) rfl ?_
    obtain ⟨r6, hq5, h⟩ := obind_inv h
    refine q_callV X [0, 1, 2, 3, 4, 5, 6, 7, 8, 9] [] (AH2 := [.inr (9, [.ref 1, .ref 2, .ref 3, .ref 4, .int (MVPc w3), .int (MVIs w3), .int (MVTh w3), .ref 5, .int (MVSl w3), .ref 6, .int (MVLn w3), .int (MVEc w3), .int (MVEo w3), .int (MVSa w3), .int (MVEn w3), .int (MVTk w3), .int (MVVa w3), .int (MVFa w3), .int (MVFo w3), .ref 7, .int (MVSc w3), .ref 8, .ref 9, .int (MVOl w3)]), .inl (0, 500, .inl (MVSt w3)), .inl (0, 500, .inl (MVAs w3)), .inl (0, 500, .inl (MVSv w3)), .inl (0, 4000, .inl (MVPt w3)), .inl (0, 6, .inl (MVSp w3)), .inl (3, 600, .inl (MVBf w3)), .inl (0, 150, .inl (MVSm w3)), .inl (0, 40, .inl (MVOr w3)), .inl (3, 240, .inl (MVOu w3))]) (st2 := [.int r6]) (c_X9_get _ _ _ _ hq5) ⟨rfl, rfl⟩ rfl k_X9_get l_X9_90 rfl rfl rfl rfl rfl (fit_of hR (by decide) (by decide) (by decide) (by decide)) (Nat.le_of_ble_eq_true rfl) (by decide) rfl rfl rfl ?_
    refine go_s 1 X (pc2 := 15) (st2 := [.int 2, .int r6]) rfl ?_
    refine r_icmp_ne X 22 rfl rfl (fun c8 => ?_) (fun c8 => ?_)
    · rw [if_neg c8] at h
      refine go_s 1 X (pc2 := 23) (st2 := [.int 0]) rfl ?_
      cases h
      exact r_zret X (ty := .boolean) rfl rfl rfl ⟨rfl, rfl⟩ (by decide) (by decide)
    · rw [if_pos c8] at h
      refine go_s 2 X (pc2 := 23) (st2 := [.int 1]) rfl ?_
      cases h
      exact r_zret X (ty := .boolean) rfl rfl rfl ⟨rfl, rfl⟩ (by decide) (by decide)
set_option maxHeartbeats 400000 in
set_option maxRecDepth 20000 in
theorem a_X9_copyTo_2_h2 {κ : KX} (X : CX κ z_X9_copyTo) (hR : κR κ = rmM 0 0 0) : ∀ (n : Nat) (l2 : Int32) (v : MV) (r : Unit) (w : MV) (h : f_X9_copyTo_2_h2 n l2 v = some (r, w)), AW κ (QM κ (PST (.inl none) (WM w)) 0 0) 2 [some (.ref 0), some (.ref 2), some (.int l2)] [] (WM v) 0 0 := by
  intro n
  induction n with
  | zero =>
    intro l2 v r w h
    unfold f_X9_copyTo_2_h2 at h
    cases h
  | succ n ih =>
    intro l2 v r w h
    unfold f_X9_copyTo_2_h2 at h
    refine AW.eq (pc' := 2) (ls' := [some (.ref 0), some (.ref 2), some (.int l2)]) (st' := []) (AH' := [.inr (9, [.ref 1, .ref 2, .ref 3, .ref 4, .int (MVPc v), .int (MVIs v), .int (MVTh v), .ref 5, .int (MVSl v), .ref 6, .int (MVLn v), .int (MVEc v), .int (MVEo v), .int (MVSa v), .int (MVEn v), .int (MVTk v), .int (MVVa v), .int (MVFa v), .int (MVFo v), .ref 7, .int (MVSc v), .ref 8, .ref 9, .int (MVOl v)]), .inl (0, 500, .inl (MVSt v)), .inl (0, 500, .inl (MVAs v)), .inl (0, 500, .inl (MVSv v)), .inl (0, 4000, .inl (MVPt v)), .inl (0, 6, .inl (MVSp v)), .inl (3, 600, .inl (MVBf v)), .inl (0, 150, .inl (MVSm v)), .inl (0, 40, .inl (MVOr v)), .inl (3, 240, .inl (MVOu v))]) ?_ rfl rfl rfl rfl
    refine go_s 2 X (pc2 := 6) (st2 := [.int 500, .int l2]) rfl ?_
    refine r_icmp_ge X 24 rfl rfl (fun c1 => ?_) (fun c1 => ?_)
    · rw [if_pos c1] at h
      cases h
      exact r_vret X rfl rfl ⟨rfl, rfl⟩ (by decide) (by decide)
    · rw [if_neg c1] at h
      refine go_s 5 X (pc2 := 16) (st2 := [.int l2, .ref 1, .int l2, .ref 2]) rfl ?_
      by_cases b2 : oob l2 500
      · rw [if_pos b2] at h; cases h
      rw [if_neg b2] at h
      refine r_iald X rfl rfl b2 ?_
      by_cases b3 : oob l2 500
      · rw [if_pos b3] at h; cases h
      rw [if_neg b3] at h
      refine r_iast X rfl rfl b3 ?_
      refine go_l 2 X (pc2 := 2) (ls2 := [some (.ref 0), some (.ref 2), some (.int (l2 + 1))]) (st2 := []) rfl ?_
      exact AW.eq (ih _ _ _ _ h) rfl rfl rfl rfl
set_option maxHeartbeats 400000 in
set_option maxRecDepth 20000 in
theorem c_X9_copyTo_2 (v : MV) (r : Unit) (w : MV) (h : f_X9_copyTo_2 v = some (r, w)) : Sem z_X9_copyTo 0 0 0 [.ref 0, .ref 2] (WM v) (PST (.inl none) (WM w)) := by
  refine Sem.of zo_X9_copyTo (by decide +kernel) (Nat.le_of_ble_eq_true rfl) fun κ X hE hR hN => ?_
  unfold f_X9_copyTo_2 at h
  refine AW.eq (pc' := 0) (ls' := [some (.ref 0), some (.ref 2), none]) (st' := []) (AH' := [.inr (9, [.ref 1, .ref 2, .ref 3, .ref 4, .int (MVPc v), .int (MVIs v), .int (MVTh v), .ref 5, .int (MVSl v), .ref 6, .int (MVLn v), .int (MVEc v), .int (MVEo v), .int (MVSa v), .int (MVEn v), .int (MVTk v), .int (MVVa v), .int (MVFa v), .int (MVFo v), .ref 7, .int (MVSc v), .ref 8, .ref 9, .int (MVOl v)]), .inl (0, 500, .inl (MVSt v)), .inl (0, 500, .inl (MVAs v)), .inl (0, 500, .inl (MVSv v)), .inl (0, 4000, .inl (MVPt v)), .inl (0, 6, .inl (MVSp v)), .inl (3, 600, .inl (MVBf v)), .inl (0, 150, .inl (MVSm v)), .inl (0, 40, .inl (MVOr v)), .inl (3, 240, .inl (MVOu v))]) ?_ rfl rfl rfl rfl
  refine go_l 2 X (pc2 := 2) (ls2 := [some (.ref 0), some (.ref 2), some (.int 0)]) (st2 := []) rfl ?_
  exact AW.eq (a_X9_copyTo_2_h2 X hR FU _ _ _ _ h) rfl rfl rfl rfl
set_option maxHeartbeats 400000 in
set_option maxRecDepth 20000 in
theorem a_X9_copyFrom_2_h2 {κ : KX} (X : CX κ z_X9_copyFrom) (hR : κR κ = rmM 0 0 0) : ∀ (n : Nat) (l2 : Int32) (v : MV) (r : Unit) (w : MV) (h : f_X9_copyFrom_2_h2 n l2 v = some (r, w)), AW κ (QM κ (PST (.inl none) (WM w)) 0 0) 2 [some (.ref 0), some (.ref 2), some (.int l2)] [] (WM v) 0 0 := by
  intro n
  induction n with
  | zero =>
    intro l2 v r w h
    unfold f_X9_copyFrom_2_h2 at h
    cases h
  | succ n ih =>
    intro l2 v r w h
    unfold f_X9_copyFrom_2_h2 at h
    refine AW.eq (pc' := 2) (ls' := [some (.ref 0), some (.ref 2), some (.int l2)]) (st' := []) (AH' := [.inr (9, [.ref 1, .ref 2, .ref 3, .ref 4, .int (MVPc v), .int (MVIs v), .int (MVTh v), .ref 5, .int (MVSl v), .ref 6, .int (MVLn v), .int (MVEc v), .int (MVEo v), .int (MVSa v), .int (MVEn v), .int (MVTk v), .int (MVVa v), .int (MVFa v), .int (MVFo v), .ref 7, .int (MVSc v), .ref 8, .ref 9, .int (MVOl v)]), .inl (0, 500, .inl (MVSt v)), .inl (0, 500, .inl (MVAs v)), .inl (0, 500, .inl (MVSv v)), .inl (0, 4000, .inl (MVPt v)), .inl (0, 6, .inl (MVSp v)), .inl (3, 600, .inl (MVBf v)), .inl (0, 150, .inl (MVSm v)), .inl (0, 40, .inl (MVOr v)), .inl (3, 240, .inl (MVOu v))]) ?_ rfl rfl rfl rfl
    refine go_s 2 X (pc2 := 6) (st2 := [.int 500, .int l2]) rfl ?_
    refine r_icmp_ge X 24 rfl rfl (fun c1 => ?_) (fun c1 => ?_)
    · rw [if_pos c1] at h
      cases h
      exact r_vret X rfl rfl ⟨rfl, rfl⟩ (by decide) (by decide)
    · rw [if_neg c1] at h
      refine go_s 5 X (pc2 := 16) (st2 := [.int l2, .ref 2, .int l2, .ref 1]) rfl ?_
      by_cases b2 : oob l2 500
      · rw [if_pos b2] at h; cases h
      rw [if_neg b2] at h
      refine r_iald X rfl rfl b2 ?_
      by_cases b3 : oob l2 500
      · rw [if_pos b3] at h; cases h
      rw [if_neg b3] at h
      refine r_iast X rfl rfl b3 ?_
      refine go_l 2 X (pc2 := 2) (ls2 := [some (.ref 0), some (.ref 2), some (.int (l2 + 1))]) (st2 := []) rfl ?_
      exact AW.eq (ih _ _ _ _ h) rfl rfl rfl rfl
set_option maxHeartbeats 400000 in
set_option maxRecDepth 20000 in
theorem c_X9_copyFrom_2 (v : MV) (r : Unit) (w : MV) (h : f_X9_copyFrom_2 v = some (r, w)) : Sem z_X9_copyFrom 0 0 0 [.ref 0, .ref 2] (WM v) (PST (.inl none) (WM w)) := by
  refine Sem.of zo_X9_copyFrom (by decide +kernel) (Nat.le_of_ble_eq_true rfl) fun κ X hE hR hN => ?_
  unfold f_X9_copyFrom_2 at h
  refine AW.eq (pc' := 0) (ls' := [some (.ref 0), some (.ref 2), none]) (st' := []) (AH' := [.inr (9, [.ref 1, .ref 2, .ref 3, .ref 4, .int (MVPc v), .int (MVIs v), .int (MVTh v), .ref 5, .int (MVSl v), .ref 6, .int (MVLn v), .int (MVEc v), .int (MVEo v), .int (MVSa v), .int (MVEn v), .int (MVTk v), .int (MVVa v), .int (MVFa v), .int (MVFo v), .ref 7, .int (MVSc v), .ref 8, .ref 9, .int (MVOl v)]), .inl (0, 500, .inl (MVSt v)), .inl (0, 500, .inl (MVAs v)), .inl (0, 500, .inl (MVSv v)), .inl (0, 4000, .inl (MVPt v)), .inl (0, 6, .inl (MVSp v)), .inl (3, 600, .inl (MVBf v)), .inl (0, 150, .inl (MVSm v)), .inl (0, 40, .inl (MVOr v)), .inl (3, 240, .inl (MVOu v))]) ?_ rfl rfl rfl rfl
  refine go_l 2 X (pc2 := 2) (ls2 := [some (.ref 0), some (.ref 2), some (.int 0)]) (st2 := []) rfl ?_
  exact AW.eq (a_X9_copyFrom_2_h2 X hR FU _ _ _ _ h) rfl rfl rfl rfl
set_option maxHeartbeats 400000 in
set_option maxRecDepth 20000 in
theorem a_X9_positionIn_h4 {κ : KX} (X : CX κ z_X9_positionIn) (hR : κR κ = rmM 4 0 0) : ∀ (n : Nat) (l1 : Int32) (l2 : Int32) (l3 : Int32) (v : MV) (r : Int32) (h : f_X9_positionIn_h4 n l1 l2 l3 v = some r), AW κ (QM κ (PST (.inl (some (.int r))) (WM v)) 0 0) 4 [some (.ref 0), some (.int l1), some (.int l2), some (.int l3)] [] (WM v) 0 0 := by
  intro n
  induction n with
  | zero =>
    intro l1 l2 l3 v r h
    unfold f_X9_positionIn_h4 at h
    cases h
  | succ n ih =>
    intro l1 l2 l3 v r h
    unfold f_X9_positionIn_h4 at h
    refine AW.eq (pc' := 4) (ls' := [some (.ref 0), some (.int l1), some (.int l2), some (.int l3)]) (st' := []) (AH' := [.inr (9, [.ref 1, .ref 2, .ref 3, .ref 4, .int (MVPc v), .int (MVIs v), .int (MVTh v), .ref 5, .int (MVSl v), .ref 6, .int (MVLn v), .int (MVEc v), .int (MVEo v), .int (MVSa v), .int (MVEn v), .int (MVTk v), .int (MVVa v), .int (MVFa v), .int (MVFo v), .ref 7, .int (MVSc v), .ref 8, .ref 9, .int (MVOl v)]), .inl (0, 500, .inl (MVSt v)), .inl (0, 500, .inl (MVAs v)), .inl (0, 500, .inl (MVSv v)), .inl (0, 4000, .inl (MVPt v)), .inl (0, 6, .inl (MVSp v)), .inl (3, 600, .inl (MVBf v)), .inl (0, 150, .inl (MVSm v)), .inl (0, 40, .inl (MVOr v)), .inl (3, 240, .inl (MVOu v))]) ?_ rfl rfl rfl rfl
    refine go_s 4 X (pc2 := 10) (st2 := [.int 2, .ref 1, .int l3]) rfl ?_
    by_cases b1 : oob 2 500
    · rw [if_pos b1] at h; cases h
    rw [if_neg b1] at h
    refine r_iald X rfl rfl b1 ?_
    refine r_icmp_ge X 54 rfl rfl (fun c2 => ?_) (fun c2 => ?_)
    · rw [if_pos c2] at h
      refine go_s 1 X (pc2 := 55) (st2 := [.int l2]) rfl ?_
      cases h
      exact r_iret X rfl rfl ⟨rfl, rfl⟩ (by decide) (by decide)
    · rw [if_neg c2] at h
      refine go_s 6 X (pc2 := 20) (st2 := [.int 4, .int l1, .ref 0, .int l3, .ref 0, .int l2]) rfl ?_
      obtain ⟨r4, hq3, h⟩ := obind_inv h
      refine q_callV X [0, 1, 2, 3, 4, 5, 6, 7, 8, 9] [] (AH2 := [.inr (9, [.ref 1, .ref 2, .ref 3, .ref 4, .int (MVPc v), .int (MVIs v), .int (MVTh v), .ref 5, .int (MVSl v), .ref 6, .int (MVLn v), .int (MVEc v), .int (MVEo v), .int (MVSa v), .int (MVEn v), .int (MVTk v), .int (MVVa v), .int (MVFa v), .int (MVFo v), .ref 7, .int (MVSc v), .ref 8, .ref 9, .int (MVOl v)]), .inl (0, 500, .inl (MVSt v)), .inl (0, 500, .inl (MVAs v)), .inl (0, 500, .inl (MVSv v)), .inl (0, 4000, .inl (MVPt v)), .inl (0, 6, .inl (MVSp v)), .inl (3, 600, .inl (MVBf v)), .inl (0, 150, .inl (MVSm v)), .inl (0, 40, .inl (MVOr v)), .inl (3, 240, .inl (MVOu v))]) (st2 := [.int r4, .int l3, .ref 0, .int l2]) (c_X9_get _ _ _ _ hq3) ⟨rfl, rfl⟩ rfl k_X9_get l_X9_90 rfl rfl rfl rfl rfl (fit_of hR (by decide) (by decide) (by decide) (by decide)) (Nat.le_of_ble_eq_true rfl) (by decide) rfl rfl rfl ?_
      obtain ⟨r7, hq6, h⟩ := obind_inv h
      refine q_callV X [0, 1, 2, 3, 4, 5, 6, 7, 8, 9] [] (AH2 := [.inr (9, [.ref 1, .ref 2, .ref 3, .ref 4, .int (MVPc v), .int (MVIs v), .int (MVTh v), .ref 5, .int (MVSl v), .ref 6, .int (MVLn v), .int (MVEc v), .int (MVEo v), .int (MVSa v), .int (MVEn v), .int (MVTk v), .int (MVVa v), .int (MVFa v), .int (MVFo v), .ref 7, .int (MVSc v), .ref 8, .ref 9, .int (MVOl v)]), .inl (0, 500, .inl (MVSt v)), .inl (0, 500, .inl (MVAs v)), .inl (0, 500, .inl (MVSv v)), .inl (0, 4000, .inl (MVPt v)), .inl (0, 6, .inl (MVSp v)), .inl (3, 600, .inl (MVBf v)), .inl (0, 150, .inl (MVSm v)), .inl (0, 40, .inl (MVOr v)), .inl (3, 240, .inl (MVOu v))]) (st2 := [.int r7, .int l2]) (c_X9_isIn _ _ _ _ hq6) ⟨rfl, rfl⟩ rfl k_X9_isIn l_X9_133 rfl rfl rfl rfl rfl (fit_of hR (by decide) (by decide) (by decide) (by decide)) (Nat.le_of_ble_eq_true rfl) (by decide) rfl rfl rfl ?_
      refine r_if_eq X 42 rfl rfl (fun c9 => ?_) (fun c9 => ?_)
      · rw [if_pos c9] at h
        refine go_s 1 X (pc2 := 43) (st2 := [.int 0, .int l2]) rfl ?_
        obtain ⟨r11, hq10, h⟩ := obind_inv h
        refine q_callS X [] [] (AH2 := [.inr (9, [.ref 1, .ref 2, .ref 3, .ref 4, .int (MVPc v), .int (MVIs v), .int (MVTh v), .ref 5, .int (MVSl v), .ref 6, .int (MVLn v), .int (MVEc v), .int (MVEo v), .int (MVSa v), .int (MVEn v), .int (MVTk v), .int (MVVa v), .int (MVFa v), .int (MVFo v), .ref 7, .int (MVSc v), .ref 8, .ref 9, .int (MVOl v)]), .inl (0, 500, .inl (MVSt v)), .inl (0, 500, .inl (MVAs v)), .inl (0, 500, .inl (MVSv v)), .inl (0, 4000, .inl (MVPt v)), .inl (0, 6, .inl (MVSp v)), .inl (3, 600, .inl (MVBf v)), .inl (0, 150, .inl (MVSm v)), .inl (0, 40, .inl (MVOr v)), .inl (3, 240, .inl (MVOu v))]) (st2 := [.int r11, .int l2]) (c_X9_one _ _ hq10) ⟨rfl, rfl⟩ rfl k_X9_one l_X9_136 rfl rfl (fit_of hR (by decide) (by decide) (by decide) (by decide)) (Nat.le_of_ble_eq_true rfl) (by decide) rfl rfl rfl ?_
        refine go_l 4 X (pc2 := 4) (ls2 := [some (.ref 0), some (.int l1), some (.int (l2 + r11)), some (.int (l3 + 1))]) (st2 := []) rfl ?_
        exact AW.eq (ih _ _ _ _ _ h) rfl rfl rfl rfl
      · rw [if_neg c9] at h
        refine go_s 3 X (pc2 := 32) (st2 := [.int l1, .int l3, .ref 0, .int l2]) rfl ?_
        obtain ⟨r14, hq13, h⟩ := obind_inv h
        refine q_callV X [0, 1, 2, 3, 4, 5, 6, 7, 8, 9] [] (AH2 := [.inr (9, [.ref 1, .ref 2, .ref 3, .ref 4, .int (MVPc v), .int (MVIs v), .int (MVTh v), .ref 5, .int (MVSl v), .ref 6, .int (MVLn v), .int (MVEc v), .int (MVEo v), .int (MVSa v), .int (MVEn v), .int (MVTk v), .int (MVVa v), .int (MVFa v), .int (MVFo v), .ref 7, .int (MVSc v), .ref 8, .ref 9, .int (MVOl v)]), .inl (0, 500, .inl (MVSt v)), .inl (0, 500, .inl (MVAs v)), .inl (0, 500, .inl (MVSv v)), .inl (0, 4000, .inl (MVPt v)), .inl (0, 6, .inl (MVSp v)), .inl (3, 600, .inl (MVBf v)), .inl (0, 150, .inl (MVSm v)), .inl (0, 40, .inl (MVOr v)), .inl (3, 240, .inl (MVOu v))]) (st2 := [.int r14, .int l2]) (c_X9_precedes _ _ _ _ hq13) ⟨rfl, rfl⟩ rfl k_X9_precedes l_X9_101 rfl rfl rfl rfl rfl (fit_of hR (by decide) (by decide) (by decide) (by decide)) (Nat.le_of_ble_eq_true rfl) (by decide) rfl rfl rfl ?_
        refine r_if_eq X 42 rfl rfl (fun c16 => ?_) (fun c16 => ?_)
        · rw [if_pos c16] at h
          refine go_s 1 X (pc2 := 43) (st2 := [.int 0, .int l2]) rfl ?_
          obtain ⟨r18, hq17, h⟩ := obind_inv h
          refine q_callS X [] [] (AH2 := [.inr (9, [.ref 1, .ref 2, .ref 3, .ref 4, .int (MVPc v), .int (MVIs v), .int (MVTh v), .ref 5, .int (MVSl v), .ref 6, .int (MVLn v), .int (MVEc v), .int (MVEo v), .int (MVSa v), .int (MVEn v), .int (MVTk v), .int (MVVa v), .int (MVFa v), .int (MVFo v), .ref 7, .int (MVSc v), .ref 8, .ref 9, .int (MVOl v)]), .inl (0, 500, .inl (MVSt v)), .inl (0, 500, .inl (MVAs v)), .inl (0, 500, .inl (MVSv v)), .inl (0, 4000, .inl (MVPt v)), .inl (0, 6, .inl (MVSp v)), .inl (3, 600, .inl (MVBf v)), .inl (0, 150, .inl (MVSm v)), .inl (0, 40, .inl (MVOr v)), .inl (3, 240, .inl (MVOu v))]) (st2 := [.int r18, .int l2]) (c_X9_one _ _ hq17) ⟨rfl, rfl⟩ rfl k_X9_one l_X9_136 rfl rfl (fit_of hR (by decide) (by decide) (by decide) (by decide)) (Nat.le_of_ble_eq_true rfl) (by decide) rfl rfl rfl ?_
          refine go_l 4 X (pc2 := 4) (ls2 := [some (.ref 0), some (.int l1), some (.int (l2 + r18)), some (.int (l3 + 1))]) (st2 := []) rfl ?_
          exact AW.eq (ih _ _ _ _ _ h) rfl rfl rfl rfl
        · rw [if_neg c16] at h
          refine go_s 2 X (pc2 := 43) (st2 := [.int 1, .int l2]) rfl ?_
          obtain ⟨r21, hq20, h⟩ := obind_inv h
          refine q_callS X [] [] (AH2 := [.inr (9, [.ref 1, .ref 2, .ref 3, .ref 4, .int (MVPc v), .int (MVIs v), .int (MVTh v), .ref 5, .int (MVSl v), .ref 6, .int (MVLn v), .int (MVEc v), .int (MVEo v), .int (MVSa v), .int (MVEn v), .int (MVTk v), .int (MVVa v), .int (MVFa v), .int (MVFo v), .ref 7, .int (MVSc v), .ref 8, .ref 9, .int (MVOl v)]), .inl (0, 500, .inl (MVSt v)), .inl (0, 500, .inl (MVAs v)), .inl (0, 500, .inl (MVSv v)), .inl (0, 4000, .inl (MVPt v)), .inl (0, 6, .inl (MVSp v)), .inl (3, 600, .inl (MVBf v)), .inl (0, 150, .inl (MVSm v)), .inl (0, 40, .inl (MVOr v)), .inl (3, 240, .inl (MVOu v))]) (st2 := [.int r21, .int l2]) (c_X9_one _ _ hq20) ⟨rfl, rfl⟩ rfl k_X9_one l_X9_136 rfl rfl (fit_of hR (by decide) (by decide) (by decide) (by decide)) (Nat.le_of_ble_eq_true rfl) (by decide) rfl rfl rfl ?_
          refine go_l 4 X (pc2 := 4) (ls2 := [some (.ref 0), some (.int l1), some (.int (l2 + r21)), some (.int (l3 + 1))]) (st2 := []) rfl ?_
          exact AW.eq (ih _ _ _ _ _ h) rfl rfl rfl rfl
set_option maxHeartbeats 400000 in
set_option maxRecDepth 20000 in
theorem c_X9_positionIn (v : MV) (a : Int32) (r : Int32) (h : f_X9_positionIn v a = some r) : Sem z_X9_positionIn 4 0 0 [.ref 0, .int a] (WM v) (PST (.inl (some (.int r))) (WM v)) := by
  refine Sem.of zo_X9_positionIn (by decide +kernel) (Nat.le_of_ble_eq_true rfl) fun κ X hE hR hN => ?_
  unfold f_X9_positionIn at h
  refine AW.eq (pc' := 0) (ls' := [some (.ref 0), some (.int a), none, none]) (st' := []) (AH' := [.inr (9, [.ref 1, .ref 2, .ref 3, .ref 4, .int (MVPc v), .int (MVIs v), .int (MVTh v), .ref 5, .int (MVSl v), .ref 6, .int (MVLn v), .int (MVEc v), .int (MVEo v), .int (MVSa v), .int (MVEn v), .int (MVTk v), .int (MVVa v), .int (MVFa v), .int (MVFo v), .ref 7, .int (MVSc v), .ref 8, .ref 9, .int (MVOl v)]), .inl (0, 500, .inl (MVSt v)), .inl (0, 500, .inl (MVAs v)), .inl (0, 500, .inl (MVSv v)), .inl (0, 4000, .inl (MVPt v)), .inl (0, 6, .inl (MVSp v)), .inl (3, 600, .inl (MVBf v)), .inl (0, 150, .inl (MVSm v)), .inl (0, 40, .inl (MVOr v)), .inl (3, 240, .inl (MVOu v))]) ?_ rfl rfl rfl rfl
  refine go_l 4 X (pc2 := 4) (ls2 := [some (.ref 0), some (.int a), some (.int 0), some (.int 0)]) (st2 := []) rfl ?_
  exact AW.eq (a_X9_positionIn_h4 X hR FU _ _ _ _ _ h) rfl rfl rfl rfl
set_option maxHeartbeats 400000 in
set_option maxRecDepth 20000 in
theorem a_X9_jobIn_h2 {κ : KX} (X : CX κ z_X9_jobIn) (hR : κR κ = rmM 5 0 0) : ∀ (n : Nat) (l1 : Int32) (l2 : Int32) (l3 : Int32) (v : MV) (r : Int32) (h : f_X9_jobIn_h2 n l1 l2 l3 v = some r), AW κ (QM κ (PST (.inl (some (.int r))) (WM v)) 0 0) 2 [some (.ref 0), some (.int l1), some (.int l2), some (.int l3)] [] (WM v) 0 0 := by
  intro n
  induction n with
  | zero =>
    intro l1 l2 l3 v r h
    unfold f_X9_jobIn_h2 at h
    cases h
  | succ n ih =>
    intro l1 l2 l3 v r h
    unfold f_X9_jobIn_h2 at h
    refine AW.eq (pc' := 2) (ls' := [some (.ref 0), some (.int l1), some (.int l2), some (.int l3)]) (st' := []) (AH' := [.inr (9, [.ref 1, .ref 2, .ref 3, .ref 4, .int (MVPc v), .int (MVIs v), .int (MVTh v), .ref 5, .int (MVSl v), .ref 6, .int (MVLn v), .int (MVEc v), .int (MVEo v), .int (MVSa v), .int (MVEn v), .int (MVTk v), .int (MVVa v), .int (MVFa v), .int (MVFo v), .ref 7, .int (MVSc v), .ref 8, .ref 9, .int (MVOl v)]), .inl (0, 500, .inl (MVSt v)), .inl (0, 500, .inl (MVAs v)), .inl (0, 500, .inl (MVSv v)), .inl (0, 4000, .inl (MVPt v)), .inl (0, 6, .inl (MVSp v)), .inl (3, 600, .inl (MVBf v)), .inl (0, 150, .inl (MVSm v)), .inl (0, 40, .inl (MVOr v)), .inl (3, 240, .inl (MVOu v))]) ?_ rfl rfl rfl rfl
    refine go_s 4 X (pc2 := 8) (st2 := [.int 2, .ref 1, .int l3]) rfl ?_
    by_cases b1 : oob 2 500
    · rw [if_pos b1] at h; cases h
    rw [if_neg b1] at h
    refine r_iald X rfl rfl b1 ?_
    refine r_icmp_ge X 38 rfl rfl (fun c2 => ?_) (fun c2 => ?_)
    · rw [if_pos c2] at h
      refine go_s 1 X (pc2 := 39) (st2 := [.int (-1)]) rfl ?_
      cases h
      exact r_iret X rfl rfl ⟨rfl, rfl⟩ (by decide) (by decide)
    · rw [if_neg c2] at h
      refine go_s 3 X (pc2 := 15) (st2 := [.int l1, .int l3, .ref 0]) rfl ?_
      obtain ⟨r4, hq3, h⟩ := obind_inv h
      refine q_callV X [0, 1, 2, 3, 4, 5, 6, 7, 8, 9] [] (AH2 := [.inr (9, [.ref 1, .ref 2, .ref 3, .ref 4, .int (MVPc v), .int (MVIs v), .int (MVTh v), .ref 5, .int (MVSl v), .ref 6, .int (MVLn v), .int (MVEc v), .int (MVEo v), .int (MVSa v), .int (MVEn v), .int (MVTk v), .int (MVVa v), .int (MVFa v), .int (MVFo v), .ref 7, .int (MVSc v), .ref 8, .ref 9, .int (MVOl v)]), .inl (0, 500, .inl (MVSt v)), .inl (0, 500, .inl (MVAs v)), .inl (0, 500, .inl (MVSv v)), .inl (0, 4000, .inl (MVPt v)), .inl (0, 6, .inl (MVSp v)), .inl (3, 600, .inl (MVBf v)), .inl (0, 150, .inl (MVSm v)), .inl (0, 40, .inl (MVOr v)), .inl (3, 240, .inl (MVOu v))]) (st2 := [.int r4]) (c_X9_isIn _ _ _ _ hq3) ⟨rfl, rfl⟩ rfl k_X9_isIn l_X9_133 rfl rfl rfl rfl rfl (fit_of hR (by decide) (by decide) (by decide) (by decide)) (Nat.le_of_ble_eq_true rfl) (by decide) rfl rfl rfl ?_
      refine r_if_eq X 32 rfl rfl (fun c6 => ?_) (fun c6 => ?_)
      · rw [if_pos c6] at h
        refine go_l 2 X (pc2 := 2) (ls2 := [some (.ref 0), some (.int l1), some (.int l2), some (.int (l3 + 1))]) (st2 := []) rfl ?_
        exact AW.eq (ih _ _ _ _ _ h) rfl rfl rfl rfl
      · rw [if_neg c6] at h
        refine go_s 2 X (pc2 := 23) (st2 := [.int l3, .ref 0]) rfl ?_
        obtain ⟨r8, hq7, h⟩ := obind_inv h
        refine q_callV X [0, 1, 2, 3, 4, 5, 6, 7, 8, 9] [] (AH2 := [.inr (9, [.ref 1, .ref 2, .ref 3, .ref 4, .int (MVPc v), .int (MVIs v), .int (MVTh v), .ref 5, .int (MVSl v), .ref 6, .int (MVLn v), .int (MVEc v), .int (MVEo v), .int (MVSa v), .int (MVEn v), .int (MVTk v), .int (MVVa v), .int (MVFa v), .int (MVFo v), .ref 7, .int (MVSc v), .ref 8, .ref 9, .int (MVOl v)]), .inl (0, 500, .inl (MVSt v)), .inl (0, 500, .inl (MVAs v)), .inl (0, 500, .inl (MVSv v)), .inl (0, 4000, .inl (MVPt v)), .inl (0, 6, .inl (MVSp v)), .inl (3, 600, .inl (MVBf v)), .inl (0, 150, .inl (MVSm v)), .inl (0, 40, .inl (MVOr v)), .inl (3, 240, .inl (MVOu v))]) (st2 := [.int r8]) (c_X9_positionIn _ _ _ hq7) ⟨rfl, rfl⟩ rfl k_X9_positionIn l_X9_360 rfl rfl rfl rfl rfl (fit_of hR (by decide) (by decide) (by decide) (by decide)) (Nat.le_of_ble_eq_true rfl) (by decide) rfl rfl rfl ?_
        refine go_s 1 X (pc2 := 27) (st2 := [.int l2, .int r8]) rfl ?_
        refine r_icmp_ne X 32 rfl rfl (fun c10 => ?_) (fun c10 => ?_)
        · rw [if_neg c10] at h
          refine go_l 2 X (pc2 := 2) (ls2 := [some (.ref 0), some (.int l1), some (.int l2), some (.int (l3 + 1))]) (st2 := []) rfl ?_
          exact AW.eq (ih _ _ _ _ _ h) rfl rfl rfl rfl
        · rw [if_pos c10] at h
          refine go_s 1 X (pc2 := 31) (st2 := [.int l3]) rfl ?_
          cases h
          exact r_iret X rfl rfl ⟨rfl, rfl⟩ (by decide) (by decide)
set_option maxHeartbeats 400000 in
set_option maxRecDepth 20000 in
theorem c_X9_jobIn (v : MV) (a : Int32) (b : Int32) (r : Int32) (h : f_X9_jobIn v a b = some r) : Sem z_X9_jobIn 5 0 0 [.ref 0, .int a, .int b] (WM v) (PST (.inl (some (.int r))) (WM v)) := by
  refine Sem.of zo_X9_jobIn (by decide +kernel) (Nat.le_of_ble_eq_true rfl) fun κ X hE hR hN => ?_
  unfold f_X9_jobIn at h
  refine AW.eq (pc' := 0) (ls' := [some (.ref 0), some (.int a), some (.int b), none]) (st' := []) (AH' := [.inr (9, [.ref 1, .ref 2, .ref 3, .ref 4, .int (MVPc v), .int (MVIs v), .int (MVTh v), .ref 5, .int (MVSl v), .ref 6, .int (MVLn v), .int (MVEc v), .int (MVEo v), .int (MVSa v), .int (MVEn v), .int (MVTk v), .int (MVVa v), .int (MVFa v), .int (MVFo v), .ref 7, .int (MVSc v), .ref 8, .ref 9, .int (MVOl v)]), .inl (0, 500, .inl (MVSt v)), .inl (0, 500, .inl (MVAs v)), .inl (0, 500, .inl (MVSv v)), .inl (0, 4000, .inl (MVPt v)), .inl (0, 6, .inl (MVSp v)), .inl (3, 600, .inl (MVBf v)), .inl (0, 150, .inl (MVSm v)), .inl (0, 40, .inl (MVOr v)), .inl (3, 240, .inl (MVOu v))]) ?_ rfl rfl rfl rfl
  refine go_l 2 X (pc2 := 2) (ls2 := [some (.ref 0), some (.int a), some (.int b), some (.int 0)]) (st2 := []) rfl ?_
  exact AW.eq (a_X9_jobIn_h2 X hR FU _ _ _ _ _ h) rfl rfl rfl rfl
set_option maxHeartbeats 400000 in
set_option maxRecDepth 20000 in
theorem a_X9_isOrderConsistent_h48 {κ : KX} (X : CX κ z_X9_isOrderConsistent) (hR : κR κ = rmM 56 0 0) : ∀ (n : Nat) (l1 : Int32) (l2 : Int32) (l3 : Int32) (l4 : Int32) (v : MV) (r : Int32) (w : MV) (h : f_X9_isOrderConsistent_h48 n l1 l2 l3 l4 v = some (r, w)), AW κ (QM κ (PST (.inl (some (.int r))) (WM w)) 0 0) 48 [some (.ref 0), some (.int l1), some (.int l2), some (.int l3), some (.int l4), none] [] (WM v) 0 0 := by
  intro n
  induction n with
  | zero =>
    intro l1 l2 l3 l4 v r w h
    unfold f_X9_isOrderConsistent_h48 at h
    cases h
  | succ n ih =>
    intro l1 l2 l3 l4 v r w h
    unfold f_X9_isOrderConsistent_h48 at h
    refine AW.eq (pc' := 48) (ls' := [some (.ref 0), some (.int l1), some (.int l2), some (.int l3), some (.int l4), none]) (st' := []) (AH' := [.inr (9, [.ref 1, .ref 2, .ref 3, .ref 4, .int (MVPc v), .int (MVIs v), .int (MVTh v), .ref 5, .int (MVSl v), .ref 6, .int (MVLn v), .int (MVEc v), .int (MVEo v), .int (MVSa v), .int (MVEn v), .int (MVTk v), .int (MVVa v), .int (MVFa v), .int (MVFo v), .ref 7, .int (MVSc v), .ref 8, .ref 9, .int (MVOl v)]), .inl (0, 500, .inl (MVSt v)), .inl (0, 500, .inl (MVAs v)), .inl (0, 500, .inl (MVSv v)), .inl (0, 4000, .inl (MVPt v)), .inl (0, 6, .inl (MVSp v)), .inl (3, 600, .inl (MVBf v)), .inl (0, 150, .inl (MVSm v)), .inl (0, 40, .inl (MVOr v)), .inl (3, 240, .inl (MVOu v))]) ?_ rfl rfl rfl rfl
    refine go_s 2 X (pc2 := 51) (st2 := [.int l3, .int l4]) rfl ?_
    refine r_icmp_ge X 95 rfl rfl (fun c8 => ?_) (fun c8 => ?_)
    · rw [if_pos c8] at h
      refine go_s 3 X (pc2 := 100) (st2 := [.ref 2, .ref 0]) rfl ?_
      obtain ⟨r10, w11, hq9, h⟩ := bnd2_inv h
      refine q_callV X [0, 1, 2, 3, 4, 5, 6, 7, 8, 9] [] (AH2 := [.inr (9, [.ref 1, .ref 2, .ref 3, .ref 4, .int (MVPc w11), .int (MVIs w11), .int (MVTh w11), .ref 5, .int (MVSl w11), .ref 6, .int (MVLn w11), .int (MVEc w11), .int (MVEo w11), .int (MVSa w11), .int (MVEn w11), .int (MVTk w11), .int (MVVa w11), .int (MVFa w11), .int (MVFo w11), .ref 7, .int (MVSc w11), .ref 8, .ref 9, .int (MVOl w11)]), .inl (0, 500, .inl (MVSt w11)), .inl (0, 500, .inl (MVAs w11)), .inl (0, 500, .inl (MVSv w11)), .inl (0, 4000, .inl (MVPt w11)), .inl (0, 6, .inl (MVSp w11)), .inl (3, 600, .inl (MVBf w11)), .inl (0, 150, .inl (MVSm w11)), .inl (0, 40, .inl (MVOr w11)), .inl (3, 240, .inl (MVOu w11))]) (st2 := []) (c_X9_copyFrom_2 _ _ _ hq9) ⟨rfl, rfl⟩ rfl k_X9_copyFrom l_X9_262 rfl rfl rfl rfl rfl (fit_of hR (by decide) (by decide) (by decide) (by decide)) (Nat.le_of_ble_eq_true rfl) (by decide) rfl rfl rfl ?_
      refine go_s 1 X (pc2 := 104) (st2 := [.int l2]) rfl ?_
      by_cases b12 : ¬ (l2 = 0 ∨ l2 = 1)
      · rw [if_pos b12] at h; cases h
      rw [if_neg b12] at h
      cases h
      exact r_zret X (ty := .boolean) rfl rfl (nar_b b12) ⟨rfl, rfl⟩ (by decide) (by decide)
    · rw [if_neg c8] at h
      refine go_s 2 X (pc2 := 56) (st2 := [.int l1, .ref 0]) rfl ?_
      obtain ⟨r14, hq13, h⟩ := obind_inv h
      refine q_callV X [0, 1, 2, 3, 4, 5, 6, 7, 8, 9] [] (AH2 := [.inr (9, [.ref 1, .ref 2, .ref 3, .ref 4, .int (MVPc v), .int (MVIs v), .int (MVTh v), .ref 5, .int (MVSl v), .ref 6, .int (MVLn v), .int (MVEc v), .int (MVEo v), .int (MVSa v), .int (MVEn v), .int (MVTk v), .int (MVVa v), .int (MVFa v), .int (MVFo v), .ref 7, .int (MVSc v), .ref 8, .ref 9, .int (MVOl v)]), .inl (0, 500, .inl (MVSt v)), .inl (0, 500, .inl (MVAs v)), .inl (0, 500, .inl (MVSv v)), .inl (0, 4000, .inl (MVPt v)), .inl (0, 6, .inl (MVSp v)), .inl (3, 600, .inl (MVBf v)), .inl (0, 150, .inl (MVSm v)), .inl (0, 40, .inl (MVOr v)), .inl (3, 240, .inl (MVOu v))]) (st2 := [.int r14]) (c_X9_rootOf _ _ _ hq13) ⟨rfl, rfl⟩ rfl k_X9_rootOf l_X9_117 rfl rfl rfl rfl rfl (fit_of hR (by decide) (by decide) (by decide) (by decide)) (Nat.le_of_ble_eq_true rfl) (by decide) rfl rfl rfl ?_
      refine go_l 2 X (pc2 := 62) (ls2 := [some (.ref 0), some (.int l1), some (.int l2), some (.int l3), some (.int l4), some (.int r14)]) (st2 := [.int l2]) rfl ?_
      refine r_if_eq X 81 rfl rfl (fun c16 => ?_) (fun c16 => ?_)
      · rw [if_pos c16] at h
        refine go_l 4 X (pc2 := 86) (ls2 := [some (.ref 0), some (.int l1), some (.int 0), some (.int l3), some (.int l4), some (.int r14)]) (st2 := [.int r14, .ref 0]) rfl ?_
        obtain ⟨r18, w19, hq17, h⟩ := bnd2_inv h
        refine q_callV X [0, 1, 2, 3, 4, 5, 6, 7, 8, 9] [] (AH2 := [.inr (9, [.ref 1, .ref 2, .ref 3, .ref 4, .int (MVPc w19), .int (MVIs w19), .int (MVTh w19), .ref 5, .int (MVSl w19), .ref 6, .int (MVLn w19), .int (MVEc w19), .int (MVEo w19), .int (MVSa w19), .int (MVEn w19), .int (MVTk w19), .int (MVVa w19), .int (MVFa w19), .int (MVFo w19), .ref 7, .int (MVSc w19), .ref 8, .ref 9, .int (MVOl w19)]), .inl (0, 500, .inl (MVSt w19)), .inl (0, 500, .inl (MVAs w19)), .inl (0, 500, .inl (MVSv w19)), .inl (0, 4000, .inl (MVPt w19)), .inl (0, 6, .inl (MVSp w19)), .inl (3, 600, .inl (MVBf w19)), .inl (0, 150, .inl (MVSm w19)), .inl (0, 40, .inl (MVOr w19)), .inl (3, 240, .inl (MVOu w19))]) (st2 := []) (c_X9_remove _ _ _ _ hq17) ⟨rfl, rfl⟩ rfl k_X9_remove l_X9_140 rfl rfl rfl rfl rfl (fit_of hR (by decide) (by decide) (by decide) (by decide)) (Nat.le_of_ble_eq_true rfl) (by decide) rfl rfl rfl ?_
        refine go_l 2 X (pc2 := 48) (ls2 := [some (.ref 0), some (.int l1), some (.int 0), some (.int l3), some (.int (l4 + 1)), some (.int r14)]) (st2 := []) rfl ?_
        refine AW.forget (ls' := [some (.ref 0), some (.int l1), some (.int 0), some (.int l3), some (.int (l4 + 1)), none]) rfl (subL_of ⟨rfl, ⟨rfl, ⟨rfl, ⟨rfl, ⟨rfl, trivial⟩⟩⟩⟩⟩) ?_
        exact AW.eq (ih _ _ _ _ _ _ _ h) rfl rfl rfl rfl
      · rw [if_neg c16] at h
        refine go_s 4 X (pc2 := 73) (st2 := [.int l4, .ref 8, .int r14]) rfl ?_
        by_cases b20 : oob l4 40
        · rw [if_pos b20] at h; cases h
        rw [if_neg b20] at h
        refine r_iald X rfl rfl b20 ?_
        refine r_icmp_ne X 81 rfl rfl (fun c21 => ?_) (fun c21 => ?_)
        · rw [if_neg c21] at h
          refine go_l 4 X (pc2 := 86) (ls2 := [some (.ref 0), some (.int l1), some (.int 0), some (.int l3), some (.int l4), some (.int r14)]) (st2 := [.int r14, .ref 0]) rfl ?_
          obtain ⟨r23, w24, hq22, h⟩ := bnd2_inv h
          refine q_callV X [0, 1, 2, 3, 4, 5, 6, 7, 8, 9] [] (AH2 := [.inr (9, [.ref 1, .ref 2, .ref 3, .ref 4, .int (MVPc w24), .int (MVIs w24), .int (MVTh w24), .ref 5, .int (MVSl w24), .ref 6, .int (MVLn w24), .int (MVEc w24), .int (MVEo w24), .int (MVSa w24), .int (MVEn w24), .int (MVTk w24), .int (MVVa w24), .int (MVFa w24), .int (MVFo w24), .ref 7, .int (MVSc w24), .ref 8, .ref 9, .int (MVOl w24)]), .inl (0, 500, .inl (MVSt w24)), .inl (0, 500, .inl (MVAs w24)), .inl (0, 500, .inl (MVSv w24)), .inl (0, 4000, .inl (MVPt w24)), .inl (0, 6, .inl (MVSp w24)), .inl (3, 600, .inl (MVBf w24)), .inl (0, 150, .inl (MVSm w24)), .inl (0, 40, .inl (MVOr w24)), .inl (3, 240, .inl (MVOu w24))]) (st2 := []) (c_X9_remove _ _ _ _ hq22) ⟨rfl, rfl⟩ rfl k_X9_remove l_X9_140 rfl rfl rfl rfl rfl (fit_of hR (by decide) (by decide) (by decide) (by decide)) (Nat.le_of_ble_eq_true rfl) (by decide) rfl rfl rfl ?_
          refine go_l 2 X (pc2 := 48) (ls2 := [some (.ref 0), some (.int l1), some (.int 0), some (.int l3), some (.int (l4 + 1)), some (.int r14)]) (st2 := []) rfl ?_
          refine AW.forget (ls' := [some (.ref 0), some (.int l1), some (.int 0), some (.int l3), some (.int (l4 + 1)), none]) rfl (subL_of ⟨rfl, ⟨rfl, ⟨rfl, ⟨rfl, ⟨rfl, trivial⟩⟩⟩⟩⟩) ?_
          exact AW.eq (ih _ _ _ _ _ _ _ h) rfl rfl rfl rfl
        · rw [if_pos c21] at h
          refine go_l 5 X (pc2 := 86) (ls2 := [some (.ref 0), some (.int l1), some (.int 1), some (.int l3), some (.int l4), some (.int r14)]) (st2 := [.int r14, .ref 0]) rfl ?_
          obtain ⟨r26, w27, hq25, h⟩ := bnd2_inv h
          refine q_callV X [0, 1, 2, 3, 4, 5, 6, 7, 8, 9] [] (AH2 := [.inr (9, [.ref 1, .ref 2, .ref 3, .ref 4, .int (MVPc w27), .int (MVIs w27), .int (MVTh w27), .ref 5, .int (MVSl w27), .ref 6, .int (MVLn w27), .int (MVEc w27), .int (MVEo w27), .int (MVSa w27), .int (MVEn w27), .int (MVTk w27), .int (MVVa w27), .int (MVFa w27), .int (MVFo w27), .ref 7, .int (MVSc w27), .ref 8, .ref 9, .int (MVOl w27)]), .inl (0, 500, .inl (MVSt w27)), .inl (0, 500, .inl (MVAs w27)), .inl (0, 500, .inl (MVSv w27)), .inl (0, 4000, .inl (MVPt w27)), .inl (0, 6, .inl (MVSp w27)), .inl (3, 600, .inl (MVBf w27)), .inl (0, 150, .inl (MVSm w27)), .inl (0, 40, .inl (MVOr w27)), .inl (3, 240, .inl (MVOu w27))]) (st2 := []) (c_X9_remove _ _ _ _ hq25) ⟨rfl, rfl⟩ rfl k_X9_remove l_X9_140 rfl rfl rfl rfl rfl (fit_of hR (by decide) (by decide) (by decide) (by decide)) (Nat.le_of_ble_eq_true rfl) (by decide) rfl rfl rfl ?_
          refine go_l 2 X (pc2 := 48) (ls2 := [some (.ref 0), some (.int l1), some (.int 1), some (.int l3), some (.int (l4 + 1)), some (.int r14)]) (st2 := []) rfl ?_
          refine AW.forget (ls' := [some (.ref 0), some (.int l1), some (.int 1), some (.int l3), some (.int (l4 + 1)), none]) rfl (subL_of ⟨rfl, ⟨rfl, ⟨rfl, ⟨rfl, ⟨rfl, trivial⟩⟩⟩⟩⟩) ?_
          exact AW.eq (ih _ _ _ _ _ _ _ h) rfl rfl rfl rfl
set_option maxHeartbeats 400000 in
set_option maxRecDepth 20000 in
theorem a_X9_isOrderConsistent_h11 {κ : KX} (X : CX κ z_X9_isOrderConsistent) (hR : κR κ = rmM 56 0 0) : ∀ (n : Nat) (l1 : Int32) (l2 : Int32) (l3 : Int32) (l4 : Int32) (v : MV) (r : Int32) (w : MV) (h : f_X9_isOrderConsistent_h11 n l1 l2 l3 l4 v = some (r, w)), AW κ (QM κ (PST (.inl (some (.int r))) (WM w)) 0 0) 11 [some (.ref 0), some (.int l1), some (.int l2), some (.int l3), some (.int l4), none] [] (WM v) 0 0 := by
  intro n
  induction n with
  | zero =>
    intro l1 l2 l3 l4 v r w h
    unfold f_X9_isOrderConsistent_h11 at h
    cases h
  | succ n ih =>
    intro l1 l2 l3 l4 v r w h
    unfold f_X9_isOrderConsistent_h11 at h
    refine AW.eq (pc' := 11) (ls' := [some (.ref 0), some (.int l1), some (.int l2), some (.int l3), some (.int l4), none]) (st' := []) (AH' := [.inr (9, [.ref 1, .ref 2, .ref 3, .ref 4, .int (MVPc v), .int (MVIs v), .int (MVTh v), .ref 5, .int (MVSl v), .ref 6, .int (MVLn v), .int (MVEc v), .int (MVEo v), .int (MVSa v), .int (MVEn v), .int (MVTk v), .int (MVVa v), .int (MVFa v), .int (MVFo v), .ref 7, .int (MVSc v), .ref 8, .ref 9, .int (MVOl v)]), .inl (0, 500, .inl (MVSt v)), .inl (0, 500, .inl (MVAs v)), .inl (0, 500, .inl (MVSv v)), .inl (0, 4000, .inl (MVPt v)), .inl (0, 6, .inl (MVSp v)), .inl (3, 600, .inl (MVBf v)), .inl (0, 150, .inl (MVSm v)), .inl (0, 40, .inl (MVOr v)), .inl (3, 240, .inl (MVOu v))]) ?_ rfl rfl rfl rfl
    refine go_s 2 X (pc2 := 14) (st2 := [.int l3, .int l4]) rfl ?_
    refine r_icmp_ge X 37 rfl rfl (fun c4 => ?_) (fun c4 => ?_)
    · rw [if_pos c4] at h
      refine go_s 3 X (pc2 := 42) (st2 := [.ref 2, .ref 0]) rfl ?_
      obtain ⟨r6, w7, hq5, h⟩ := bnd2_inv h
      refine q_callV X [0, 1, 2, 3, 4, 5, 6, 7, 8, 9] [] (AH2 := [.inr (9, [.ref 1, .ref 2, .ref 3, .ref 4, .int (MVPc w7), .int (MVIs w7), .int (MVTh w7), .ref 5, .int (MVSl w7), .ref 6, .int (MVLn w7), .int (MVEc w7), .int (MVEo w7), .int (MVSa w7), .int (MVEn w7), .int (MVTk w7), .int (MVVa w7), .int (MVFa w7), .int (MVFo w7), .ref 7, .int (MVSc w7), .ref 8, .ref 9, .int (MVOl w7)]), .inl (0, 500, .inl (MVSt w7)), .inl (0, 500, .inl (MVAs w7)), .inl (0, 500, .inl (MVSv w7)), .inl (0, 4000, .inl (MVPt w7)), .inl (0, 6, .inl (MVSp w7)), .inl (3, 600, .inl (MVBf w7)), .inl (0, 150, .inl (MVSm w7)), .inl (0, 40, .inl (MVOr w7)), .inl (3, 240, .inl (MVOu w7))]) (st2 := []) (c_X9_copyTo_2 _ _ _ hq5) ⟨rfl, rfl⟩ rfl k_X9_copyTo l_X9_246 rfl rfl rfl rfl rfl (fit_of hR (by decide) (by decide) (by decide) (by decide)) (Nat.le_of_ble_eq_true rfl) (by decide) rfl rfl rfl ?_
      refine go_l 2 X (pc2 := 48) (ls2 := [some (.ref 0), some (.int l1), some (.int l2), some (.int l3), some (.int 0), none]) (st2 := []) rfl ?_
      exact AW.eq (a_X9_isOrderConsistent_h48 X hR FU _ _ _ _ _ _ _ h) rfl rfl rfl rfl
    · rw [if_neg c4] at h
      refine go_s 6 X (pc2 := 27) (st2 := [.int l4, .int l1, .ref 0, .int l4, .ref 8]) rfl ?_
      obtain ⟨r29, hq28, h⟩ := obind_inv h
      refine q_callV X [0, 1, 2, 3, 4, 5, 6, 7, 8, 9] [] (AH2 := [.inr (9, [.ref 1, .ref 2, .ref 3, .ref 4, .int (MVPc v), .int (MVIs v), .int (MVTh v), .ref 5, .int (MVSl v), .ref 6, .int (MVLn v), .int (MVEc v), .int (MVEo v), .int (MVSa v), .int (MVEn v), .int (MVTk v), .int (MVVa v), .int (MVFa v), .int (MVFo v), .ref 7, .int (MVSc v), .ref 8, .ref 9, .int (MVOl v)]), .inl (0, 500, .inl (MVSt v)), .inl (0, 500, .inl (MVAs v)), .inl (0, 500, .inl (MVSv v)), .inl (0, 4000, .inl (MVPt v)), .inl (0, 6, .inl (MVSp v)), .inl (3, 600, .inl (MVBf v)), .inl (0, 150, .inl (MVSm v)), .inl (0, 40, .inl (MVOr v)), .inl (3, 240, .inl (MVOu v))]) (st2 := [.int r29, .int l4, .ref 8]) (c_X9_jobIn _ _ _ _ hq28) ⟨rfl, rfl⟩ rfl k_X9_jobIn l_X9_363 rfl rfl rfl rfl rfl (fit_of hR (by decide) (by decide) (by decide) (by decide)) (Nat.le_of_ble_eq_true rfl) (by decide) rfl rfl rfl ?_
      by_cases b31 : oob l4 40
      · rw [if_pos b31] at h; cases h
      rw [if_neg b31] at h
      refine r_iast X rfl rfl b31 ?_
      refine go_l 2 X (pc2 := 11) (ls2 := [some (.ref 0), some (.int l1), some (.int l2), some (.int l3), some (.int (l4 + 1)), none]) (st2 := []) rfl ?_
      exact AW.eq (ih _ _ _ _ _ _ _ h) rfl rfl rfl rfl
set_option maxHeartbeats 400000 in
set_option maxRecDepth 20000 in
theorem c_X9_isOrderConsistent (v : MV) (a : Int32) (r : Int32) (w : MV) (h : f_X9_isOrderConsistent v a = some (r, w)) : Sem z_X9_isOrderConsistent 56 0 0 [.ref 0, .int a] (WM v) (PST (.inl (some (.int r))) (WM w)) := by
  refine Sem.of zo_X9_isOrderConsistent (by decide +kernel) (Nat.le_of_ble_eq_true rfl) fun κ X hE hR hN => ?_
  unfold f_X9_isOrderConsistent at h
  refine AW.eq (pc' := 0) (ls' := [some (.ref 0), some (.int a), none, none, none, none]) (st' := []) (AH' := [.inr (9, [.ref 1, .ref 2, .ref 3, .ref 4, .int (MVPc v), .int (MVIs v), .int (MVTh v), .ref 5, .int (MVSl v), .ref 6, .int (MVLn v), .int (MVEc v), .int (MVEo v), .int (MVSa v), .int (MVEn v), .int (MVTk v), .int (MVVa v), .int (MVFa v), .int (MVFo v), .ref 7, .int (MVSc v), .ref 8, .ref 9, .int (MVOl v)]), .inl (0, 500, .inl (MVSt v)), .inl (0, 500, .inl (MVAs v)), .inl (0, 500, .inl (MVSv v)), .inl (0, 4000, .inl (MVPt v)), .inl (0, 6, .inl (MVSp v)), .inl (3, 600, .inl (MVBf v)), .inl (0, 150, .inl (MVSm v)), .inl (0, 40, .inl (MVOr v)), .inl (3, 240, .inl (MVOu v))]) ?_ rfl rfl rfl rfl
  refine go_l 4 X (pc2 := 4) (ls2 := [some (.ref 0), some (.int a), some (.int 1), none, none, none]) (st2 := [.int a, .ref 0]) rfl ?_
  obtain ⟨r2, hq1, h⟩ := obind_inv h
  refine q_callV X [0, 1, 2, 3, 4, 5, 6, 7, 8, 9] [] (AH2 := [.inr (9, [.ref 1, .ref 2, .ref 3, .ref 4, .int (MVPc v), .int (MVIs v), .int (MVTh v), .ref 5, .int (MVSl v), .ref 6, .int (MVLn v), .int (MVEc v), .int (MVEo v), .int (MVSa v), .int (MVEn v), .int (MVTk v), .int (MVVa v), .int (MVFa v), .int (MVFo v), .ref 7, .int (MVSc v), .ref 8, .ref 9, .int (MVOl v)]), .inl (0, 500, .inl (MVSt v)), .inl (0, 500, .inl (MVAs v)), .inl (0, 500, .inl (MVSv v)), .inl (0, 4000, .inl (MVPt v)), .inl (0, 6, .inl (MVSp v)), .inl (3, 600, .inl (MVBf v)), .inl (0, 150, .inl (MVSm v)), .inl (0, 40, .inl (MVOr v)), .inl (3, 240, .inl (MVOu v))]) (st2 := [.int r2]) (c_X9_sizeOf _ _ _ hq1) ⟨rfl, rfl⟩ rfl k_X9_sizeOf l_X9_143 rfl rfl rfl rfl rfl (fit_of hR (by decide) (by decide) (by decide) (by decide)) (Nat.le_of_ble_eq_true rfl) (by decide) rfl rfl rfl ?_
  refine go_l 3 X (pc2 := 11) (ls2 := [some (.ref 0), some (.int a), some (.int 1), some (.int r2), some (.int 0), none]) (st2 := []) rfl ?_
  exact AW.eq (a_X9_isOrderConsistent_h11 X hR FU _ _ _ _ _ _ _ h) rfl rfl rfl rfl
set_option maxHeartbeats 400000 in
set_option maxRecDepth 20000 in
theorem c_X9_isLinked (v : MV) (a : Int32) (b : Int32) (r : Int32) (h : f_X9_isLinked v a b = some r) : Sem z_X9_isLinked 3 0 0 [.ref 0, .int a, .int b] (WM v) (PST (.inl (some (.int r))) (WM v)) := by
  refine Sem.of zo_X9_isLinked (by decide +kernel) (Nat.le_of_ble_eq_true rfl) fun κ X hE hR hN => ?_
  unfold f_X9_isLinked at h
  refine AW.eq (pc' := 0) (ls' := [some (.ref 0), some (.int a), some (.int b)]) (st' := []) (AH' := [.inr (9, [.ref 1, .ref 2, .ref 3, .ref 4, .int (MVPc v), .int (MVIs v), .int (MVTh v), .ref 5, .int (MVSl v), .ref 6, .int (MVLn v), .int (MVEc v), .int (MVEo v), .int (MVSa v), .int (MVEn v), .int (MVTk v), .int (MVVa v), .int (MVFa v), .int (MVFo v), .ref 7, .int (MVSc v), .ref 8, .ref 9, .int (MVOl v)]), .inl (0, 500, .inl (MVSt v)), .inl (0, 500, .inl (MVAs v)), .inl (0, 500, .inl (MVSv v)), .inl (0, 4000, .inl (MVPt v)), .inl (0, 6, .inl (MVSp v)), .inl (3, 600, .inl (MVBf v)), .inl (0, 150, .inl (MVSm v)), .inl (0, 40, .inl (MVOr v)), .inl (3, 240, .inl (MVOu v))]) ?_ rfl rfl rfl rfl
  refine go_s 2 X (pc2 := 2) (st2 := [.int (-1), .int b]) rfl ?_
  refine r_icmp_eq X 39 rfl rfl (fun c1 => ?_) (fun c1 => ?_)
  · rw [if_pos c1] at h
    refine go_s 2 X (pc2 := 44) (st2 := [.int 1]) rfl ?_
    cases h
    exact r_zret X (ty := .boolean) rfl rfl rfl ⟨rfl, rfl⟩ (by decide) (by decide)
  · rw [if_neg c1] at h
    refine go_s 2 X (pc2 := 7) (st2 := [.int b, .ref 0]) rfl ?_
    obtain ⟨r3, hq2, h⟩ := obind_inv h
    refine q_callV X [0, 1, 2, 3, 4, 5, 6, 7, 8, 9] [] (AH2 := [.inr (9, [.ref 1, .ref 2, .ref 3, .ref 4, .int (MVPc v), .int (MVIs v), .int (MVTh v), .ref 5, .int (MVSl v), .ref 6, .int (MVLn v), .int (MVEc v), .int (MVEo v), .int (MVSa v), .int (MVEn v), .int (MVTk v), .int (MVVa v), .int (MVFa v), .int (MVFo v), .ref 7, .int (MVSc v), .ref 8, .ref 9, .int (MVOl v)]), .inl (0, 500, .inl (MVSt v)), .inl (0, 500, .inl (MVAs v)), .inl (0, 500, .inl (MVSv v)), .inl (0, 4000, .inl (MVPt v)), .inl (0, 6, .inl (MVSp v)), .inl (3, 600, .inl (MVBf v)), .inl (0, 150, .inl (MVSm v)), .inl (0, 40, .inl (MVOr v)), .inl (3, 240, .inl (MVOu v))]) (st2 := [.int r3]) (c_X9_waits _ _ _ hq2) ⟨rfl, rfl⟩ rfl k_X9_waits l_X9_130 rfl rfl rfl rfl rfl (fit_of hR (by decide) (by decide) (by decide) (by decide)) (Nat.le_of_ble_eq_true rfl) (by decide) rfl rfl rfl ?_
    refine r_if_eq X 43 rfl rfl (fun c5 => ?_) (fun c5 => ?_)
    · rw [if_pos c5] at h
      refine go_s 1 X (pc2 := 44) (st2 := [.int 0]) rfl ?_
      cases h
      exact r_zret X (ty := .boolean) rfl rfl rfl ⟨rfl, rfl⟩ (by decide) (by decide)
    · rw [if_neg c5] at h
      refine go_s 3 X (pc2 := 17) (st2 := [.int 7, .int b, .ref 0]) rfl ?_
      obtain ⟨r7, hq6, h⟩ := obind_inv h
      refine q_callV X [0, 1, 2, 3, 4, 5, 6, 7, 8, 9] [] (AH2 := [.inr (9, [.ref 1, .ref 2, .ref 3, .ref 4, .int (MVPc v), .int (MVIs v), .int (MVTh v), .ref 5, .int (MVSl v), .ref 6, .int (MVLn v), .int (MVEc v), .int (MVEo v), .int (MVSa v), .int (MVEn v), .int (MVTk v), .int (MVVa v), .int (MVFa v), .int (MVFo v), .ref 7, .int (MVSc v), .ref 8, .ref 9, .int (MVOl v)]), .inl (0, 500, .inl (MVSt v)), .inl (0, 500, .inl (MVAs v)), .inl (0, 500, .inl (MVSv v)), .inl (0, 4000, .inl (MVPt v)), .inl (0, 6, .inl (MVSp v)), .inl (3, 600, .inl (MVBf v)), .inl (0, 150, .inl (MVSm v)), .inl (0, 40, .inl (MVOr v)), .inl (3, 240, .inl (MVOu v))]) (st2 := [.int r7]) (c_X9_get _ _ _ _ hq6) ⟨rfl, rfl⟩ rfl k_X9_get l_X9_90 rfl rfl rfl rfl rfl (fit_of hR (by decide) (by decide) (by decide) (by decide)) (Nat.le_of_ble_eq_true rfl) (by decide) rfl rfl rfl ?_
      refine go_s 1 X (pc2 := 21) (st2 := [.int a, .int r7]) rfl ?_
      refine r_icmp_ne X 43 rfl rfl (fun c9 => ?_) (fun c9 => ?_)
      · rw [if_neg c9] at h
        refine go_s 1 X (pc2 := 44) (st2 := [.int 0]) rfl ?_
        cases h
        exact r_zret X (ty := .boolean) rfl rfl rfl ⟨rfl, rfl⟩ (by decide) (by decide)
      · rw [if_pos c9] at h
        refine go_s 3 X (pc2 := 27) (st2 := [.int 4, .int b, .ref 0]) rfl ?_
        obtain ⟨r11, hq10, h⟩ := obind_inv h
        refine q_callV X [0, 1, 2, 3, 4, 5, 6, 7, 8, 9] [] (AH2 := [.inr (9, [.ref 1, .ref 2, .ref 3, .ref 4, .int (MVPc v), .int (MVIs v), .int (MVTh v), .ref 5, .int (MVSl v), .ref 6, .int (MVLn v), .int (MVEc v), .int (MVEo v), .int (MVSa v), .int (MVEn v), .int (MVTk v), .int (MVVa v), .int (MVFa v), .int (MVFo v), .ref 7, .int (MVSc v), .ref 8, .ref 9, .int (MVOl v)]), .inl (0, 500, .inl (MVSt v)), .inl (0, 500, .inl (MVAs v)), .inl (0, 500, .inl (MVSv v)), .inl (0, 4000, .inl (MVPt v)), .inl (0, 6, .inl (MVSp v)), .inl (3, 600, .inl (MVBf v)), .inl (0, 150, .inl (MVSm v)), .inl (0, 40, .inl (MVOr v)), .inl (3, 240, .inl (MVOu v))]) (st2 := [.int r11]) (c_X9_get _ _ _ _ hq10) ⟨rfl, rfl⟩ rfl k_X9_get l_X9_90 rfl rfl rfl rfl rfl (fit_of hR (by decide) (by decide) (by decide) (by decide)) (Nat.le_of_ble_eq_true rfl) (by decide) rfl rfl rfl ?_
        refine go_s 3 X (pc2 := 33) (st2 := [.int 4, .int a, .ref 0, .int r11]) rfl ?_
        obtain ⟨r14, hq13, h⟩ := obind_inv h
        refine q_callV X [0, 1, 2, 3, 4, 5, 6, 7, 8, 9] [] (AH2 := [.inr (9, [.ref 1, .ref 2, .ref 3, .ref 4, .int (MVPc v), .int (MVIs v), .int (MVTh v), .ref 5, .int (MVSl v), .ref 6, .int (MVLn v), .int (MVEc v), .int (MVEo v), .int (MVSa v), .int (MVEn v), .int (MVTk v), .int (MVVa v), .int (MVFa v), .int (MVFo v), .ref 7, .int (MVSc v), .ref 8, .ref 9, .int (MVOl v)]), .inl (0, 500, .inl (MVSt v)), .inl (0, 500, .inl (MVAs v)), .inl (0, 500, .inl (MVSv v)), .inl (0, 4000, .inl (MVPt v)), .inl (0, 6, .inl (MVSp v)), .inl (3, 600, .inl (MVBf v)), .inl (0, 150, .inl (MVSm v)), .inl (0, 40, .inl (MVOr v)), .inl (3, 240, .inl (MVOu v))]) (st2 := [.int r14, .int r11]) (c_X9_get _ _ _ _ hq13) ⟨rfl, rfl⟩ rfl k_X9_get l_X9_90 rfl rfl rfl rfl rfl (fit_of hR (by decide) (by decide) (by decide) (by decide)) (Nat.le_of_ble_eq_true rfl) (by decide) rfl rfl rfl ?_
        refine r_icmp_ne X 43 rfl rfl (fun c16 => ?_) (fun c16 => ?_)
        · rw [if_neg c16] at h
          refine go_s 1 X (pc2 := 44) (st2 := [.int 0]) rfl ?_
          cases h
          exact r_zret X (ty := .boolean) rfl rfl rfl ⟨rfl, rfl⟩ (by decide) (by decide)
        · rw [if_pos c16] at h
          refine go_s 2 X (pc2 := 44) (st2 := [.int 1]) rfl ?_
          cases h
          exact r_zret X (ty := .boolean) rfl rfl rfl ⟨rfl, rfl⟩ (by decide) (by decide)
set_option maxHeartbeats 400000 in
set_option maxRecDepth 20000 in
theorem c_X9_isNodeConsistent (v : MV) (a : Int32) (r : Int32) (h : f_X9_isNodeConsistent v a = some r) : Sem z_X9_isNodeConsistent 4 0 0 [.ref 0, .int a] (WM v) (PST (.inl (some (.int r))) (WM v)) := by
  refine Sem.of zo_X9_isNodeConsistent (by decide +kernel) (Nat.le_of_ble_eq_true rfl) fun κ X hE hR hN => ?_
  unfold f_X9_isNodeConsistent at h
  refine AW.eq (pc' := 0) (ls' := [some (.ref 0), some (.int a), none, none, none]) (st' := []) (AH' := [.inr (9, [.ref 1, .ref 2, .ref 3, .ref 4, .int (MVPc v), .int (MVIs v), .int (MVTh v), .ref 5, .int (MVSl v), .ref 6, .int (MVLn v), .int (MVEc v), .int (MVEo v), .int (MVSa v), .int (MVEn v), .int (MVTk v), .int (MVVa v), .int (MVFa v), .int (MVFo v), .ref 7, .int (MVSc v), .ref 8, .ref 9, .int (MVOl v)]), .inl (0, 500, .inl (MVSt v)), .inl (0, 500, .inl (MVAs v)), .inl (0, 500, .inl (MVSv v)), .inl (0, 4000, .inl (MVPt v)), .inl (0, 6, .inl (MVSp v)), .inl (3, 600, .inl (MVBf v)), .inl (0, 150, .inl (MVSm v)), .inl (0, 40, .inl (MVOr v)), .inl (3, 240, .inl (MVOu v))]) ?_ rfl rfl rfl rfl
  refine go_s 3 X (pc2 := 3) (st2 := [.int 5, .int a, .ref 0]) rfl ?_
  obtain ⟨r2, hq1, h⟩ := obind_inv h
  refine q_callV X [0, 1, 2, 3, 4, 5, 6, 7, 8, 9] [] (AH2 := [.inr (9, [.ref 1, .ref 2, .ref 3, .ref 4, .int (MVPc v), .int (MVIs v), .int (MVTh v), .ref 5, .int (MVSl v), .ref 6, .int (MVLn v), .int (MVEc v), .int (MVEo v), .int (MVSa v), .int (MVEn v), .int (MVTk v), .int (MVVa v), .int (MVFa v), .int (MVFo v), .ref 7, .int (MVSc v), .ref 8, .ref 9, .int (MVOl v)]), .inl (0, 500, .inl (MVSt v)), .inl (0, 500, .inl (MVAs v)), .inl (0, 500, .inl (MVSv v)), .inl (0, 4000, .inl (MVPt v)), .inl (0, 6, .inl (MVSp v)), .inl (3, 600, .inl (MVBf v)), .inl (0, 150, .inl (MVSm v)), .inl (0, 40, .inl (MVOr v)), .inl (3, 240, .inl (MVOu v))]) (st2 := [.int r2]) (c_X9_get _ _ _ _ hq1) ⟨rfl, rfl⟩ rfl k_X9_get l_X9_90 rfl rfl rfl rfl rfl (fit_of hR (by decide) (by decide) (by decide) (by decide)) (Nat.le_of_ble_eq_true rfl) (by decide) rfl rfl rfl ?_
  refine go_l 4 X (pc2 := 11) (ls2 := [some (.ref 0), some (.int a), some (.int r2), none, none]) (st2 := [.int 6, .int a, .ref 0]) rfl ?_
  obtain ⟨r5, hq4, h⟩ := obind_inv h
  refine q_callV X [0, 1, 2, 3, 4, 5, 6, 7, 8, 9] [] (AH2 := [.inr (9, [.ref 1, .ref 2, .ref 3, .ref 4, .int (MVPc v), .int (MVIs v), .int (MVTh v), .ref 5, .int (MVSl v), .ref 6, .int (MVLn v), .int (MVEc v), .int (MVEo v), .int (MVSa v), .int (MVEn v), .int (MVTk v), .int (MVVa v), .int (MVFa v), .int (MVFo v), .ref 7, .int (MVSc v), .ref 8, .ref 9, .int (MVOl v)]), .inl (0, 500, .inl (MVSt v)), .inl (0, 500, .inl (MVAs v)), .inl (0, 500, .inl (MVSv v)), .inl (0, 4000, .inl (MVPt v)), .inl (0, 6, .inl (MVSp v)), .inl (3, 600, .inl (MVBf v)), .inl (0, 150, .inl (MVSm v)), .inl (0, 40, .inl (MVOr v)), .inl (3, 240, .inl (MVOu v))]) (st2 := [.int r5]) (c_X9_get _ _ _ _ hq4) ⟨rfl, rfl⟩ rfl k_X9_get l_X9_90 rfl rfl rfl rfl rfl (fit_of hR (by decide) (by decide) (by decide) (by decide)) (Nat.le_of_ble_eq_true rfl) (by decide) rfl rfl rfl ?_
  refine go_l 4 X (pc2 := 19) (ls2 := [some (.ref 0), some (.int a), some (.int r2), some (.int r5), none]) (st2 := [.int 7, .int a, .ref 0]) rfl ?_
  obtain ⟨r8, hq7, h⟩ := obind_inv h
  refine q_callV X [0, 1, 2, 3, 4, 5, 6, 7, 8, 9] [] (AH2 := [.inr (9, [.ref 1, .ref 2, .ref 3, .ref 4, .int (MVPc v), .int (MVIs v), .int (MVTh v), .ref 5, .int (MVSl v), .ref 6, .int (MVLn v), .int (MVEc v), .int (MVEo v), .int (MVSa v), .int (MVEn v), .int (MVTk v), .int (MVVa v), .int (MVFa v), .int (MVFo v), .ref 7, .int (MVSc v), .ref 8, .ref 9, .int (MVOl v)]), .inl (0, 500, .inl (MVSt v)), .inl (0, 500, .inl (MVAs v)), .inl (0, 500, .inl (MVSv v)), .inl (0, 4000, .inl (MVPt v)), .inl (0, 6, .inl (MVSp v)), .inl (3, 600, .inl (MVBf v)), .inl (0, 150, .inl (MVSm v)), .inl (0, 40, .inl (MVOr v)), .inl (3, 240, .inl (MVOu v))]) (st2 := [.int r8]) (c_X9_get _ _ _ _ hq7) ⟨rfl, rfl⟩ rfl k_X9_get l_X9_90 rfl rfl rfl rfl rfl (fit_of hR (by decide) (by decide) (by decide) (by decide)) (Nat.le_of_ble_eq_true rfl) (by decide) rfl rfl rfl ?_
  refine go_l 3 X (pc2 := 27) (ls2 := [some (.ref 0), some (.int a), some (.int r2), some (.int r5), some (.int r8)]) (st2 := [.int (-1), .int r8]) rfl ?_
  refine r_icmp_eq X 42 rfl rfl (fun c10 => ?_) (fun c10 => ?_)
  · rw [if_pos c10] at h
    refine go_s 2 X (pc2 := 44) (st2 := [.int r2, .ref 0]) rfl ?_
    obtain ⟨r12, hq11, h⟩ := obind_inv h
    refine q_callV X [0, 1, 2, 3, 4, 5, 6, 7, 8, 9] [] (AH2 := [.inr (9, [.ref 1, .ref 2, .ref 3, .ref 4, .int (MVPc v), .int (MVIs v), .int (MVTh v), .ref 5, .int (MVSl v), .ref 6, .int (MVLn v), .int (MVEc v), .int (MVEo v), .int (MVSa v), .int (MVEn v), .int (MVTk v), .int (MVVa v), .int (MVFa v), .int (MVFo v), .ref 7, .int (MVSc v), .ref 8, .ref 9, .int (MVOl v)]), .inl (0, 500, .inl (MVSt v)), .inl (0, 500, .inl (MVAs v)), .inl (0, 500, .inl (MVSv v)), .inl (0, 4000, .inl (MVPt v)), .inl (0, 6, .inl (MVSp v)), .inl (3, 600, .inl (MVBf v)), .inl (0, 150, .inl (MVSm v)), .inl (0, 40, .inl (MVOr v)), .inl (3, 240, .inl (MVOu v))]) (st2 := [.int r12]) (c_X9_rankOf _ _ _ hq11) ⟨rfl, rfl⟩ rfl k_X9_rankOf l_X9_98 rfl rfl rfl rfl rfl (fit_of hR (by decide) (by decide) (by decide) (by decide)) (Nat.le_of_ble_eq_true rfl) (by decide) rfl rfl rfl ?_
    refine go_s 2 X (pc2 := 49) (st2 := [.int r5, .ref 0, .int r12]) rfl ?_
    obtain ⟨r15, hq14, h⟩ := obind_inv h
    refine q_callV X [0, 1, 2, 3, 4, 5, 6, 7, 8, 9] [] (AH2 := [.inr (9, [.ref 1, .ref 2, .ref 3, .ref 4, .int (MVPc v), .int (MVIs v), .int (MVTh v), .ref 5, .int (MVSl v), .ref 6, .int (MVLn v), .int (MVEc v), .int (MVEo v), .int (MVSa v), .int (MVEn v), .int (MVTk v), .int (MVVa v), .int (MVFa v), .int (MVFo v), .ref 7, .int (MVSc v), .ref 8, .ref 9, .int (MVOl v)]), .inl (0, 500, .inl (MVSt v)), .inl (0, 500, .inl (MVAs v)), .inl (0, 500, .inl (MVSv v)), .inl (0, 4000, .inl (MVPt v)), .inl (0, 6, .inl (MVSp v)), .inl (3, 600, .inl (MVBf v)), .inl (0, 150, .inl (MVSm v)), .inl (0, 40, .inl (MVOr v)), .inl (3, 240, .inl (MVOu v))]) (st2 := [.int r15, .int r12]) (c_X9_rankOf _ _ _ hq14) ⟨rfl, rfl⟩ rfl k_X9_rankOf l_X9_98 rfl rfl rfl rfl rfl (fit_of hR (by decide) (by decide) (by decide) (by decide)) (Nat.le_of_ble_eq_true rfl) (by decide) rfl rfl rfl ?_
    refine r_icmp_lt X 72 rfl rfl (fun c17 => ?_) (fun c17 => ?_)
    · rw [if_pos c17] at h
      refine go_s 1 X (pc2 := 73) (st2 := [.int 0]) rfl ?_
      cases h
      exact r_zret X (ty := .boolean) rfl rfl rfl ⟨rfl, rfl⟩ (by decide) (by decide)
    · rw [if_neg c17] at h
      refine go_s 3 X (pc2 := 59) (st2 := [.int 8, .int a, .ref 0]) rfl ?_
      obtain ⟨r19, hq18, h⟩ := obind_inv h
      refine q_callV X [0, 1, 2, 3, 4, 5, 6, 7, 8, 9] [] (AH2 := [.inr (9, [.ref 1, .ref 2, .ref 3, .ref 4, .int (MVPc v), .int (MVIs v), .int (MVTh v), .ref 5, .int (MVSl v), .ref 6, .int (MVLn v), .int (MVEc v), .int (MVEo v), .int (MVSa v), .int (MVEn v), .int (MVTk v), .int (MVVa v), .int (MVFa v), .int (MVFo v), .ref 7, .int (MVSc v), .ref 8, .ref 9, .int (MVOl v)]), .inl (0, 500, .inl (MVSt v)), .inl (0, 500, .inl (MVAs v)), .inl (0, 500, .inl (MVSv v)), .inl (0, 4000, .inl (MVPt v)), .inl (0, 6, .inl (MVSp v)), .inl (3, 600, .inl (MVBf v)), .inl (0, 150, .inl (MVSm v)), .inl (0, 40, .inl (MVOr v)), .inl (3, 240, .inl (MVOu v))]) (st2 := [.int r19]) (c_X9_get _ _ _ _ hq18) ⟨rfl, rfl⟩ rfl k_X9_get l_X9_90 rfl rfl rfl rfl rfl (fit_of hR (by decide) (by decide) (by decide) (by decide)) (Nat.le_of_ble_eq_true rfl) (by decide) rfl rfl rfl ?_
      refine go_s 3 X (pc2 := 65) (st2 := [.int r5, .ref 0, .int 1, .int r19]) rfl ?_
      obtain ⟨r22, hq21, h⟩ := obind_inv h
      refine q_callV X [0, 1, 2, 3, 4, 5, 6, 7, 8, 9] [] (AH2 := [.inr (9, [.ref 1, .ref 2, .ref 3, .ref 4, .int (MVPc v), .int (MVIs v), .int (MVTh v), .ref 5, .int (MVSl v), .ref 6, .int (MVLn v), .int (MVEc v), .int (MVEo v), .int (MVSa v), .int (MVEn v), .int (MVTk v), .int (MVVa v), .int (MVFa v), .int (MVFo v), .ref 7, .int (MVSc v), .ref 8, .ref 9, .int (MVOl v)]), .inl (0, 500, .inl (MVSt v)), .inl (0, 500, .inl (MVAs v)), .inl (0, 500, .inl (MVSv v)), .inl (0, 4000, .inl (MVPt v)), .inl (0, 6, .inl (MVSp v)), .inl (3, 600, .inl (MVBf v)), .inl (0, 150, .inl (MVSm v)), .inl (0, 40, .inl (MVOr v)), .inl (3, 240, .inl (MVOu v))]) (st2 := [.int r22, .int 1, .int r19]) (c_X9_rankOf _ _ _ hq21) ⟨rfl, rfl⟩ rfl k_X9_rankOf l_X9_98 rfl rfl rfl rfl rfl (fit_of hR (by decide) (by decide) (by decide) (by decide)) (Nat.le_of_ble_eq_true rfl) (by decide) rfl rfl rfl ?_
      refine go_s 1 X (pc2 := 69) (st2 := [.int (1 + r22), .int r19]) rfl ?_
      refine r_icmp_eq X 74 rfl rfl (fun c24 => ?_) (fun c24 => ?_)
      · rw [if_pos c24] at h
        refine go_s 3 X (pc2 := 77) (st2 := [.int r2, .int a, .ref 0]) rfl ?_
        obtain ⟨r26, hq25, h⟩ := obind_inv h
        refine q_callV X [0, 1, 2, 3, 4, 5, 6, 7, 8, 9] [] (AH2 := [.inr (9, [.ref 1, .ref 2, .ref 3, .ref 4, .int (MVPc v), .int (MVIs v), .int (MVTh v), .ref 5, .int (MVSl v), .ref 6, .int (MVLn v), .int (MVEc v), .int (MVEo v), .int (MVSa v), .int (MVEn v), .int (MVTk v), .int (MVVa v), .int (MVFa v), .int (MVFo v), .ref 7, .int (MVSc v), .ref 8, .ref 9, .int (MVOl v)]), .inl (0, 500, .inl (MVSt v)), .inl (0, 500, .inl (MVAs v)), .inl (0, 500, .inl (MVSv v)), .inl (0, 4000, .inl (MVPt v)), .inl (0, 6, .inl (MVSp v)), .inl (3, 600, .inl (MVBf v)), .inl (0, 150, .inl (MVSm v)), .inl (0, 40, .inl (MVOr v)), .inl (3, 240, .inl (MVOu v))]) (st2 := [.int r26]) (c_X9_isLinked _ _ _ _ hq25) ⟨rfl, rfl⟩ rfl k_X9_isLinked l_X9_386 rfl rfl rfl rfl rfl (fit_of hR (by decide) (by decide) (by decide) (by decide)) (Nat.le_of_ble_eq_true rfl) (by decide) rfl rfl rfl ?_
        refine r_if_eq X 96 rfl rfl (fun c28 => ?_) (fun c28 => ?_)
        · rw [if_pos c28] at h
          refine go_s 1 X (pc2 := 97) (st2 := [.int 0]) rfl ?_
          cases h
          exact r_zret X (ty := .boolean) rfl rfl rfl ⟨rfl, rfl⟩ (by decide) (by decide)
        · rw [if_neg c28] at h
          refine go_s 3 X (pc2 := 86) (st2 := [.int r5, .int a, .ref 0]) rfl ?_
          obtain ⟨r30, hq29, h⟩ := obind_inv h
          refine q_callV X [0, 1, 2, 3, 4, 5, 6, 7, 8, 9] [] (AH2 := [.inr (9, [.ref 1, .ref 2, .ref 3, .ref 4, .int (MVPc v), .int (MVIs v), .int (MVTh v), .ref 5, .int (MVSl v), .ref 6, .int (MVLn v), .int (MVEc v), .int (MVEo v), .int (MVSa v), .int (MVEn v), .int (MVTk v), .int (MVVa v), .int (MVFa v), .int (MVFo v), .ref 7, .int (MVSc v), .ref 8, .ref 9, .int (MVOl v)]), .inl (0, 500, .inl (MVSt v)), .inl (0, 500, .inl (MVAs v)), .inl (0, 500, .inl (MVSv v)), .inl (0, 4000, .inl (MVPt v)), .inl (0, 6, .inl (MVSp v)), .inl (3, 600, .inl (MVBf v)), .inl (0, 150, .inl (MVSm v)), .inl (0, 40, .inl (MVOr v)), .inl (3, 240, .inl (MVOu v))]) (st2 := [.int r30]) (c_X9_isLinked _ _ _ _ hq29) ⟨rfl, rfl⟩ rfl k_X9_isLinked l_X9_386 rfl rfl rfl rfl rfl (fit_of hR (by decide) (by decide) (by decide) (by decide)) (Nat.le_of_ble_eq_true rfl) (by decide) rfl rfl rfl ?_
          refine r_if_eq X 96 rfl rfl (fun c32 => ?_) (fun c32 => ?_)
          · rw [if_pos c32] at h
            refine go_s 1 X (pc2 := 97) (st2 := [.int 0]) rfl ?_
            cases h
            exact r_zret X (ty := .boolean) rfl rfl rfl ⟨rfl, rfl⟩ (by decide) (by decide)
          · rw [if_neg c32] at h
            refine go_s 2 X (pc2 := 97) (st2 := [.int 1]) rfl ?_
            cases h
            exact r_zret X (ty := .boolean) rfl rfl rfl ⟨rfl, rfl⟩ (by decide) (by decide)
      · rw [if_neg c24] at h
        refine go_s 1 X (pc2 := 73) (st2 := [.int 0]) rfl ?_
        cases h
        exact r_zret X (ty := .boolean) rfl rfl rfl ⟨rfl, rfl⟩ (by decide) (by decide)
  · rw [if_neg c10] at h
    refine go_s 3 X (pc2 := 34) (st2 := [.int r8, .int a, .ref 0]) rfl ?_
    obtain ⟨r34, hq33, h⟩ := obind_inv h
    refine q_callV X [0, 1, 2, 3, 4, 5, 6, 7, 8, 9] [] (AH2 := [.inr (9, [.ref 1, .ref 2, .ref 3, .ref 4, .int (MVPc v), .int (MVIs v), .int (MVTh v), .ref 5, .int (MVSl v), .ref 6, .int (MVLn v), .int (MVEc v), .int (MVEo v), .int (MVSa v), .int (MVEn v), .int (MVTk v), .int (MVVa v), .int (MVFa v), .int (MVFo v), .ref 7, .int (MVSc v), .ref 8, .ref 9, .int (MVOl v)]), .inl (0, 500, .inl (MVSt v)), .inl (0, 500, .inl (MVAs v)), .inl (0, 500, .inl (MVSv v)), .inl (0, 4000, .inl (MVPt v)), .inl (0, 6, .inl (MVSp v)), .inl (3, 600, .inl (MVBf v)), .inl (0, 150, .inl (MVSm v)), .inl (0, 40, .inl (MVOr v)), .inl (3, 240, .inl (MVOu v))]) (st2 := [.int r34]) (c_X9_precedes _ _ _ _ hq33) ⟨rfl, rfl⟩ rfl k_X9_precedes l_X9_101 rfl rfl rfl rfl rfl (fit_of hR (by decide) (by decide) (by decide) (by decide)) (Nat.le_of_ble_eq_true rfl) (by decide) rfl rfl rfl ?_
    refine r_if_eq X 42 rfl rfl (fun c36 => ?_) (fun c36 => ?_)
    · rw [if_pos c36] at h
      refine go_s 2 X (pc2 := 44) (st2 := [.int r2, .ref 0]) rfl ?_
      obtain ⟨r38, hq37, h⟩ := obind_inv h
      refine q_callV X [0, 1, 2, 3, 4, 5, 6, 7, 8, 9] [] (AH2 := [.inr (9, [.ref 1, .ref 2, .ref 3, .ref 4, .int (MVPc v), .int (MVIs v), .int (MVTh v), .ref 5, .int (MVSl v), .ref 6, .int (MVLn v), .int (MVEc v), .int (MVEo v), .int (MVSa v), .int (MVEn v), .int (MVTk v), .int (MVVa v), .int (MVFa v), .int (MVFo v), .ref 7, .int (MVSc v), .ref 8, .ref 9, .int (MVOl v)]), .inl (0, 500, .inl (MVSt v)), .inl (0, 500, .inl (MVAs v)), .inl (0, 500, .inl (MVSv v)), .inl (0, 4000, .inl (MVPt v)), .inl (0, 6, .inl (MVSp v)), .inl (3, 600, .inl (MVBf v)), .inl (0, 150, .inl (MVSm v)), .inl (0, 40, .inl (MVOr v)), .inl (3, 240, .inl (MVOu v))]) (st2 := [.int r38]) (c_X9_rankOf _ _ _ hq37) ⟨rfl, rfl⟩ rfl k_X9_rankOf l_X9_98 rfl rfl rfl rfl rfl (fit_of hR (by decide) (by decide) (by decide) (by decide)) (Nat.le_of_ble_eq_true rfl) (by decide) rfl rfl rfl ?_
      refine go_s 2 X (pc2 := 49) (st2 := [.int r5, .ref 0, .int r38]) rfl ?_
      obtain ⟨r41, hq40, h⟩ := obind_inv h
      refine q_callV X [0, 1, 2, 3, 4, 5, 6, 7, 8, 9] [] (AH2 := [.inr (9, [.ref 1, .ref 2, .ref 3, .ref 4, .int (MVPc v), .int (MVIs v), .int (MVTh v), .ref 5, .int (MVSl v), .ref 6, .int (MVLn v), .int (MVEc v), .int (MVEo v), .int (MVSa v), .int (MVEn v), .int (MVTk v), .int (MVVa v), .int (MVFa v), .int (MVFo v), .ref 7, .int (MVSc v), .ref 8, .ref 9, .int (MVOl v)]), .inl (0, 500, .inl (MVSt v)), .inl (0, 500, .inl (MVAs v)), .inl (0, 500, .inl (MVSv v)), .inl (0, 4000, .inl (MVPt v)), .inl (0, 6, .inl (MVSp v)), .inl (3, 600, .inl (MVBf v)), .inl (0, 150, .inl (MVSm v)), .inl (0, 40, .inl (MVOr v)), .inl (3, 240, .inl (MVOu v))]) (st2 := [.int r41, .int r38]) (c_X9_rankOf _ _ _ hq40) ⟨rfl, rfl⟩ rfl k_X9_rankOf l_X9_98 rfl rfl rfl rfl rfl (fit_of hR (by decide) (by decide) (by decide) (by decide)) (Nat.le_of_ble_eq_true rfl) (by decide) rfl rfl rfl ?_
      refine r_icmp_lt X 72 rfl rfl (fun c43 => ?_) (fun c43 => ?_)
      · rw [if_pos c43] at h
        refine go_s 1 X (pc2 := 73) (st2 := [.int 0]) rfl ?_
        cases h
        exact r_zret X (ty := .boolean) rfl rfl rfl ⟨rfl, rfl⟩ (by decide) (by decide)
      · rw [if_neg c43] at h
        refine go_s 3 X (pc2 := 59) (st2 := [.int 8, .int a, .ref 0]) rfl ?_
        obtain ⟨r45, hq44, h⟩ := obind_inv h
        refine q_callV X [0, 1, 2, 3, 4, 5, 6, 7, 8, 9] [] (AH2 := [.inr (9, [.ref 1, .ref 2, .ref 3, .ref 4, .int (MVPc v), .int (MVIs v), .int (MVTh v), .ref 5, .int (MVSl v), .ref 6, .int (MVLn v), .int (MVEc v), .int (MVEo v), .int (MVSa v), .int (MVEn v), .int (MVTk v), .int (MVVa v), .int (MVFa v), .int (MVFo v), .ref 7, .int (MVSc v), .ref 8, .ref 9, .int (MVOl v)]), .inl (0, 500, .inl (MVSt v)), .inl (0, 500, .inl (MVAs v)), .inl (0, 500, .inl (MVSv v)), .inl (0, 4000, .inl (MVPt v)), .inl (0, 6, .inl (MVSp v)), .inl (3, 600, .inl (MVBf v)), .inl (0, 150, .inl (MVSm v)), .inl (0, 40, .inl (MVOr v)), .inl (3, 240, .inl (MVOu v))]) (st2 := [.int r45]) (c_X9_get _ _ _ _ hq44) ⟨rfl, rfl⟩ rfl k_X9_get l_X9_90 rfl rfl rfl rfl rfl (fit_of hR (by decide) (by decide) (by decide) (by decide)) (Nat.le_of_ble_eq_true rfl) (by decide) rfl rfl rfl ?_
        refine go_s 3 X (pc2 := 65) (st2 := [.int r5, .ref 0, .int 1, .int r45]) rfl ?_
        obtain ⟨r48, hq47, h⟩ := obind_inv h
        refine q_callV X [0, 1, 2, 3, 4, 5, 6, 7, 8, 9] [] (AH2 := [.inr (9, [.ref 1, .ref 2, .ref 3, .ref 4, .int (MVPc v), .int (MVIs v), .int (MVTh v), .ref 5, .int (MVSl v), .ref 6, .int (MVLn v), .int (MVEc v), .int (MVEo v), .int (MVSa v), .int (MVEn v), .int (MVTk v), .int (MVVa v), .int (MVFa v), .int (MVFo v), .ref 7, .int (MVSc v), .ref 8, .ref 9, .int (MVOl v)]), .inl (0, 500, .inl (MVSt v)), .inl (0, 500, .inl (MVAs v)), .inl (0, 500, .inl (MVSv v)), .inl (0, 4000, .inl (MVPt v)), .inl (0, 6, .inl (MVSp v)), .inl (3, 600, .inl (MVBf v)), .inl (0, 150, .inl (MVSm v)), .inl (0, 40, .inl (MVOr v)), .inl (3, 240, .inl (MVOu v))]) (st2 := [.int r48, .int 1, .int r45]) (c_X9_rankOf _ _ _ hq47) ⟨rfl, rfl⟩ rfl k_X9_rankOf l_X9_98 rfl rfl rfl rfl rfl (fit_of hR (by decide) (by decide) (by decide) (by decide)) (Nat.le_of_ble_eq_true rfl) (by decide) rfl rfl rfl ?_
        refine go_s 1 X (pc2 := 69) (st2 := [.int (1 + r48), .int r45]) rfl ?_
        refine r_icmp_eq X 74 rfl rfl (fun c50 => ?_) (fun c50 => ?_)
        · rw [if_pos c50] at h
          refine go_s 3 X (pc2 := 77) (st2 := [.int r2, .int a, .ref 0]) rfl ?_
          obtain ⟨r52, hq51, h⟩ := obind_inv h
          refine q_callV X [0, 1, 2, 3, 4, 5, 6, 7, 8, 9] [] (AH2 := [.inr (9, [.ref 1, .ref 2, .ref 3, .ref 4, .int (MVPc v), .int (MVIs v), .int (MVTh v), .ref 5, .int (MVSl v), .ref 6, .int (MVLn v), .int (MVEc v), .int (MVEo v), .int (MVSa v), .int (MVEn v), .int (MVTk v), .int (MVVa v), .int (MVFa v), .int (MVFo v), .ref 7, .int (MVSc v), .ref 8, .ref 9, .int (MVOl v)]), .inl (0, 500, .inl (MVSt v)), .inl (0, 500, .inl (MVAs v)), .inl (0, 500, .inl (MVSv v)), .inl (0, 4000, .inl (MVPt v)), .inl (0, 6, .inl (MVSp v)), .inl (3, 600, .inl (MVBf v)), .inl (0, 150, .inl (MVSm v)), .inl (0, 40, .inl (MVOr v)), .inl (3, 240, .inl (MVOu v))]) (st2 := [.int r52]) (c_X9_isLinked _ _ _ _ hq51) ⟨rfl, rfl⟩ rfl k_X9_isLinked l_X9_386 rfl rfl rfl rfl rfl (fit_of hR (by decide) (by decide) (by decide) (by decide)) (Nat.le_of_ble_eq_true rfl) (by decide) rfl rfl rfl ?_
          refine r_if_eq X 96 rfl rfl (fun c54 => ?_) (fun c54 => ?_)
          · rw [if_pos c54] at h
            refine go_s 1 X (pc2 := 97) (st2 := [.int 0]) rfl ?_
            cases h
            exact r_zret X (ty := .boolean) rfl rfl rfl ⟨rfl, rfl⟩ (by decide) (by decide)
          · rw [if_neg c54] at h
            refine go_s 3 X (pc2 := 86) (st2 := [.int r5, .int a, .ref 0]) rfl ?_
            obtain ⟨r56, hq55, h⟩ := obind_inv h
            refine q_callV X [0, 1, 2, 3, 4, 5, 6, 7, 8, 9] [] (AH2 := [.inr (9, [.ref 1, .ref 2, .ref 3, .ref 4, .int (MVPc v), .int (MVIs v), .int (MVTh v), .ref 5, .int (MVSl v), .ref 6, .int (MVLn v), .int (MVEc v), .int (MVEo v), .int (MVSa v), .int (MVEn v), .int (MVTk v), .int (MVVa v), .int (MVFa v), .int (MVFo v), .ref 7, .int (MVSc v), .ref 8, .ref 9, .int (MVOl v)]), .inl (0, 500, .inl (MVSt v)), .inl (0, 500, .inl (MVAs v)), .inl (0, 500, .inl (MVSv v)), .inl (0, 4000, .inl (MVPt v)), .inl (0, 6, .inl (MVSp v)), .inl (3, 600, .inl (MVBf v)), .inl (0, 150, .inl (MVSm v)), .inl (0, 40, .inl (MVOr v)), .inl (3, 240, .inl (MVOu v))]) (st2 := [.int r56]) (c_X9_isLinked _ _ _ _ hq55) ⟨rfl, rfl⟩ rfl k_X9_isLinked l_X9_386 rfl rfl rfl rfl rfl (fit_of hR (by decide) (by decide) (by decide) (by decide)) (Nat.le_of_ble_eq_true rfl) (by decide) rfl rfl rfl ?_
            refine r_if_eq X 96 rfl rfl (fun c58 => ?_) (fun c58 => ?_)
            · rw [if_pos c58] at h
              refine go_s 1 X (pc2 := 97) (st2 := [.int 0]) rfl ?_
              cases h
              exact r_zret X (ty := .boolean) rfl rfl rfl ⟨rfl, rfl⟩ (by decide) (by decide)
            · rw [if_neg c58] at h
              refine go_s 2 X (pc2 := 97) (st2 := [.int 1]) rfl ?_
              cases h
              exact r_zret X (ty := .boolean) rfl rfl rfl ⟨rfl, rfl⟩ (by decide) (by decide)
        · rw [if_neg c50] at h
          refine go_s 1 X (pc2 := 73) (st2 := [.int 0]) rfl ?_
          cases h
          exact r_zret X (ty := .boolean) rfl rfl rfl ⟨rfl, rfl⟩ (by decide) (by decide)
    · rw [if_neg c36] at h
      refine go_s 1 X (pc2 := 41) (st2 := [.int 0]) rfl ?_
      cases h
      exact r_zret X (ty := .boolean) rfl rfl rfl ⟨rfl, rfl⟩ (by decide) (by decide)
set_option maxHeartbeats 400000 in
set_option maxRecDepth 20000 in
theorem a_X9_isConsistent_h43 {κ : KX} (X : CX κ z_X9_isConsistent) (hR : κR κ = rmM 57 0 0) : ∀ (n : Nat) (l1 : Int32) (v : MV) (r : Int32) (w : MV) (h : f_X9_isConsistent_h43 n l1 v = some (r, w)), AW κ (QM κ (PST (.inl (some (.int r))) (WM w)) 0 0) 43 [some (.ref 0), some (.int l1)] [] (WM v) 0 0 := by
  intro n
  induction n with
  | zero =>
    intro l1 v r w h
    unfold f_X9_isConsistent_h43 at h
    cases h
  | succ n ih =>
    intro l1 v r w h
    unfold f_X9_isConsistent_h43 at h
    refine AW.eq (pc' := 43) (ls' := [some (.ref 0), some (.int l1)]) (st' := []) (AH' := [.inr (9, [.ref 1, .ref 2, .ref 3, .ref 4, .int (MVPc v), .int (MVIs v), .int (MVTh v), .ref 5, .int (MVSl v), .ref 6, .int (MVLn v), .int (MVEc v), .int (MVEo v), .int (MVSa v), .int (MVEn v), .int (MVTk v), .int (MVVa v), .int (MVFa v), .int (MVFo v), .ref 7, .int (MVSc v), .ref 8, .ref 9, .int (MVOl v)]), .inl (0, 500, .inl (MVSt v)), .inl (0, 500, .inl (MVAs v)), .inl (0, 500, .inl (MVSv v)), .inl (0, 4000, .inl (MVPt v)), .inl (0, 6, .inl (MVSp v)), .inl (3, 600, .inl (MVBf v)), .inl (0, 150, .inl (MVSm v)), .inl (0, 40, .inl (MVOr v)), .inl (3, 240, .inl (MVOu v))]) ?_ rfl rfl rfl rfl
    refine go_s 4 X (pc2 := 49) (st2 := [.int 0, .ref 1, .int l1]) rfl ?_
    by_cases b3 : oob 0 500
    · rw [if_pos b3] at h; cases h
    rw [if_neg b3] at h
    refine r_iald X rfl rfl b3 ?_
    refine r_icmp_ge X 69 rfl rfl (fun c4 => ?_) (fun c4 => ?_)
    · rw [if_pos c4] at h
      refine go_s 1 X (pc2 := 70) (st2 := [.ref 0]) rfl ?_
      obtain ⟨r6, hq5, h⟩ := obind_inv h
      refine q_callV X [0, 1, 2, 3, 4, 5, 6, 7, 8, 9] [] (AH2 := [.inr (9, [.ref 1, .ref 2, .ref 3, .ref 4, .int (MVPc v), .int (MVIs v), .int (MVTh v), .ref 5, .int (MVSl v), .ref 6, .int (MVLn v), .int (MVEc v), .int (MVEo v), .int (MVSa v), .int (MVEn v), .int (MVTk v), .int (MVVa v), .int (MVFa v), .int (MVFo v), .ref 7, .int (MVSc v), .ref 8, .ref 9, .int (MVOl v)]), .inl (0, 500, .inl (MVSt v)), .inl (0, 500, .inl (MVAs v)), .inl (0, 500, .inl (MVSv v)), .inl (0, 4000, .inl (MVPt v)), .inl (0, 6, .inl (MVSp v)), .inl (3, 600, .inl (MVBf v)), .inl (0, 150, .inl (MVSm v)), .inl (0, 40, .inl (MVOr v)), .inl (3, 240, .inl (MVOu v))]) (st2 := [.int r6]) (c_X9_areHeapsWhole _ _ hq5) ⟨rfl, rfl⟩ rfl k_X9_areHeapsWhole l_X9_398 rfl rfl rfl rfl rfl (fit_of hR (by decide) (by decide) (by decide) (by decide)) (Nat.le_of_ble_eq_true rfl) (by decide) rfl rfl rfl ?_
      by_cases b8 : ¬ (r6 = 0 ∨ r6 = 1)
      · rw [if_pos b8] at h; cases h
      rw [if_neg b8] at h
      cases h
      exact r_zret X (ty := .boolean) rfl rfl (nar_b b8) ⟨rfl, rfl⟩ (by decide) (by decide)
    · rw [if_neg c4] at h
      refine go_s 2 X (pc2 := 55) (st2 := [.int l1, .ref 0]) rfl ?_
      obtain ⟨r10, w11, hq9, h⟩ := bnd2_inv h
      refine q_callV X [0, 1, 2, 3, 4, 5, 6, 7, 8, 9] [] (AH2 := [.inr (9, [.ref 1, .ref 2, .ref 3, .ref 4, .int (MVPc w11), .int (MVIs w11), .int (MVTh w11), .ref 5, .int (MVSl w11), .ref 6, .int (MVLn w11), .int (MVEc w11), .int (MVEo w11), .int (MVSa w11), .int (MVEn w11), .int (MVTk w11), .int (MVVa w11), .int (MVFa w11), .int (MVFo w11), .ref 7, .int (MVSc w11), .ref 8, .ref 9, .int (MVOl w11)]), .inl (0, 500, .inl (MVSt w11)), .inl (0, 500, .inl (MVAs w11)), .inl (0, 500, .inl (MVSv w11)), .inl (0, 4000, .inl (MVPt w11)), .inl (0, 6, .inl (MVSp w11)), .inl (3, 600, .inl (MVBf w11)), .inl (0, 150, .inl (MVSm w11)), .inl (0, 40, .inl (MVOr w11)), .inl (3, 240, .inl (MVOu w11))]) (st2 := [.int r10]) (c_X9_isOrderConsistent _ _ _ _ hq9) ⟨rfl, rfl⟩ rfl k_X9_isOrderConsistent l_X9_395 rfl rfl rfl rfl rfl (fit_of hR (by decide) (by decide) (by decide) (by decide)) (Nat.le_of_ble_eq_true rfl) (by decide) rfl rfl rfl ?_
      refine r_if_ne X 63 rfl rfl (fun c12 => ?_) (fun c12 => ?_)
      · rw [if_neg c12] at h
        refine go_l 2 X (pc2 := 43) (ls2 := [some (.ref 0), some (.int (l1 + 1))]) (st2 := []) rfl ?_
        exact AW.eq (ih _ _ _ _ h) rfl rfl rfl rfl
      · rw [if_pos c12] at h
        refine go_s 1 X (pc2 := 62) (st2 := [.int 0]) rfl ?_
        cases h
        exact r_zret X (ty := .boolean) rfl rfl rfl ⟨rfl, rfl⟩ (by decide) (by decide)
