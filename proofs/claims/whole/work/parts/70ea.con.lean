/-! ===== 15ea: contracts, by program ===== -/
set_option maxHeartbeats 400000 in
set_option maxRecDepth 20000 in
theorem c_X9_j (a : Int32) (r : Int32) (h : f_X9_j a = some r) : Sem z_X9_j 0 0 0 [.int a] [] (PST (.inl (some (.int r))) []) := by
  refine Sem.of zo_X9_j (by decide +kernel) (Nat.le_of_ble_eq_true rfl) fun κ X hE hR hN => ?_
  unfold f_X9_j at h
  refine AW.eq (pc' := 0) (ls' := [some (.int a)]) (st' := []) (AH' := []) ?_ rfl rfl rfl rfl
  refine go_s 5 X (pc2 := 8) (st2 := [.int (140 + (9 * a))]) rfl ?_
  cases h
  exact r_iret X rfl rfl ⟨rfl, rfl⟩ (by decide) (by decide)
set_option maxHeartbeats 400000 in
set_option maxRecDepth 20000 in
theorem c_X9_set (v : MV) (a : Int32) (b : Int32) (c : Int32) (r : Unit) (w : MV) (h : f_X9_set v a b c = some (r, w)) : Sem z_X9_set 1 0 0 [.ref 0, .int a, .int b, .int c] (WM v) (PST (.inl none) (WM w)) := by
  refine Sem.of zo_X9_set (by decide +kernel) (Nat.le_of_ble_eq_true rfl) fun κ X hE hR hN => ?_
  unfold f_X9_set at h
  refine AW.eq (pc' := 0) (ls' := [some (.ref 0), some (.int a), some (.int b), some (.int c)]) (st' := []) (AH' := [.inr (9, [.ref 1, .ref 2, .ref 3, .ref 4, .int (MVPc v), .int (MVIs v), .int (MVTh v), .ref 5, .int (MVSl v), .ref 6, .int (MVLn v), .int (MVEc v), .int (MVEo v), .int (MVSa v), .int (MVEn v), .int (MVTk v), .int (MVVa v), .int (MVFa v), .int (MVFo v), .ref 7, .int (MVSc v), .ref 8, .ref 9, .int (MVOl v)]), .inl (0, 500, .inl (MVSt v)), .inl (0, 500, .inl (MVAs v)), .inl (0, 500, .inl (MVSv v)), .inl (0, 4000, .inl (MVPt v)), .inl (0, 6, .inl (MVSp v)), .inl (3, 600, .inl (MVBf v)), .inl (0, 150, .inl (MVSm v)), .inl (0, 40, .inl (MVOr v)), .inl (3, 240, .inl (MVOu v))]) ?_ rfl rfl rfl rfl
  refine go_s 3 X (pc2 := 5) (st2 := [.int a, .ref 1]) rfl ?_
  obtain ⟨r2, hq1, h⟩ := obind_inv h
  refine q_callS X [] [] (AH2 := [.inr (9, [.ref 1, .ref 2, .ref 3, .ref 4, .int (MVPc v), .int (MVIs v), .int (MVTh v), .ref 5, .int (MVSl v), .ref 6, .int (MVLn v), .int (MVEc v), .int (MVEo v), .int (MVSa v), .int (MVEn v), .int (MVTk v), .int (MVVa v), .int (MVFa v), .int (MVFo v), .ref 7, .int (MVSc v), .ref 8, .ref 9, .int (MVOl v)]), .inl (0, 500, .inl (MVSt v)), .inl (0, 500, .inl (MVAs v)), .inl (0, 500, .inl (MVSv v)), .inl (0, 4000, .inl (MVPt v)), .inl (0, 6, .inl (MVSp v)), .inl (3, 600, .inl (MVBf v)), .inl (0, 150, .inl (MVSm v)), .inl (0, 40, .inl (MVOr v)), .inl (3, 240, .inl (MVOu v))]) (st2 := [.int r2, .ref 1]) (c_X9_j _ _ hq1) ⟨rfl, rfl⟩ rfl k_X9_j l_X9_70 rfl rfl (fit_of hR (by decide) (by decide) (by decide) (by decide)) (Nat.le_of_ble_eq_true rfl) (by decide) rfl rfl rfl ?_
  refine go_s 3 X (pc2 := 11) (st2 := [.int c, .int (r2 + b), .ref 1]) rfl ?_
  by_cases b4 : oob (r2 + b) 500
  · rw [if_pos b4] at h; cases h
  rw [if_neg b4] at h
  refine r_iast X rfl rfl b4 ?_
  cases h
  exact r_vret X rfl rfl ⟨rfl, rfl⟩ (by decide) (by decide)
set_option maxHeartbeats 400000 in
set_option maxRecDepth 20000 in
theorem c_X9_single (v : MV) (a : Int32) (r : Unit) (w : MV) (h : f_X9_single v a = some (r, w)) : Sem z_X9_single 2 0 0 [.ref 0, .int a] (WM v) (PST (.inl none) (WM w)) := by
  refine Sem.of zo_X9_single (by decide +kernel) (Nat.le_of_ble_eq_true rfl) fun κ X hE hR hN => ?_
  unfold f_X9_single at h
  refine AW.eq (pc' := 0) (ls' := [some (.ref 0), some (.int a)]) (st' := []) (AH' := [.inr (9, [.ref 1, .ref 2, .ref 3, .ref 4, .int (MVPc v), .int (MVIs v), .int (MVTh v), .ref 5, .int (MVSl v), .ref 6, .int (MVLn v), .int (MVEc v), .int (MVEo v), .int (MVSa v), .int (MVEn v), .int (MVTk v), .int (MVVa v), .int (MVFa v), .int (MVFo v), .ref 7, .int (MVSc v), .ref 8, .ref 9, .int (MVOl v)]), .inl (0, 500, .inl (MVSt v)), .inl (0, 500, .inl (MVAs v)), .inl (0, 500, .inl (MVSv v)), .inl (0, 4000, .inl (MVPt v)), .inl (0, 6, .inl (MVSp v)), .inl (3, 600, .inl (MVBf v)), .inl (0, 150, .inl (MVSm v)), .inl (0, 40, .inl (MVOr v)), .inl (3, 240, .inl (MVOu v))]) ?_ rfl rfl rfl rfl
  refine go_s 4 X (pc2 := 4) (st2 := [.int (-1), .int 5, .int a, .ref 0]) rfl ?_
  obtain ⟨r2, w3, hq1, h⟩ := bnd2_inv h
  refine q_callV X [0, 1, 2, 3, 4, 5, 6, 7, 8, 9] [] (AH2 := [.inr (9, [.ref 1, .ref 2, .ref 3, .ref 4, .int (MVPc w3), .int (MVIs w3), .int (MVTh w3), .ref 5, .int (MVSl w3), .ref 6, .int (MVLn w3), .int (MVEc w3), .int (MVEo w3), .int (MVSa w3), .int (MVEn w3), .int (MVTk w3), .int (MVVa w3), .int (MVFa w3), .int (MVFo w3), .ref 7, .int (MVSc w3), .ref 8, .ref 9, .int (MVOl w3)]), .inl (0, 500, .inl (MVSt w3)), .inl (0, 500, .inl (MVAs w3)), .inl (0, 500, .inl (MVSv w3)), .inl (0, 4000, .inl (MVPt w3)), .inl (0, 6, .inl (MVSp w3)), .inl (3, 600, .inl (MVBf w3)), .inl (0, 150, .inl (MVSm w3)), .inl (0, 40, .inl (MVOr w3)), .inl (3, 240, .inl (MVOu w3))]) (st2 := []) (c_X9_set _ _ _ _ _ _ hq1) ⟨rfl, rfl⟩ rfl k_X9_set l_X9_94 rfl rfl rfl rfl rfl (fit_of hR (by decide) (by decide) (by decide) (by decide)) (Nat.le_of_ble_eq_true rfl) (by decide) rfl rfl rfl ?_
  refine go_s 4 X (pc2 := 12) (st2 := [.int (-1), .int 6, .int a, .ref 0]) rfl ?_
  obtain ⟨r5, w6, hq4, h⟩ := bnd2_inv h
  refine q_callV X [0, 1, 2, 3, 4, 5, 6, 7, 8, 9] [] (AH2 := [.inr (9, [.ref 1, .ref 2, .ref 3, .ref 4, .int (MVPc w6), .int (MVIs w6), .int (MVTh w6), .ref 5, .int (MVSl w6), .ref 6, .int (MVLn w6), .int (MVEc w6), .int (MVEo w6), .int (MVSa w6), .int (MVEn w6), .int (MVTk w6), .int (MVVa w6), .int (MVFa w6), .int (MVFo w6), .ref 7, .int (MVSc w6), .ref 8, .ref 9, .int (MVOl w6)]), .inl (0, 500, .inl (MVSt w6)), .inl (0, 500, .inl (MVAs w6)), .inl (0, 500, .inl (MVSv w6)), .inl (0, 4000, .inl (MVPt w6)), .inl (0, 6, .inl (MVSp w6)), .inl (3, 600, .inl (MVBf w6)), .inl (0, 150, .inl (MVSm w6)), .inl (0, 40, .inl (MVOr w6)), .inl (3, 240, .inl (MVOu w6))]) (st2 := []) (c_X9_set _ _ _ _ _ _ hq4) ⟨rfl, rfl⟩ rfl k_X9_set l_X9_94 rfl rfl rfl rfl rfl (fit_of hR (by decide) (by decide) (by decide) (by decide)) (Nat.le_of_ble_eq_true rfl) (by decide) rfl rfl rfl ?_
  refine go_s 4 X (pc2 := 20) (st2 := [.int (-1), .int 7, .int a, .ref 0]) rfl ?_
  obtain ⟨r8, w9, hq7, h⟩ := bnd2_inv h
  refine q_callV X [0, 1, 2, 3, 4, 5, 6, 7, 8, 9] [] (AH2 := [.inr (9, [.ref 1, .ref 2, .ref 3, .ref 4, .int (MVPc w9), .int (MVIs w9), .int (MVTh w9), .ref 5, .int (MVSl w9), .ref 6, .int (MVLn w9), .int (MVEc w9), .int (MVEo w9), .int (MVSa w9), .int (MVEn w9), .int (MVTk w9), .int (MVVa w9), .int (MVFa w9), .int (MVFo w9), .ref 7, .int (MVSc w9), .ref 8, .ref 9, .int (MVOl w9)]), .inl (0, 500, .inl (MVSt w9)), .inl (0, 500, .inl (MVAs w9)), .inl (0, 500, .inl (MVSv w9)), .inl (0, 4000, .inl (MVPt w9)), .inl (0, 6, .inl (MVSp w9)), .inl (3, 600, .inl (MVBf w9)), .inl (0, 150, .inl (MVSm w9)), .inl (0, 40, .inl (MVOr w9)), .inl (3, 240, .inl (MVOu w9))]) (st2 := []) (c_X9_set _ _ _ _ _ _ hq7) ⟨rfl, rfl⟩ rfl k_X9_set l_X9_94 rfl rfl rfl rfl rfl (fit_of hR (by decide) (by decide) (by decide) (by decide)) (Nat.le_of_ble_eq_true rfl) (by decide) rfl rfl rfl ?_
  refine go_s 4 X (pc2 := 28) (st2 := [.int 1, .int 8, .int a, .ref 0]) rfl ?_
  obtain ⟨r11, w12, hq10, h⟩ := bnd2_inv h
  refine q_callV X [0, 1, 2, 3, 4, 5, 6, 7, 8, 9] [] (AH2 := [.inr (9, [.ref 1, .ref 2, .ref 3, .ref 4, .int (MVPc w12), .int (MVIs w12), .int (MVTh w12), .ref 5, .int (MVSl w12), .ref 6, .int (MVLn w12), .int (MVEc w12), .int (MVEo w12), .int (MVSa w12), .int (MVEn w12), .int (MVTk w12), .int (MVVa w12), .int (MVFa w12), .int (MVFo w12), .ref 7, .int (MVSc w12), .ref 8, .ref 9, .int (MVOl w12)]), .inl (0, 500, .inl (MVSt w12)), .inl (0, 500, .inl (MVAs w12)), .inl (0, 500, .inl (MVSv w12)), .inl (0, 4000, .inl (MVPt w12)), .inl (0, 6, .inl (MVSp w12)), .inl (3, 600, .inl (MVBf w12)), .inl (0, 150, .inl (MVSm w12)), .inl (0, 40, .inl (MVOr w12)), .inl (3, 240, .inl (MVOu w12))]) (st2 := []) (c_X9_set _ _ _ _ _ _ hq10) ⟨rfl, rfl⟩ rfl k_X9_set l_X9_94 rfl rfl rfl rfl rfl (fit_of hR (by decide) (by decide) (by decide) (by decide)) (Nat.le_of_ble_eq_true rfl) (by decide) rfl rfl rfl ?_
  cases h
  exact r_vret X rfl rfl ⟨rfl, rfl⟩ (by decide) (by decide)
set_option maxHeartbeats 400000 in
set_option maxRecDepth 20000 in
theorem c_X9_q (a : Int32) (r : Int32) (h : f_X9_q a = some r) : Sem z_X9_q 0 0 0 [.int a] [] (PST (.inl (some (.int r))) []) := by
  refine Sem.of zo_X9_q (by decide +kernel) (Nat.le_of_ble_eq_true rfl) fun κ X hE hR hN => ?_
  unfold f_X9_q at h
  refine AW.eq (pc' := 0) (ls' := [some (.int a)]) (st' := []) (AH' := []) ?_ rfl rfl rfl rfl
  refine go_s 5 X (pc2 := 7) (st2 := [.int (10 + (11 * a))]) rfl ?_
  cases h
  exact r_iret X rfl rfl ⟨rfl, rfl⟩ (by decide) (by decide)
set_option maxHeartbeats 400000 in
set_option maxRecDepth 20000 in
theorem c_X9_rootOf (v : MV) (a : Int32) (r : Int32) (h : f_X9_rootOf v a = some r) : Sem z_X9_rootOf 1 0 0 [.ref 0, .int a] (WM v) (PST (.inl (some (.int r))) (WM v)) := by
  refine Sem.of zo_X9_rootOf (by decide +kernel) (Nat.le_of_ble_eq_true rfl) fun κ X hE hR hN => ?_
  unfold f_X9_rootOf at h
  refine AW.eq (pc' := 0) (ls' := [some (.ref 0), some (.int a)]) (st' := []) (AH' := [.inr (9, [.ref 1, .ref 2, .ref 3, .ref 4, .int (MVPc v), .int (MVIs v), .int (MVTh v), .ref 5, .int (MVSl v), .ref 6, .int (MVLn v), .int (MVEc v), .int (MVEo v), .int (MVSa v), .int (MVEn v), .int (MVTk v), .int (MVVa v), .int (MVFa v), .int (MVFo v), .ref 7, .int (MVSc v), .ref 8, .ref 9, .int (MVOl v)]), .inl (0, 500, .inl (MVSt v)), .inl (0, 500, .inl (MVAs v)), .inl (0, 500, .inl (MVSv v)), .inl (0, 4000, .inl (MVPt v)), .inl (0, 6, .inl (MVSp v)), .inl (3, 600, .inl (MVBf v)), .inl (0, 150, .inl (MVSm v)), .inl (0, 40, .inl (MVOr v)), .inl (3, 240, .inl (MVOu v))]) ?_ rfl rfl rfl rfl
  refine go_s 3 X (pc2 := 5) (st2 := [.int a, .ref 1]) rfl ?_
  obtain ⟨r2, hq1, h⟩ := obind_inv h
  refine q_callS X [] [] (AH2 := [.inr (9, [.ref 1, .ref 2, .ref 3, .ref 4, .int (MVPc v), .int (MVIs v), .int (MVTh v), .ref 5, .int (MVSl v), .ref 6, .int (MVLn v), .int (MVEc v), .int (MVEo v), .int (MVSa v), .int (MVEn v), .int (MVTk v), .int (MVVa v), .int (MVFa v), .int (MVFo v), .ref 7, .int (MVSc v), .ref 8, .ref 9, .int (MVOl v)]), .inl (0, 500, .inl (MVSt v)), .inl (0, 500, .inl (MVAs v)), .inl (0, 500, .inl (MVSv v)), .inl (0, 4000, .inl (MVPt v)), .inl (0, 6, .inl (MVSp v)), .inl (3, 600, .inl (MVBf v)), .inl (0, 150, .inl (MVSm v)), .inl (0, 40, .inl (MVOr v)), .inl (3, 240, .inl (MVOu v))]) (st2 := [.int r2, .ref 1]) (c_X9_q _ _ hq1) ⟨rfl, rfl⟩ rfl k_X9_q l_X9_77 rfl rfl (fit_of hR (by decide) (by decide) (by decide) (by decide)) (Nat.le_of_ble_eq_true rfl) (by decide) rfl rfl rfl ?_
  refine go_s 2 X (pc2 := 11) (st2 := [.int (r2 + 9), .ref 1]) rfl ?_
  by_cases b4 : oob (r2 + 9) 500
  · rw [if_pos b4] at h; cases h
  rw [if_neg b4] at h
  refine r_iald X rfl rfl b4 ?_
  cases h
  exact r_iret X rfl rfl ⟨rfl, rfl⟩ (by decide) (by decide)
set_option maxHeartbeats 400000 in
set_option maxRecDepth 20000 in
theorem c_X9_get (v : MV) (a : Int32) (b : Int32) (r : Int32) (h : f_X9_get v a b = some r) : Sem z_X9_get 1 0 0 [.ref 0, .int a, .int b] (WM v) (PST (.inl (some (.int r))) (WM v)) := by
  refine Sem.of zo_X9_get (by decide +kernel) (Nat.le_of_ble_eq_true rfl) fun κ X hE hR hN => ?_
  unfold f_X9_get at h
  refine AW.eq (pc' := 0) (ls' := [some (.ref 0), some (.int a), some (.int b)]) (st' := []) (AH' := [.inr (9, [.ref 1, .ref 2, .ref 3, .ref 4, .int (MVPc v), .int (MVIs v), .int (MVTh v), .ref 5, .int (MVSl v), .ref 6, .int (MVLn v), .int (MVEc v), .int (MVEo v), .int (MVSa v), .int (MVEn v), .int (MVTk v), .int (MVVa v), .int (MVFa v), .int (MVFo v), .ref 7, .int (MVSc v), .ref 8, .ref 9, .int (MVOl v)]), .inl (0, 500, .inl (MVSt v)), .inl (0, 500, .inl (MVAs v)), .inl (0, 500, .inl (MVSv v)), .inl (0, 4000, .inl (MVPt v)), .inl (0, 6, .inl (MVSp v)), .inl (3, 600, .inl (MVBf v)), .inl (0, 150, .inl (MVSm v)), .inl (0, 40, .inl (MVOr v)), .inl (3, 240, .inl (MVOu v))]) ?_ rfl rfl rfl rfl
  refine go_s 3 X (pc2 := 5) (st2 := [.int a, .ref 1]) rfl ?_
  obtain ⟨r2, hq1, h⟩ := obind_inv h
  refine q_callS X [] [] (AH2 := [.inr (9, [.ref 1, .ref 2, .ref 3, .ref 4, .int (MVPc v), .int (MVIs v), .int (MVTh v), .ref 5, .int (MVSl v), .ref 6, .int (MVLn v), .int (MVEc v), .int (MVEo v), .int (MVSa v), .int (MVEn v), .int (MVTk v), .int (MVVa v), .int (MVFa v), .int (MVFo v), .ref 7, .int (MVSc v), .ref 8, .ref 9, .int (MVOl v)]), .inl (0, 500, .inl (MVSt v)), .inl (0, 500, .inl (MVAs v)), .inl (0, 500, .inl (MVSv v)), .inl (0, 4000, .inl (MVPt v)), .inl (0, 6, .inl (MVSp v)), .inl (3, 600, .inl (MVBf v)), .inl (0, 150, .inl (MVSm v)), .inl (0, 40, .inl (MVOr v)), .inl (3, 240, .inl (MVOu v))]) (st2 := [.int r2, .ref 1]) (c_X9_j _ _ hq1) ⟨rfl, rfl⟩ rfl k_X9_j l_X9_70 rfl rfl (fit_of hR (by decide) (by decide) (by decide) (by decide)) (Nat.le_of_ble_eq_true rfl) (by decide) rfl rfl rfl ?_
  refine go_s 2 X (pc2 := 10) (st2 := [.int (r2 + b), .ref 1]) rfl ?_
  by_cases b4 : oob (r2 + b) 500
  · rw [if_pos b4] at h; cases h
  rw [if_neg b4] at h
  refine r_iald X rfl rfl b4 ?_
  cases h
  exact r_iret X rfl rfl ⟨rfl, rfl⟩ (by decide) (by decide)
set_option maxHeartbeats 400000 in
set_option maxRecDepth 20000 in
theorem c_X9_precedes (v : MV) (a : Int32) (b : Int32) (r : Int32) (h : f_X9_precedes v a b = some r) : Sem z_X9_precedes 2 0 0 [.ref 0, .int a, .int b] (WM v) (PST (.inl (some (.int r))) (WM v)) := by
  refine Sem.of zo_X9_precedes (by decide +kernel) (Nat.le_of_ble_eq_true rfl) fun κ X hE hR hN => ?_
  unfold f_X9_precedes at h
  refine AW.eq (pc' := 0) (ls' := [some (.ref 0), some (.int a), some (.int b), none]) (st' := []) (AH' := [.inr (9, [.ref 1, .ref 2, .ref 3, .ref 4, .int (MVPc v), .int (MVIs v), .int (MVTh v), .ref 5, .int (MVSl v), .ref 6, .int (MVLn v), .int (MVEc v), .int (MVEo v), .int (MVSa v), .int (MVEn v), .int (MVTk v), .int (MVVa v), .int (MVFa v), .int (MVFo v), .ref 7, .int (MVSc v), .ref 8, .ref 9, .int (MVOl v)]), .inl (0, 500, .inl (MVSt v)), .inl (0, 500, .inl (MVAs v)), .inl (0, 500, .inl (MVSv v)), .inl (0, 4000, .inl (MVPt v)), .inl (0, 6, .inl (MVSp v)), .inl (3, 600, .inl (MVBf v)), .inl (0, 150, .inl (MVSm v)), .inl (0, 40, .inl (MVOr v)), .inl (3, 240, .inl (MVOu v))]) ?_ rfl rfl rfl rfl
  refine go_s 3 X (pc2 := 3) (st2 := [.int 1, .int b, .ref 0]) rfl ?_
  obtain ⟨r2, hq1, h⟩ := obind_inv h
  refine q_callV X [0, 1, 2, 3, 4, 5, 6, 7, 8, 9] [] (AH2 := [.inr (9, [.ref 1, .ref 2, .ref 3, .ref 4, .int (MVPc v), .int (MVIs v), .int (MVTh v), .ref 5, .int (MVSl v), .ref 6, .int (MVLn v), .int (MVEc v), .int (MVEo v), .int (MVSa v), .int (MVEn v), .int (MVTk v), .int (MVVa v), .int (MVFa v), .int (MVFo v), .ref 7, .int (MVSc v), .ref 8, .ref 9, .int (MVOl v)]), .inl (0, 500, .inl (MVSt v)), .inl (0, 500, .inl (MVAs v)), .inl (0, 500, .inl (MVSv v)), .inl (0, 4000, .inl (MVPt v)), .inl (0, 6, .inl (MVSp v)), .inl (3, 600, .inl (MVBf v)), .inl (0, 150, .inl (MVSm v)), .inl (0, 40, .inl (MVOr v)), .inl (3, 240, .inl (MVOu v))]) (st2 := [.int r2]) (c_X9_get _ _ _ _ hq1) ⟨rfl, rfl⟩ rfl k_X9_get l_X9_90 rfl rfl rfl rfl rfl (fit_of hR (by decide) (by decide) (by decide) (by decide)) (Nat.le_of_ble_eq_true rfl) (by decide) rfl rfl rfl ?_
  refine go_s 3 X (pc2 := 9) (st2 := [.int 1, .int a, .ref 0, .int r2]) rfl ?_
  obtain ⟨r5, hq4, h⟩ := obind_inv h
  refine q_callV X [0, 1, 2, 3, 4, 5, 6, 7, 8, 9] [] (AH2 := [.inr (9, [.ref 1, .ref 2, .ref 3, .ref 4, .int (MVPc v), .int (MVIs v), .int (MVTh v), .ref 5, .int (MVSl v), .ref 6, .int (MVLn v), .int (MVEc v), .int (MVEo v), .int (MVSa v), .int (MVEn v), .int (MVTk v), .int (MVVa v), .int (MVFa v), .int (MVFo v), .ref 7, .int (MVSc v), .ref 8, .ref 9, .int (MVOl v)]), .inl (0, 500, .inl (MVSt v)), .inl (0, 500, .inl (MVAs v)), .inl (0, 500, .inl (MVSv v)), .inl (0, 4000, .inl (MVPt v)), .inl (0, 6, .inl (MVSp v)), .inl (3, 600, .inl (MVBf v)), .inl (0, 150, .inl (MVSm v)), .inl (0, 40, .inl (MVOr v)), .inl (3, 240, .inl (MVOu v))]) (st2 := [.int r5, .int r2]) (c_X9_get _ _ _ _ hq4) ⟨rfl, rfl⟩ rfl k_X9_get l_X9_90 rfl rfl rfl rfl rfl (fit_of hR (by decide) (by decide) (by decide) (by decide)) (Nat.le_of_ble_eq_true rfl) (by decide) rfl rfl rfl ?_
  refine go_l 3 X (pc2 := 15) (ls2 := [some (.ref 0), some (.int a), some (.int b), some (.int (r2 - r5))]) (st2 := [.int (r2 - r5)]) rfl ?_
  refine r_if_gt X 27 rfl rfl (fun c7 => ?_) (fun c7 => ?_)
  · rw [if_pos c7] at h
    refine go_s 2 X (pc2 := 32) (st2 := [.int 1]) rfl ?_
    cases h
    exact r_zret X (ty := .boolean) rfl rfl rfl ⟨rfl, rfl⟩ (by decide) (by decide)
  · rw [if_neg c7] at h
    refine go_s 1 X (pc2 := 19) (st2 := [.int (r2 - r5)]) rfl ?_
    refine r_if_ne X 31 rfl rfl (fun c8 => ?_) (fun c8 => ?_)
    · rw [if_neg c8] at h
      refine go_s 1 X (pc2 := 32) (st2 := [.int 0]) rfl ?_
      cases h
      exact r_zret X (ty := .boolean) rfl rfl rfl ⟨rfl, rfl⟩ (by decide) (by decide)
    · rw [if_pos c8] at h
      refine go_s 2 X (pc2 := 24) (st2 := [.int b, .int a]) rfl ?_
      refine r_icmp_ge X 31 rfl rfl (fun c9 => ?_) (fun c9 => ?_)
      · rw [if_pos c9] at h
        refine go_s 1 X (pc2 := 32) (st2 := [.int 0]) rfl ?_
        cases h
        exact r_zret X (ty := .boolean) rfl rfl rfl ⟨rfl, rfl⟩ (by decide) (by decide)
      · rw [if_neg c9] at h
        refine go_s 2 X (pc2 := 32) (st2 := [.int 1]) rfl ?_
        cases h
        exact r_zret X (ty := .boolean) rfl rfl rfl ⟨rfl, rfl⟩ (by decide) (by decide)
set_option maxHeartbeats 400000 in
set_option maxRecDepth 20000 in
theorem c_X9_link (v : MV) (a : Int32) (b : Int32) (c : Int32) (r : Unit) (w : MV) (h : f_X9_link v a b c = some (r, w)) : Sem z_X9_link 2 0 0 [.ref 0, .int a, .int b, .int c] (WM v) (PST (.inl none) (WM w)) := by
  refine Sem.of zo_X9_link (by decide +kernel) (Nat.le_of_ble_eq_true rfl) fun κ X hE hR hN => ?_
  unfold f_X9_link at h
  refine AW.eq (pc' := 0) (ls' := [some (.ref 0), some (.int a), some (.int b), some (.int c)]) (st' := []) (AH' := [.inr (9, [.ref 1, .ref 2, .ref 3, .ref 4, .int (MVPc v), .int (MVIs v), .int (MVTh v), .ref 5, .int (MVSl v), .ref 6, .int (MVLn v), .int (MVEc v), .int (MVEo v), .int (MVSa v), .int (MVEn v), .int (MVTk v), .int (MVVa v), .int (MVFa v), .int (MVFo v), .ref 7, .int (MVSc v), .ref 8, .ref 9, .int (MVOl v)]), .inl (0, 500, .inl (MVSt v)), .inl (0, 500, .inl (MVAs v)), .inl (0, 500, .inl (MVSv v)), .inl (0, 4000, .inl (MVPt v)), .inl (0, 6, .inl (MVSp v)), .inl (3, 600, .inl (MVBf v)), .inl (0, 150, .inl (MVSm v)), .inl (0, 40, .inl (MVOr v)), .inl (3, 240, .inl (MVOu v))]) ?_ rfl rfl rfl rfl
  refine go_s 4 X (pc2 := 4) (st2 := [.int c, .int b, .int a, .ref 0]) rfl ?_
  obtain ⟨r2, w3, hq1, h⟩ := bnd2_inv h
  refine q_callV X [0, 1, 2, 3, 4, 5, 6, 7, 8, 9] [] (AH2 := [.inr (9, [.ref 1, .ref 2, .ref 3, .ref 4, .int (MVPc w3), .int (MVIs w3), .int (MVTh w3), .ref 5, .int (MVSl w3), .ref 6, .int (MVLn w3), .int (MVEc w3), .int (MVEo w3), .int (MVSa w3), .int (MVEn w3), .int (MVTk w3), .int (MVVa w3), .int (MVFa w3), .int (MVFo w3), .ref 7, .int (MVSc w3), .ref 8, .ref 9, .int (MVOl w3)]), .inl (0, 500, .inl (MVSt w3)), .inl (0, 500, .inl (MVAs w3)), .inl (0, 500, .inl (MVSv w3)), .inl (0, 4000, .inl (MVPt w3)), .inl (0, 6, .inl (MVSp w3)), .inl (3, 600, .inl (MVBf w3)), .inl (0, 150, .inl (MVSm w3)), .inl (0, 40, .inl (MVOr w3)), .inl (3, 240, .inl (MVOu w3))]) (st2 := []) (c_X9_set _ _ _ _ _ _ hq1) ⟨rfl, rfl⟩ rfl k_X9_set l_X9_94 rfl rfl rfl rfl rfl (fit_of hR (by decide) (by decide) (by decide) (by decide)) (Nat.le_of_ble_eq_true rfl) (by decide) rfl rfl rfl ?_
  refine go_s 2 X (pc2 := 9) (st2 := [.int (-1), .int c]) rfl ?_
  refine r_icmp_eq X 20 rfl rfl (fun c4 => ?_) (fun c4 => ?_)
  · rw [if_pos c4] at h
    cases h
    exact r_vret X rfl rfl ⟨rfl, rfl⟩ (by decide) (by decide)
  · rw [if_neg c4] at h
    refine go_s 4 X (pc2 := 17) (st2 := [.int a, .int 7, .int c, .ref 0]) rfl ?_
    obtain ⟨r6, w7, hq5, h⟩ := bnd2_inv h
    refine q_callV X [0, 1, 2, 3, 4, 5, 6, 7, 8, 9] [] (AH2 := [.inr (9, [.ref 1, .ref 2, .ref 3, .ref 4, .int (MVPc w7), .int (MVIs w7), .int (MVTh w7), .ref 5, .int (MVSl w7), .ref 6, .int (MVLn w7), .int (MVEc w7), .int (MVEo w7), .int (MVSa w7), .int (MVEn w7), .int (MVTk w7), .int (MVVa w7), .int (MVFa w7), .int (MVFo w7), .ref 7, .int (MVSc w7), .ref 8, .ref 9, .int (MVOl w7)]), .inl (0, 500, .inl (MVSt w7)), .inl (0, 500, .inl (MVAs w7)), .inl (0, 500, .inl (MVSv w7)), .inl (0, 4000, .inl (MVPt w7)), .inl (0, 6, .inl (MVSp w7)), .inl (3, 600, .inl (MVBf w7)), .inl (0, 150, .inl (MVSm w7)), .inl (0, 40, .inl (MVOr w7)), .inl (3, 240, .inl (MVOu w7))]) (st2 := []) (c_X9_set _ _ _ _ _ _ hq5) ⟨rfl, rfl⟩ rfl k_X9_set l_X9_94 rfl rfl rfl rfl rfl (fit_of hR (by decide) (by decide) (by decide) (by decide)) (Nat.le_of_ble_eq_true rfl) (by decide) rfl rfl rfl ?_
    cases h
    exact r_vret X rfl rfl ⟨rfl, rfl⟩ (by decide) (by decide)
set_option maxHeartbeats 400000 in
set_option maxRecDepth 20000 in
theorem c_X9_rankOf (v : MV) (a : Int32) (r : Int32) (h : f_X9_rankOf v a = some r) : Sem z_X9_rankOf 2 0 0 [.ref 0, .int a] (WM v) (PST (.inl (some (.int r))) (WM v)) := by
  refine Sem.of zo_X9_rankOf (by decide +kernel) (Nat.le_of_ble_eq_true rfl) fun κ X hE hR hN => ?_
  unfold f_X9_rankOf at h
  refine AW.eq (pc' := 0) (ls' := [some (.ref 0), some (.int a)]) (st' := []) (AH' := [.inr (9, [.ref 1, .ref 2, .ref 3, .ref 4, .int (MVPc v), .int (MVIs v), .int (MVTh v), .ref 5, .int (MVSl v), .ref 6, .int (MVLn v), .int (MVEc v), .int (MVEo v), .int (MVSa v), .int (MVEn v), .int (MVTk v), .int (MVVa v), .int (MVFa v), .int (MVFo v), .ref 7, .int (MVSc v), .ref 8, .ref 9, .int (MVOl v)]), .inl (0, 500, .inl (MVSt v)), .inl (0, 500, .inl (MVAs v)), .inl (0, 500, .inl (MVSv v)), .inl (0, 4000, .inl (MVPt v)), .inl (0, 6, .inl (MVSp v)), .inl (3, 600, .inl (MVBf v)), .inl (0, 150, .inl (MVSm v)), .inl (0, 40, .inl (MVOr v)), .inl (3, 240, .inl (MVOu v))]) ?_ rfl rfl rfl rfl
  refine go_s 2 X (pc2 := 2) (st2 := [.int (-1), .int a]) rfl ?_
  refine r_icmp_ne X 9 rfl rfl (fun c1 => ?_) (fun c1 => ?_)
  · rw [if_neg c1] at h
    refine go_s 3 X (pc2 := 13) (st2 := [.int 8, .int a, .ref 0]) rfl ?_
    obtain ⟨r3, hq2, h⟩ := obind_inv h
    refine q_callV X [0, 1, 2, 3, 4, 5, 6, 7, 8, 9] [] (AH2 := [.inr (9, [.ref 1, .ref 2, .ref 3, .ref 4, .int (MVPc v), .int (MVIs v), .int (MVTh v), .ref 5, .int (MVSl v), .ref 6, .int (MVLn v), .int (MVEc v), .int (MVEo v), .int (MVSa v), .int (MVEn v), .int (MVTk v), .int (MVVa v), .int (MVFa v), .int (MVFo v), .ref 7, .int (MVSc v), .ref 8, .ref 9, .int (MVOl v)]), .inl (0, 500, .inl (MVSt v)), .inl (0, 500, .inl (MVAs v)), .inl (0, 500, .inl (MVSv v)), .inl (0, 4000, .inl (MVPt v)), .inl (0, 6, .inl (MVSp v)), .inl (3, 600, .inl (MVBf v)), .inl (0, 150, .inl (MVSm v)), .inl (0, 40, .inl (MVOr v)), .inl (3, 240, .inl (MVOu v))]) (st2 := [.int r3]) (c_X9_get _ _ _ _ hq2) ⟨rfl, rfl⟩ rfl k_X9_get l_X9_90 rfl rfl rfl rfl rfl (fit_of hR (by decide) (by decide) (by decide) (by decide)) (Nat.le_of_ble_eq_true rfl) (by decide) rfl rfl rfl ?_
    cases h
    exact r_iret X rfl rfl ⟨rfl, rfl⟩ (by decide) (by decide)
  · rw [if_pos c1] at h
    refine go_s 2 X (pc2 := 16) (st2 := [.int 0]) rfl ?_
    cases h
    exact r_iret X rfl rfl ⟨rfl, rfl⟩ (by decide) (by decide)
set_option maxHeartbeats 400000 in
set_option maxRecDepth 20000 in
theorem c_X9_repair (v : MV) (a : Int32) (r : Unit) (w : MV) (h : f_X9_repair v a = some (r, w)) : Sem z_X9_repair 3 0 0 [.ref 0, .int a] (WM v) (PST (.inl none) (WM w)) := by
  refine Sem.of zo_X9_repair (by decide +kernel) (Nat.le_of_ble_eq_true rfl) fun κ X hE hR hN => ?_
  unfold f_X9_repair at h
  refine AW.eq (pc' := 0) (ls' := [some (.ref 0), some (.int a), none, none]) (st' := []) (AH' := [.inr (9, [.ref 1, .ref 2, .ref 3, .ref 4, .int (MVPc v), .int (MVIs v), .int (MVTh v), .ref 5, .int (MVSl v), .ref 6, .int (MVLn v), .int (MVEc v), .int (MVEo v), .int (MVSa v), .int (MVEn v), .int (MVTk v), .int (MVVa v), .int (MVFa v), .int (MVFo v), .ref 7, .int (MVSc v), .ref 8, .ref 9, .int (MVOl v)]), .inl (0, 500, .inl (MVSt v)), .inl (0, 500, .inl (MVAs v)), .inl (0, 500, .inl (MVSv v)), .inl (0, 4000, .inl (MVPt v)), .inl (0, 6, .inl (MVSp v)), .inl (3, 600, .inl (MVBf v)), .inl (0, 150, .inl (MVSm v)), .inl (0, 40, .inl (MVOr v)), .inl (3, 240, .inl (MVOu v))]) ?_ rfl rfl rfl rfl
  refine go_s 3 X (pc2 := 3) (st2 := [.int 5, .int a, .ref 0]) rfl ?_
  obtain ⟨r2, hq1, h⟩ := obind_inv h
  refine q_callV X [0, 1, 2, 3, 4, 5, 6, 7, 8, 9] [] (AH2 := [.inr (9, [.ref 1, .ref 2, .ref 3, .ref 4, .int (MVPc v), .int (MVIs v), .int (MVTh v), .ref 5, .int (MVSl v), .ref 6, .int (MVLn v), .int (MVEc v), .int (MVEo v), .int (MVSa v), .int (MVEn v), .int (MVTk v), .int (MVVa v), .int (MVFa v), .int (MVFo v), .ref 7, .int (MVSc v), .ref 8, .ref 9, .int (MVOl v)]), .inl (0, 500, .inl (MVSt v)), .inl (0, 500, .inl (MVAs v)), .inl (0, 500, .inl (MVSv v)), .inl (0, 4000, .inl (MVPt v)), .inl (0, 6, .inl (MVSp v)), .inl (3, 600, .inl (MVBf v)), .inl (0, 150, .inl (MVSm v)), .inl (0, 40, .inl (MVOr v)), .inl (3, 240, .inl (MVOu v))]) (st2 := [.int r2]) (c_X9_get _ _ _ _ hq1) ⟨rfl, rfl⟩ rfl k_X9_get l_X9_90 rfl rfl rfl rfl rfl (fit_of hR (by decide) (by decide) (by decide) (by decide)) (Nat.le_of_ble_eq_true rfl) (by decide) rfl rfl rfl ?_
  refine go_l 4 X (pc2 := 11) (ls2 := [some (.ref 0), some (.int a), some (.int r2), none]) (st2 := [.int 6, .int a, .ref 0]) rfl ?_
  obtain ⟨r5, hq4, h⟩ := obind_inv h
  refine q_callV X [0, 1, 2, 3, 4, 5, 6, 7, 8, 9] [] (AH2 := [.inr (9, [.ref 1, .ref 2, .ref 3, .ref 4, .int (MVPc v), .int (MVIs v), .int (MVTh v), .ref 5, .int (MVSl v), .ref 6, .int (MVLn v), .int (MVEc v), .int (MVEo v), .int (MVSa v), .int (MVEn v), .int (MVTk v), .int (MVVa v), .int (MVFa v), .int (MVFo v), .ref 7, .int (MVSc v), .ref 8, .ref 9, .int (MVOl v)]), .inl (0, 500, .inl (MVSt v)), .inl (0, 500, .inl (MVAs v)), .inl (0, 500, .inl (MVSv v)), .inl (0, 4000, .inl (MVPt v)), .inl (0, 6, .inl (MVSp v)), .inl (3, 600, .inl (MVBf v)), .inl (0, 150, .inl (MVSm v)), .inl (0, 40, .inl (MVOr v)), .inl (3, 240, .inl (MVOu v))]) (st2 := [.int r5]) (c_X9_get _ _ _ _ hq4) ⟨rfl, rfl⟩ rfl k_X9_get l_X9_90 rfl rfl rfl rfl rfl (fit_of hR (by decide) (by decide) (by decide) (by decide)) (Nat.le_of_ble_eq_true rfl) (by decide) rfl rfl rfl ?_
  refine go_l 3 X (pc2 := 17) (ls2 := [some (.ref 0), some (.int a), some (.int r2), some (.int r5)]) (st2 := [.int r2, .ref 0]) rfl ?_
  obtain ⟨r8, hq7, h⟩ := obind_inv h
  refine q_callV X [0, 1, 2, 3, 4, 5, 6, 7, 8, 9] [] (AH2 := [.inr (9, [.ref 1, .ref 2, .ref 3, .ref 4, .int (MVPc v), .int (MVIs v), .int (MVTh v), .ref 5, .int (MVSl v), .ref 6, .int (MVLn v), .int (MVEc v), .int (MVEo v), .int (MVSa v), .int (MVEn v), .int (MVTk v), .int (MVVa v), .int (MVFa v), .int (MVFo v), .ref 7, .int (MVSc v), .ref 8, .ref 9, .int (MVOl v)]), .inl (0, 500, .inl (MVSt v)), .inl (0, 500, .inl (MVAs v)), .inl (0, 500, .inl (MVSv v)), .inl (0, 4000, .inl (MVPt v)), .inl (0, 6, .inl (MVSp v)), .inl (3, 600, .inl (MVBf v)), .inl (0, 150, .inl (MVSm v)), .inl (0, 40, .inl (MVOr v)), .inl (3, 240, .inl (MVOu v))]) (st2 := [.int r8]) (c_X9_rankOf _ _ _ hq7) ⟨rfl, rfl⟩ rfl k_X9_rankOf l_X9_98 rfl rfl rfl rfl rfl (fit_of hR (by decide) (by decide) (by decide) (by decide)) (Nat.le_of_ble_eq_true rfl) (by decide) rfl rfl rfl ?_
  refine go_s 2 X (pc2 := 22) (st2 := [.int r5, .ref 0, .int r8]) rfl ?_
  obtain ⟨r11, hq10, h⟩ := obind_inv h
  refine q_callV X [0, 1, 2, 3, 4, 5, 6, 7, 8, 9] [] (AH2 := [.inr (9, [.ref 1, .ref 2, .ref 3, .ref 4, .int (MVPc v), .int (MVIs v), .int (MVTh v), .ref 5, .int (MVSl v), .ref 6, .int (MVLn v), .int (MVEc v), .int (MVEo v), .int (MVSa v), .int (MVEn v), .int (MVTk v), .int (MVVa v), .int (MVFa v), .int (MVFo v), .ref 7, .int (MVSc v), .ref 8, .ref 9, .int (MVOl v)]), .inl (0, 500, .inl (MVSt v)), .inl (0, 500, .inl (MVAs v)), .inl (0, 500, .inl (MVSv v)), .inl (0, 4000, .inl (MVPt v)), .inl (0, 6, .inl (MVSp v)), .inl (3, 600, .inl (MVBf v)), .inl (0, 150, .inl (MVSm v)), .inl (0, 40, .inl (MVOr v)), .inl (3, 240, .inl (MVOu v))]) (st2 := [.int r11, .int r8]) (c_X9_rankOf _ _ _ hq10) ⟨rfl, rfl⟩ rfl k_X9_rankOf l_X9_98 rfl rfl rfl rfl rfl (fit_of hR (by decide) (by decide) (by decide) (by decide)) (Nat.le_of_ble_eq_true rfl) (by decide) rfl rfl rfl ?_
  refine r_icmp_ge X 53 rfl rfl (fun c13 => ?_) (fun c13 => ?_)
  · rw [if_pos c13] at h
    refine go_s 8 X (pc2 := 63) (st2 := [.int 6, .int a, .ref 0, .ref 0, .int 1, .int 8, .int a, .ref 0]) rfl ?_
    obtain ⟨r15, hq14, h⟩ := obind_inv h
    refine q_callV X [0, 1, 2, 3, 4, 5, 6, 7, 8, 9] [] (AH2 := [.inr (9, [.ref 1, .ref 2, .ref 3, .ref 4, .int (MVPc v), .int (MVIs v), .int (MVTh v), .ref 5, .int (MVSl v), .ref 6, .int (MVLn v), .int (MVEc v), .int (MVEo v), .int (MVSa v), .int (MVEn v), .int (MVTk v), .int (MVVa v), .int (MVFa v), .int (MVFo v), .ref 7, .int (MVSc v), .ref 8, .ref 9, .int (MVOl v)]), .inl (0, 500, .inl (MVSt v)), .inl (0, 500, .inl (MVAs v)), .inl (0, 500, .inl (MVSv v)), .inl (0, 4000, .inl (MVPt v)), .inl (0, 6, .inl (MVSp v)), .inl (3, 600, .inl (MVBf v)), .inl (0, 150, .inl (MVSm v)), .inl (0, 40, .inl (MVOr v)), .inl (3, 240, .inl (MVOu v))]) (st2 := [.int r15, .ref 0, .int 1, .int 8, .int a, .ref 0]) (c_X9_get _ _ _ _ hq14) ⟨rfl, rfl⟩ rfl k_X9_get l_X9_90 rfl rfl rfl rfl rfl (fit_of hR (by decide) (by decide) (by decide) (by decide)) (Nat.le_of_ble_eq_true rfl) (by decide) rfl rfl rfl ?_
    obtain ⟨r18, hq17, h⟩ := obind_inv h
    refine q_callV X [0, 1, 2, 3, 4, 5, 6, 7, 8, 9] [] (AH2 := [.inr (9, [.ref 1, .ref 2, .ref 3, .ref 4, .int (MVPc v), .int (MVIs v), .int (MVTh v), .ref 5, .int (MVSl v), .ref 6, .int (MVLn v), .int (MVEc v), .int (MVEo v), .int (MVSa v), .int (MVEn v), .int (MVTk v), .int (MVVa v), .int (MVFa v), .int (MVFo v), .ref 7, .int (MVSc v), .ref 8, .ref 9, .int (MVOl v)]), .inl (0, 500, .inl (MVSt v)), .inl (0, 500, .inl (MVAs v)), .inl (0, 500, .inl (MVSv v)), .inl (0, 4000, .inl (MVPt v)), .inl (0, 6, .inl (MVSp v)), .inl (3, 600, .inl (MVBf v)), .inl (0, 150, .inl (MVSm v)), .inl (0, 40, .inl (MVOr v)), .inl (3, 240, .inl (MVOu v))]) (st2 := [.int r18, .int 1, .int 8, .int a, .ref 0]) (c_X9_rankOf _ _ _ hq17) ⟨rfl, rfl⟩ rfl k_X9_rankOf l_X9_98 rfl rfl rfl rfl rfl (fit_of hR (by decide) (by decide) (by decide) (by decide)) (Nat.le_of_ble_eq_true rfl) (by decide) rfl rfl rfl ?_
    refine go_s 1 X (pc2 := 70) (st2 := [.int (1 + r18), .int 8, .int a, .ref 0]) rfl ?_
    obtain ⟨r21, w22, hq20, h⟩ := bnd2_inv h
    refine q_callV X [0, 1, 2, 3, 4, 5, 6, 7, 8, 9] [] (AH2 := [.inr (9, [.ref 1, .ref 2, .ref 3, .ref 4, .int (MVPc w22), .int (MVIs w22), .int (MVTh w22), .ref 5, .int (MVSl w22), .ref 6, .int (MVLn w22), .int (MVEc w22), .int (MVEo w22), .int (MVSa w22), .int (MVEn w22), .int (MVTk w22), .int (MVVa w22), .int (MVFa w22), .int (MVFo w22), .ref 7, .int (MVSc w22), .ref 8, .ref 9, .int (MVOl w22)]), .inl (0, 500, .inl (MVSt w22)), .inl (0, 500, .inl (MVAs w22)), .inl (0, 500, .inl (MVSv w22)), .inl (0, 4000, .inl (MVPt w22)), .inl (0, 6, .inl (MVSp w22)), .inl (3, 600, .inl (MVBf w22)), .inl (0, 150, .inl (MVSm w22)), .inl (0, 40, .inl (MVOr w22)), .inl (3, 240, .inl (MVOu w22))]) (st2 := []) (c_X9_set _ _ _ _ _ _ hq20) ⟨rfl, rfl⟩ rfl k_X9_set l_X9_94 rfl rfl rfl rfl rfl (fit_of hR (by decide) (by decide) (by decide) (by decide)) (Nat.le_of_ble_eq_true rfl) (by decide) rfl rfl rfl ?_
    cases h
    exact r_vret X rfl rfl ⟨rfl, rfl⟩ (by decide) (by decide)
  · rw [if_neg c13] at h
    refine go_s 4 X (pc2 := 32) (st2 := [.int r5, .int 5, .int a, .ref 0]) rfl ?_
    obtain ⟨r24, w25, hq23, h⟩ := bnd2_inv h
    refine q_callV X [0, 1, 2, 3, 4, 5, 6, 7, 8, 9] [] (AH2 := [.inr (9, [.ref 1, .ref 2, .ref 3, .ref 4, .int (MVPc w25), .int (MVIs w25), .int (MVTh w25), .ref 5, .int (MVSl w25), .ref 6, .int (MVLn w25), .int (MVEc w25), .int (MVEo w25), .int (MVSa w25), .int (MVEn w25), .int (MVTk w25), .int (MVVa w25), .int (MVFa w25), .int (MVFo w25), .ref 7, .int (MVSc w25), .ref 8, .ref 9, .int (MVOl w25)]), .inl (0, 500, .inl (MVSt w25)), .inl (0, 500, .inl (MVAs w25)), .inl (0, 500, .inl (MVSv w25)), .inl (0, 4000, .inl (MVPt w25)), .inl (0, 6, .inl (MVSp w25)), .inl (3, 600, .inl (MVBf w25)), .inl (0, 150, .inl (MVSm w25)), .inl (0, 40, .inl (MVOr w25)), .inl (3, 240, .inl (MVOu w25))]) (st2 := []) (c_X9_set _ _ _ _ _ _ hq23) ⟨rfl, rfl⟩ rfl k_X9_set l_X9_94 rfl rfl rfl rfl rfl (fit_of hR (by decide) (by decide) (by decide) (by decide)) (Nat.le_of_ble_eq_true rfl) (by decide) rfl rfl rfl ?_
    refine go_s 4 X (pc2 := 40) (st2 := [.int r2, .int 6, .int a, .ref 0]) rfl ?_
    obtain ⟨r27, w28, hq26, h⟩ := bnd2_inv h
    refine q_callV X [0, 1, 2, 3, 4, 5, 6, 7, 8, 9] [] (AH2 := [.inr (9, [.ref 1, .ref 2, .ref 3, .ref 4, .int (MVPc w28), .int (MVIs w28), .int (MVTh w28), .ref 5, .int (MVSl w28), .ref 6, .int (MVLn w28), .int (MVEc w28), .int (MVEo w28), .int (MVSa w28), .int (MVEn w28), .int (MVTk w28), .int (MVVa w28), .int (MVFa w28), .int (MVFo w28), .ref 7, .int (MVSc w28), .ref 8, .ref 9, .int (MVOl w28)]), .inl (0, 500, .inl (MVSt w28)), .inl (0, 500, .inl (MVAs w28)), .inl (0, 500, .inl (MVSv w28)), .inl (0, 4000, .inl (MVPt w28)), .inl (0, 6, .inl (MVSp w28)), .inl (3, 600, .inl (MVBf w28)), .inl (0, 150, .inl (MVSm w28)), .inl (0, 40, .inl (MVOr w28)), .inl (3, 240, .inl (MVOu w28))]) (st2 := []) (c_X9_set _ _ _ _ _ _ hq26) ⟨rfl, rfl⟩ rfl k_X9_set l_X9_94 rfl rfl rfl rfl rfl (fit_of hR (by decide) (by decide) (by decide) (by decide)) (Nat.le_of_ble_eq_true rfl) (by decide) rfl rfl rfl ?_
    refine go_s 4 X (pc2 := 49) (st2 := [.int 4, .ref 1, .int 4, .ref 1]) rfl ?_
    by_cases b29 : oob 4 500
    · rw [if_pos b29] at h; cases h
    rw [if_neg b29] at h
    refine r_iald X rfl rfl b29 ?_
    refine go_s 2 X (pc2 := 52) (st2 := [.int (((MVSt w28) (Int32.toNatClampNeg 4)) + 1), .int 4, .ref 1]) rfl ?_
    by_cases b30 : oob 4 500
    · rw [if_pos b30] at h; cases h
    rw [if_neg b30] at h
    refine r_iast X rfl rfl b30 ?_
    refine go_s 8 X (pc2 := 63) (st2 := [.int 6, .int a, .ref 0, .ref 0, .int 1, .int 8, .int a, .ref 0]) rfl ?_
    obtain ⟨r32, hq31, h⟩ := obind_inv h
    refine q_callV X [0, 1, 2, 3, 4, 5, 6, 7, 8, 9] [] (AH2 := [.inr (9, [.ref 1, .ref 2, .ref 3, .ref 4, .int (MVPc w28), .int (MVIs w28), .int (MVTh w28), .ref 5, .int (MVSl w28), .ref 6, .int (MVLn w28), .int (MVEc w28), .int (MVEo w28), .int (MVSa w28), .int (MVEn w28), .int (MVTk w28), .int (MVVa w28), .int (MVFa w28), .int (MVFo w28), .ref 7, .int (MVSc w28), .ref 8, .ref 9, .int (MVOl w28)]), .inl (0, 500, .inl (upd (MVSt w28) (Int32.toNatClampNeg 4) (((MVSt w28) (Int32.toNatClampNeg 4)) + 1))), .inl (0, 500, .inl (MVAs w28)), .inl (0, 500, .inl (MVSv w28)), .inl (0, 4000, .inl (MVPt w28)), .inl (0, 6, .inl (MVSp w28)), .inl (3, 600, .inl (MVBf w28)), .inl (0, 150, .inl (MVSm w28)), .inl (0, 40, .inl (MVOr w28)), .inl (3, 240, .inl (MVOu w28))]) (st2 := [.int r32, .ref 0, .int 1, .int 8, .int a, .ref 0]) (c_X9_get _ _ _ _ hq31) ⟨rfl, rfl⟩ rfl k_X9_get l_X9_90 rfl rfl rfl rfl rfl (fit_of hR (by decide) (by decide) (by decide) (by decide)) (Nat.le_of_ble_eq_true rfl) (by decide) rfl rfl rfl ?_
    obtain ⟨r35, hq34, h⟩ := obind_inv h
    refine q_callV X [0, 1, 2, 3, 4, 5, 6, 7, 8, 9] [] (AH2 := [.inr (9, [.ref 1, .ref 2, .ref 3, .ref 4, .int (MVPc w28), .int (MVIs w28), .int (MVTh w28), .ref 5, .int (MVSl w28), .ref 6, .int (MVLn w28), .int (MVEc w28), .int (MVEo w28), .int (MVSa w28), .int (MVEn w28), .int (MVTk w28), .int (MVVa w28), .int (MVFa w28), .int (MVFo w28), .ref 7, .int (MVSc w28), .ref 8, .ref 9, .int (MVOl w28)]), .inl (0, 500, .inl (upd (MVSt w28) (Int32.toNatClampNeg 4) (((MVSt w28) (Int32.toNatClampNeg 4)) + 1))), .inl (0, 500, .inl (MVAs w28)), .inl (0, 500, .inl (MVSv w28)), .inl (0, 4000, .inl (MVPt w28)), .inl (0, 6, .inl (MVSp w28)), .inl (3, 600, .inl (MVBf w28)), .inl (0, 150, .inl (MVSm w28)), .inl (0, 40, .inl (MVOr w28)), .inl (3, 240, .inl (MVOu w28))]) (st2 := [.int r35, .int 1, .int 8, .int a, .ref 0]) (c_X9_rankOf _ _ _ hq34) ⟨rfl, rfl⟩ rfl k_X9_rankOf l_X9_98 rfl rfl rfl rfl rfl (fit_of hR (by decide) (by decide) (by decide) (by decide)) (Nat.le_of_ble_eq_true rfl) (by decide) rfl rfl rfl ?_
    refine go_s 1 X (pc2 := 70) (st2 := [.int (1 + r35), .int 8, .int a, .ref 0]) rfl ?_
    obtain ⟨r38, w39, hq37, h⟩ := bnd2_inv h
    refine q_callV X [0, 1, 2, 3, 4, 5, 6, 7, 8, 9] [] (AH2 := [.inr (9, [.ref 1, .ref 2, .ref 3, .ref 4, .int (MVPc w39), .int (MVIs w39), .int (MVTh w39), .ref 5, .int (MVSl w39), .ref 6, .int (MVLn w39), .int (MVEc w39), .int (MVEo w39), .int (MVSa w39), .int (MVEn w39), .int (MVTk w39), .int (MVVa w39), .int (MVFa w39), .int (MVFo w39), .ref 7, .int (MVSc w39), .ref 8, .ref 9, .int (MVOl w39)]), .inl (0, 500, .inl (MVSt w39)), .inl (0, 500, .inl (MVAs w39)), .inl (0, 500, .inl (MVSv w39)), .inl (0, 4000, .inl (MVPt w39)), .inl (0, 6, .inl (MVSp w39)), .inl (3, 600, .inl (MVBf w39)), .inl (0, 150, .inl (MVSm w39)), .inl (0, 40, .inl (MVOr w39)), .inl (3, 240, .inl (MVOu w39))]) (st2 := []) (c_X9_set _ _ _ _ _ _ hq37) ⟨rfl, rfl⟩ rfl k_X9_set l_X9_94 rfl rfl rfl rfl rfl (fit_of hR (by decide) (by decide) (by decide) (by decide)) (Nat.le_of_ble_eq_true rfl) (by decide) rfl rfl rfl ?_
    cases h
    exact r_vret X rfl rfl ⟨rfl, rfl⟩ (by decide) (by decide)
set_option maxHeartbeats 400000 in
set_option maxRecDepth 20000 in
theorem c_X9_merge : ∀ (n : Nat) (v : MV) (a : Int32) (b : Int32) (r : Int32) (w : MV) (h : f_X9_merge n v a b = some (r, w)), Sem z_X9_merge (n + 4) 0 0 [.ref 0, .int a, .int b] (WM v) (PST (.inl (some (.int r))) (WM w)) := by
  intro n
  induction n with
  | zero =>
    intro v a b r w h
    unfold f_X9_merge at h
    cases h
  | succ n ih =>
    intro v a b r w h
    refine Sem.of zo_X9_merge (by decide +kernel) (Nat.le_of_ble_eq_true rfl) fun κ X hE hR hN => ?_
    unfold f_X9_merge at h
    refine AW.eq (pc' := 0) (ls' := [some (.ref 0), some (.int a), some (.int b), none, none, none, none]) (st' := []) (AH' := [.inr (9, [.ref 1, .ref 2, .ref 3, .ref 4, .int (MVPc v), .int (MVIs v), .int (MVTh v), .ref 5, .int (MVSl v), .ref 6, .int (MVLn v), .int (MVEc v), .int (MVEo v), .int (MVSa v), .int (MVEn v), .int (MVTk v), .int (MVVa v), .int (MVFa v), .int (MVFo v), .ref 7, .int (MVSc v), .ref 8, .ref 9, .int (MVOl v)]), .inl (0, 500, .inl (MVSt v)), .inl (0, 500, .inl (MVAs v)), .inl (0, 500, .inl (MVSv v)), .inl (0, 4000, .inl (MVPt v)), .inl (0, 6, .inl (MVSp v)), .inl (3, 600, .inl (MVBf v)), .inl (0, 150, .inl (MVSm v)), .inl (0, 40, .inl (MVOr v)), .inl (3, 240, .inl (MVOu v))]) ?_ rfl rfl rfl rfl
    refine go_s 2 X (pc2 := 2) (st2 := [.int (-1), .int a]) rfl ?_
    refine r_icmp_ne X 7 rfl rfl (fun c1 => ?_) (fun c1 => ?_)
    · rw [if_neg c1] at h
      refine go_s 2 X (pc2 := 9) (st2 := [.int (-1), .int b]) rfl ?_
      refine r_icmp_ne X 14 rfl rfl (fun c2 => ?_) (fun c2 => ?_)
      · rw [if_neg c2] at h
        refine go_s 4 X (pc2 := 20) (st2 := [.int 3, .ref 1, .int 3, .ref 1]) rfl ?_
        by_cases b3 : oob 3 500
        · rw [if_pos b3] at h; cases h
        rw [if_neg b3] at h
        refine r_iald X rfl rfl b3 ?_
        refine go_s 2 X (pc2 := 23) (st2 := [.int (((MVSt v) (Int32.toNatClampNeg 3)) + 1), .int 3, .ref 1]) rfl ?_
        by_cases b4 : oob 3 500
        · rw [if_pos b4] at h; cases h
        rw [if_neg b4] at h
        refine r_iast X rfl rfl b4 ?_
        refine go_s 3 X (pc2 := 27) (st2 := [.int b, .int a, .ref 0]) rfl ?_
        obtain ⟨r6, hq5, h⟩ := obind_inv h
        refine q_callV X [0, 1, 2, 3, 4, 5, 6, 7, 8, 9] [] (AH2 := [.inr (9, [.ref 1, .ref 2, .ref 3, .ref 4, .int (MVPc v), .int (MVIs v), .int (MVTh v), .ref 5, .int (MVSl v), .ref 6, .int (MVLn v), .int (MVEc v), .int (MVEo v), .int (MVSa v), .int (MVEn v), .int (MVTk v), .int (MVVa v), .int (MVFa v), .int (MVFo v), .ref 7, .int (MVSc v), .ref 8, .ref 9, .int (MVOl v)]), .inl (0, 500, .inl (upd (MVSt v) (Int32.toNatClampNeg 3) (((MVSt v) (Int32.toNatClampNeg 3)) + 1))), .inl (0, 500, .inl (MVAs v)), .inl (0, 500, .inl (MVSv v)), .inl (0, 4000, .inl (MVPt v)), .inl (0, 6, .inl (MVSp v)), .inl (3, 600, .inl (MVBf v)), .inl (0, 150, .inl (MVSm v)), .inl (0, 40, .inl (MVOr v)), .inl (3, 240, .inl (MVOu v))]) (st2 := [.int r6]) (c_X9_precedes _ _ _ _ hq5) ⟨rfl, rfl⟩ rfl k_X9_precedes l_X9_101 rfl rfl rfl rfl rfl (fit_of hR (by omega) (by decide) (by decide) (by decide)) (Nat.le_of_ble_eq_true rfl) (by decide) rfl rfl rfl ?_
        refine go_l 2 X (pc2 := 32) (ls2 := [some (.ref 0), some (.int a), some (.int b), some (.int r6), none, none, none]) (st2 := [.int r6]) rfl ?_
        refine r_if_eq X 39 rfl rfl (fun c8 => ?_) (fun c8 => ?_)
        · rw [if_pos c8] at h
          refine go_l 3 X (pc2 := 43) (ls2 := [some (.ref 0), some (.int a), some (.int b), some (.int r6), some (.int b), none, none]) (st2 := [.int r6]) rfl ?_
          refine r_if_eq X 50 rfl rfl (fun c9 => ?_) (fun c9 => ?_)
          · rw [if_pos c9] at h
            refine go_l 6 X (pc2 := 59) (ls2 := [some (.ref 0), some (.int a), some (.int b), some (.int r6), some (.int b), some (.int a), none]) (st2 := [.int 6, .int b, .ref 0, .ref 0]) rfl ?_
            obtain ⟨r11, hq10, h⟩ := obind_inv h
            refine q_callV X [0, 1, 2, 3, 4, 5, 6, 7, 8, 9] [] (AH2 := [.inr (9, [.ref 1, .ref 2, .ref 3, .ref 4, .int (MVPc v), .int (MVIs v), .int (MVTh v), .ref 5, .int (MVSl v), .ref 6, .int (MVLn v), .int (MVEc v), .int (MVEo v), .int (MVSa v), .int (MVEn v), .int (MVTk v), .int (MVVa v), .int (MVFa v), .int (MVFo v), .ref 7, .int (MVSc v), .ref 8, .ref 9, .int (MVOl v)]), .inl (0, 500, .inl (upd (MVSt v) (Int32.toNatClampNeg 3) (((MVSt v) (Int32.toNatClampNeg 3)) + 1))), .inl (0, 500, .inl (MVAs v)), .inl (0, 500, .inl (MVSv v)), .inl (0, 4000, .inl (MVPt v)), .inl (0, 6, .inl (MVSp v)), .inl (3, 600, .inl (MVBf v)), .inl (0, 150, .inl (MVSm v)), .inl (0, 40, .inl (MVOr v)), .inl (3, 240, .inl (MVOu v))]) (st2 := [.int r11, .ref 0]) (c_X9_get _ _ _ _ hq10) ⟨rfl, rfl⟩ rfl k_X9_get l_X9_90 rfl rfl rfl rfl rfl (fit_of hR (by omega) (by decide) (by decide) (by decide)) (Nat.le_of_ble_eq_true rfl) (by decide) rfl rfl rfl ?_
            refine go_s 1 X (pc2 := 64) (st2 := [.int a, .int r11, .ref 0]) rfl ?_
            obtain ⟨r14, w15, hq13, h⟩ := bnd2_inv h
            refine q_callV X [0, 1, 2, 3, 4, 5, 6, 7, 8, 9] [] (AH2 := [.inr (9, [.ref 1, .ref 2, .ref 3, .ref 4, .int (MVPc w15), .int (MVIs w15), .int (MVTh w15), .ref 5, .int (MVSl w15), .ref 6, .int (MVLn w15), .int (MVEc w15), .int (MVEo w15), .int (MVSa w15), .int (MVEn w15), .int (MVTk w15), .int (MVVa w15), .int (MVFa w15), .int (MVFo w15), .ref 7, .int (MVSc w15), .ref 8, .ref 9, .int (MVOl w15)]), .inl (0, 500, .inl (MVSt w15)), .inl (0, 500, .inl (MVAs w15)), .inl (0, 500, .inl (MVSv w15)), .inl (0, 4000, .inl (MVPt w15)), .inl (0, 6, .inl (MVSp w15)), .inl (3, 600, .inl (MVBf w15)), .inl (0, 150, .inl (MVSm w15)), .inl (0, 40, .inl (MVOr w15)), .inl (3, 240, .inl (MVOu w15))]) (st2 := [.int r14]) (ih _ _ _ _ _ hq13) ⟨rfl, rfl⟩ rfl k_X9_merge l_X9_105 rfl rfl rfl rfl rfl (fit_of hR (by omega) (by decide) (by decide) (by decide)) (Nat.le_of_ble_eq_true rfl) (by decide) rfl rfl rfl ?_
            refine go_l 5 X (pc2 := 76) (ls2 := [some (.ref 0), some (.int a), some (.int b), some (.int r6), some (.int b), some (.int a), some (.int r14)]) (st2 := [.int r14, .int 6, .int b, .ref 0]) rfl ?_
            obtain ⟨r17, w18, hq16, h⟩ := bnd2_inv h
            refine q_callV X [0, 1, 2, 3, 4, 5, 6, 7, 8, 9] [] (AH2 := [.inr (9, [.ref 1, .ref 2, .ref 3, .ref 4, .int (MVPc w18), .int (MVIs w18), .int (MVTh w18), .ref 5, .int (MVSl w18), .ref 6, .int (MVLn w18), .int (MVEc w18), .int (MVEo w18), .int (MVSa w18), .int (MVEn w18), .int (MVTk w18), .int (MVVa w18), .int (MVFa w18), .int (MVFo w18), .ref 7, .int (MVSc w18), .ref 8, .ref 9, .int (MVOl w18)]), .inl (0, 500, .inl (MVSt w18)), .inl (0, 500, .inl (MVAs w18)), .inl (0, 500, .inl (MVSv w18)), .inl (0, 4000, .inl (MVPt w18)), .inl (0, 6, .inl (MVSp w18)), .inl (3, 600, .inl (MVBf w18)), .inl (0, 150, .inl (MVSm w18)), .inl (0, 40, .inl (MVOr w18)), .inl (3, 240, .inl (MVOu w18))]) (st2 := []) (c_X9_link _ _ _ _ _ _ hq16) ⟨rfl, rfl⟩ rfl k_X9_link l_X9_108 rfl rfl rfl rfl rfl (fit_of hR (by omega) (by decide) (by decide) (by decide)) (Nat.le_of_ble_eq_true rfl) (by decide) rfl rfl rfl ?_
            refine go_s 2 X (pc2 := 82) (st2 := [.int b, .ref 0]) rfl ?_
            obtain ⟨r20, w21, hq19, h⟩ := bnd2_inv h
            refine q_callV X [0, 1, 2, 3, 4, 5, 6, 7, 8, 9] [] (AH2 := [.inr (9, [.ref 1, .ref 2, .ref 3, .ref 4, .int (MVPc w21), .int (MVIs w21), .int (MVTh w21), .ref 5, .int (MVSl w21), .ref 6, .int (MVLn w21), .int (MVEc w21), .int (MVEo w21), .int (MVSa w21), .int (MVEn w21), .int (MVTk w21), .int (MVVa w21), .int (MVFa w21), .int (MVFo w21), .ref 7, .int (MVSc w21), .ref 8, .ref 9, .int (MVOl w21)]), .inl (0, 500, .inl (MVSt w21)), .inl (0, 500, .inl (MVAs w21)), .inl (0, 500, .inl (MVSv w21)), .inl (0, 4000, .inl (MVPt w21)), .inl (0, 6, .inl (MVSp w21)), .inl (3, 600, .inl (MVBf w21)), .inl (0, 150, .inl (MVSm w21)), .inl (0, 40, .inl (MVOr w21)), .inl (3, 240, .inl (MVOu w21))]) (st2 := []) (c_X9_repair _ _ _ _ hq19) ⟨rfl, rfl⟩ rfl k_X9_repair l_X9_111 rfl rfl rfl rfl rfl (fit_of hR (by omega) (by decide) (by decide) (by decide)) (Nat.le_of_ble_eq_true rfl) (by decide) rfl rfl rfl ?_
            refine go_s 1 X (pc2 := 87) (st2 := [.int b]) rfl ?_
            cases h
            exact r_iret X rfl rfl ⟨rfl, rfl⟩ (by decide) (by decide)
          · rw [if_neg c9] at h
            refine go_l 7 X (pc2 := 59) (ls2 := [some (.ref 0), some (.int a), some (.int b), some (.int r6), some (.int b), some (.int b), none]) (st2 := [.int 6, .int b, .ref 0, .ref 0]) rfl ?_
            obtain ⟨r23, hq22, h⟩ := obind_inv h
            refine q_callV X [0, 1, 2, 3, 4, 5, 6, 7, 8, 9] [] (AH2 := [.inr (9, [.ref 1, .ref 2, .ref 3, .ref 4, .int (MVPc v), .int (MVIs v), .int (MVTh v), .ref 5, .int (MVSl v), .ref 6, .int (MVLn v), .int (MVEc v), .int (MVEo v), .int (MVSa v), .int (MVEn v), .int (MVTk v), .int (MVVa v), .int (MVFa v), .int (MVFo v), .ref 7, .int (MVSc v), .ref 8, .ref 9, .int (MVOl v)]), .inl (0, 500, .inl (upd (MVSt v) (Int32.toNatClampNeg 3) (((MVSt v) (Int32.toNatClampNeg 3)) + 1))), .inl (0, 500, .inl (MVAs v)), .inl (0, 500, .inl (MVSv v)), .inl (0, 4000, .inl (MVPt v)), .inl (0, 6, .inl (MVSp v)), .inl (3, 600, .inl (MVBf v)), .inl (0, 150, .inl (MVSm v)), .inl (0, 40, .inl (MVOr v)), .inl (3, 240, .inl (MVOu v))]) (st2 := [.int r23, .ref 0]) (c_X9_get _ _ _ _ hq22) ⟨rfl, rfl⟩ rfl k_X9_get l_X9_90 rfl rfl rfl rfl rfl (fit_of hR (by omega) (by decide) (by decide) (by decide)) (Nat.le_of_ble_eq_true rfl) (by decide) rfl rfl rfl ?_
            refine go_s 1 X (pc2 := 64) (st2 := [.int b, .int r23, .ref 0]) rfl ?_
            obtain ⟨r26, w27, hq25, h⟩ := bnd2_inv h
            refine q_callV X [0, 1, 2, 3, 4, 5, 6, 7, 8, 9] [] (AH2 := [.inr (9, [.ref 1, .ref 2, .ref 3, .ref 4, .int (MVPc w27), .int (MVIs w27), .int (MVTh w27), .ref 5, .int (MVSl w27), .ref 6, .int (MVLn w27), .int (MVEc w27), .int (MVEo w27), .int (MVSa w27), .int (MVEn w27), .int (MVTk w27), .int (MVVa w27), .int (MVFa w27), .int (MVFo w27), .ref 7, .int (MVSc w27), .ref 8, .ref 9, .int (MVOl w27)]), .inl (0, 500, .inl (MVSt w27)), .inl (0, 500, .inl (MVAs w27)), .inl (0, 500, .inl (MVSv w27)), .inl (0, 4000, .inl (MVPt w27)), .inl (0, 6, .inl (MVSp w27)), .inl (3, 600, .inl (MVBf w27)), .inl (0, 150, .inl (MVSm w27)), .inl (0, 40, .inl (MVOr w27)), .inl (3, 240, .inl (MVOu w27))]) (st2 := [.int r26]) (ih _ _ _ _ _ hq25) ⟨rfl, rfl⟩ rfl k_X9_merge l_X9_105 rfl rfl rfl rfl rfl (fit_of hR (by omega) (by decide) (by decide) (by decide)) (Nat.le_of_ble_eq_true rfl) (by decide) rfl rfl rfl ?_
            refine go_l 5 X (pc2 := 76) (ls2 := [some (.ref 0), some (.int a), some (.int b), some (.int r6), some (.int b), some (.int b), some (.int r26)]) (st2 := [.int r26, .int 6, .int b, .ref 0]) rfl ?_
            obtain ⟨r29, w30, hq28, h⟩ := bnd2_inv h
            refine q_callV X [0, 1, 2, 3, 4, 5, 6, 7, 8, 9] [] (AH2 := [.inr (9, [.ref 1, .ref 2, .ref 3, .ref 4, .int (MVPc w30), .int (MVIs w30), .int (MVTh w30), .ref 5, .int (MVSl w30), .ref 6, .int (MVLn w30), .int (MVEc w30), .int (MVEo w30), .int (MVSa w30), .int (MVEn w30), .int (MVTk w30), .int (MVVa w30), .int (MVFa w30), .int (MVFo w30), .ref 7, .int (MVSc w30), .ref 8, .ref 9, .int (MVOl w30)]), .inl (0, 500, .inl (MVSt w30)), .inl (0, 500, .inl (MVAs w30)), .inl (0, 500, .inl (MVSv w30)), .inl (0, 4000, .inl (MVPt w30)), .inl (0, 6, .inl (MVSp w30)), .inl (3, 600, .inl (MVBf w30)), .inl (0, 150, .inl (MVSm w30)), .inl (0, 40, .inl (MVOr w30)), .inl (3, 240, .inl (MVOu w30))]) (st2 := []) (c_X9_link _ _ _ _ _ _ hq28) ⟨rfl, rfl⟩ rfl k_X9_link l_X9_108 rfl rfl rfl rfl rfl (fit_of hR (by omega) (by decide) (by decide) (by decide)) (Nat.le_of_ble_eq_true rfl) (by decide) rfl rfl rfl ?_
            refine go_s 2 X (pc2 := 82) (st2 := [.int b, .ref 0]) rfl ?_
            obtain ⟨r32, w33, hq31, h⟩ := bnd2_inv h
            refine q_callV X [0, 1, 2, 3, 4, 5, 6, 7, 8, 9] [] (AH2 := [.inr (9, [.ref 1, .ref 2, .ref 3, .ref 4, .int (MVPc w33), .int (MVIs w33), .int (MVTh w33), .ref 5, .int (MVSl w33), .ref 6, .int (MVLn w33), .int (MVEc w33), .int (MVEo w33), .int (MVSa w33), .int (MVEn w33), .int (MVTk w33), .int (MVVa w33), .int (MVFa w33), .int (MVFo w33), .ref 7, .int (MVSc w33), .ref 8, .ref 9, .int (MVOl w33)]), .inl (0, 500, .inl (MVSt w33)), .inl (0, 500, .inl (MVAs w33)), .inl (0, 500, .inl (MVSv w33)), .inl (0, 4000, .inl (MVPt w33)), .inl (0, 6, .inl (MVSp w33)), .inl (3, 600, .inl (MVBf w33)), .inl (0, 150, .inl (MVSm w33)), .inl (0, 40, .inl (MVOr w33)), .inl (3, 240, .inl (MVOu w33))]) (st2 := []) (c_X9_repair _ _ _ _ hq31) ⟨rfl, rfl⟩ rfl k_X9_repair l_X9_111 rfl rfl rfl rfl rfl (fit_of hR (by omega) (by decide) (by decide) (by decide)) (Nat.le_of_ble_eq_true rfl) (by decide) rfl rfl rfl ?_
            refine go_s 1 X (pc2 := 87) (st2 := [.int b]) rfl ?_
            cases h
            exact r_iret X rfl rfl ⟨rfl, rfl⟩ (by decide) (by decide)
        · rw [if_neg c8] at h
          refine go_l 4 X (pc2 := 43) (ls2 := [some (.ref 0), some (.int a), some (.int b), some (.int r6), some (.int a), none, none]) (st2 := [.int r6]) rfl ?_
          refine r_if_eq X 50 rfl rfl (fun c34 => ?_) (fun c34 => ?_)
          · rw [if_pos c34] at h
            refine go_l 6 X (pc2 := 59) (ls2 := [some (.ref 0), some (.int a), some (.int b), some (.int r6), some (.int a), some (.int a), none]) (st2 := [.int 6, .int a, .ref 0, .ref 0]) rfl ?_
            obtain ⟨r36, hq35, h⟩ := obind_inv h
            refine q_callV X [0, 1, 2, 3, 4, 5, 6, 7, 8, 9] [] (AH2 := [.inr (9, [.ref 1, .ref 2, .ref 3, .ref 4, .int (MVPc v), .int (MVIs v), .int (MVTh v), .ref 5, .int (MVSl v), .ref 6, .int (MVLn v), .int (MVEc v), .int (MVEo v), .int (MVSa v), .int (MVEn v), .int (MVTk v), .int (MVVa v), .int (MVFa v), .int (MVFo v), .ref 7, .int (MVSc v), .ref 8, .ref 9, .int (MVOl v)]), .inl (0, 500, .inl (upd (MVSt v) (Int32.toNatClampNeg 3) (((MVSt v) (Int32.toNatClampNeg 3)) + 1))), .inl (0, 500, .inl (MVAs v)), .inl (0, 500, .inl (MVSv v)), .inl (0, 4000, .inl (MVPt v)), .inl (0, 6, .inl (MVSp v)), .inl (3, 600, .inl (MVBf v)), .inl (0, 150, .inl (MVSm v)), .inl (0, 40, .inl (MVOr v)), .inl (3, 240, .inl (MVOu v))]) (st2 := [.int r36, .ref 0]) (c_X9_get _ _ _ _ hq35) ⟨rfl, rfl⟩ rfl k_X9_get l_X9_90 rfl rfl rfl rfl rfl (fit_of hR (by omega) (by decide) (by decide) (by decide)) (Nat.le_of_ble_eq_true rfl) (by decide) rfl rfl rfl ?_
            refine go_s 1 X (pc2 := 64) (st2 := [.int a, .int r36, .ref 0]) rfl ?_
            obtain ⟨r39, w40, hq38, h⟩ := bnd2_inv h
            refine q_callV X [0, 1, 2, 3, 4, 5, 6, 7, 8, 9] [] (AH2 := [.inr (9, [.ref 1, .ref 2, .ref 3, .ref 4, .int (MVPc w40), .int (MVIs w40), .int (MVTh w40), .ref 5, .int (MVSl w40), .ref 6, .int (MVLn w40), .int (MVEc w40), .int (MVEo w40), .int (MVSa w40), .int (MVEn w40), .int (MVTk w40), .int (MVVa w40), .int (MVFa w40), .int (MVFo w40), .ref 7, .int (MVSc w40), .ref 8, .ref 9, .int (MVOl w40)]), .inl (0, 500, .inl (MVSt w40)), .inl (0, 500, .inl (MVAs w40)), .inl (0, 500, .inl (MVSv w40)), .inl (0, 4000, .inl (MVPt w40)), .inl (0, 6, .inl (MVSp w40)), .inl (3, 600, .inl (MVBf w40)), .inl (0, 150, .inl (MVSm w40)), .inl (0, 40, .inl (MVOr w40)), .inl (3, 240, .inl (MVOu w40))]) (st2 := [.int r39]) (ih _ _ _ _ _ hq38) ⟨rfl, rfl⟩ rfl k_X9_merge l_X9_105 rfl rfl rfl rfl rfl (fit_of hR (by omega) (by decide) (by decide) (by decide)) (Nat.le_of_ble_eq_true rfl) (by decide) rfl rfl rfl ?_
            refine go_l 5 X (pc2 := 76) (ls2 := [some (.ref 0), some (.int a), some (.int b), some (.int r6), some (.int a), some (.int a), some (.int r39)]) (st2 := [.int r39, .int 6, .int a, .ref 0]) rfl ?_
            obtain ⟨r42, w43, hq41, h⟩ := bnd2_inv h
            refine q_callV X [0, 1, 2, 3, 4, 5, 6, 7, 8, 9] [] (AH2 := [.inr (9, [.ref 1, .ref 2, .ref 3, .ref 4, .int (MVPc w43), .int (MVIs w43), .int (MVTh w43), .ref 5, .int (MVSl w43), .ref 6, .int (MVLn w43), .int (MVEc w43), .int (MVEo w43), .int (MVSa w43), .int (MVEn w43), .int (MVTk w43), .int (MVVa w43), .int (MVFa w43), .int (MVFo w43), .ref 7, .int (MVSc w43), .ref 8, .ref 9, .int (MVOl w43)]), .inl (0, 500, .inl (MVSt w43)), .inl (0, 500, .inl (MVAs w43)), .inl (0, 500, .inl (MVSv w43)), .inl (0, 4000, .inl (MVPt w43)), .inl (0, 6, .inl (MVSp w43)), .inl (3, 600, .inl (MVBf w43)), .inl (0, 150, .inl (MVSm w43)), .inl (0, 40, .inl (MVOr w43)), .inl (3, 240, .inl (MVOu w43))]) (st2 := []) (c_X9_link _ _ _ _ _ _ hq41) ⟨rfl, rfl⟩ rfl k_X9_link l_X9_108 rfl rfl rfl rfl rfl (fit_of hR (by omega) (by decide) (by decide) (by decide)) (Nat.le_of_ble_eq_true rfl) (by decide) rfl rfl rfl ?_
            refine go_s 2 X (pc2 := 82) (st2 := [.int a, .ref 0]) rfl ?_
            obtain ⟨r45, w46, hq44, h⟩ := bnd2_inv h
            refine q_callV X [0, 1, 2, 3, 4, 5, 6, 7, 8, 9] [] (AH2 := [.inr (9, [.ref 1, .ref 2, .ref 3, .ref 4, .int (MVPc w46), .int (MVIs w46), .int (MVTh w46), .ref 5, .int (MVSl w46), .ref 6, .int (MVLn w46), .int (MVEc w46), .int (MVEo w46), .int (MVSa w46), .int (MVEn w46), .int (MVTk w46), .int (MVVa w46), .int (MVFa w46), .int (MVFo w46), .ref 7, .int (MVSc w46), .ref 8, .ref 9, .int (MVOl w46)]), .inl (0, 500, .inl (MVSt w46)), .inl (0, 500, .inl (MVAs w46)), .inl (0, 500, .inl (MVSv w46)), .inl (0, 4000, .inl (MVPt w46)), .inl (0, 6, .inl (MVSp w46)), .inl (3, 600, .inl (MVBf w46)), .inl (0, 150, .inl (MVSm w46)), .inl (0, 40, .inl (MVOr w46)), .inl (3, 240, .inl (MVOu w46))]) (st2 := []) (c_X9_repair _ _ _ _ hq44) ⟨rfl, rfl⟩ rfl k_X9_repair l_X9_111 rfl rfl rfl rfl rfl (fit_of hR (by omega) (by decide) (by decide) (by decide)) (Nat.le_of_ble_eq_true rfl) (by decide) rfl rfl rfl ?_
            refine go_s 1 X (pc2 := 87) (st2 := [.int a]) rfl ?_
            cases h
            exact r_iret X rfl rfl ⟨rfl, rfl⟩ (by decide) (by decide)
          · rw [if_neg c34] at h
            refine go_l 7 X (pc2 := 59) (ls2 := [some (.ref 0), some (.int a), some (.int b), some (.int r6), some (.int a), some (.int b), none]) (st2 := [.int 6, .int a, .ref 0, .ref 0]) rfl ?_
            obtain ⟨r48, hq47, h⟩ := obind_inv h
            refine q_callV X [0, 1, 2, 3, 4, 5, 6, 7, 8, 9] [] (AH2 := [.inr (9, [.ref 1, .ref 2, .ref 3, .ref 4, .int (MVPc v), .int (MVIs v), .int (MVTh v), .ref 5, .int (MVSl v), .ref 6, .int (MVLn v), .int (MVEc v), .int (MVEo v), .int (MVSa v), .int (MVEn v), .int (MVTk v), .int (MVVa v), .int (MVFa v), .int (MVFo v), .ref 7, .int (MVSc v), .ref 8, .ref 9, .int (MVOl v)]), .inl (0, 500, .inl (upd (MVSt v) (Int32.toNatClampNeg 3) (((MVSt v) (Int32.toNatClampNeg 3)) + 1))), .inl (0, 500, .inl (MVAs v)), .inl (0, 500, .inl (MVSv v)), .inl (0, 4000, .inl (MVPt v)), .inl (0, 6, .inl (MVSp v)), .inl (3, 600, .inl (MVBf v)), .inl (0, 150, .inl (MVSm v)), .inl (0, 40, .inl (MVOr v)), .inl (3, 240, .inl (MVOu v))]) (st2 := [.int r48, .ref 0]) (c_X9_get _ _ _ _ hq47) ⟨rfl, rfl⟩ rfl k_X9_get l_X9_90 rfl rfl rfl rfl rfl (fit_of hR (by omega) (by decide) (by decide) (by decide)) (Nat.le_of_ble_eq_true rfl) (by decide) rfl rfl rfl ?_
            refine go_s 1 X (pc2 := 64) (st2 := [.int b, .int r48, .ref 0]) rfl ?_
            obtain ⟨r51, w52, hq50, h⟩ := bnd2_inv h
            refine q_callV X [0, 1, 2, 3, 4, 5, 6, 7, 8, 9] [] (AH2 := [.inr (9, [.ref 1, .ref 2, .ref 3, .ref 4, .int (MVPc w52), .int (MVIs w52), .int (MVTh w52), .ref 5, .int (MVSl w52), .ref 6, .int (MVLn w52), .int (MVEc w52), .int (MVEo w52), .int (MVSa w52), .int (MVEn w52), .int (MVTk w52), .int (MVVa w52), .int (MVFa w52), .int (MVFo w52), .ref 7, .int (MVSc w52), .ref 8, .ref 9, .int (MVOl w52)]), .inl (0, 500, .inl (MVSt w52)), .inl (0, 500, .inl (MVAs w52)), .inl (0, 500, .inl (MVSv w52)), .inl (0, 4000, .inl (MVPt w52)), .inl (0, 6, .inl (MVSp w52)), .inl (3, 600, .inl (MVBf w52)), .inl (0, 150, .inl (MVSm w52)), .inl (0, 40, .inl (MVOr w52)), .inl (3, 240, .inl (MVOu w52))]) (st2 := [.int r51]) (ih _ _ _ _ _ hq50) ⟨rfl, rfl⟩ rfl k_X9_merge l_X9_105 rfl rfl rfl rfl rfl (fit_of hR (by omega) (by decide) (by decide) (by decide)) (Nat.le_of_ble_eq_true rfl) (by decide) rfl rfl rfl ?_
            refine go_l 5 X (pc2 := 76) (ls2 := [some (.ref 0), some (.int a), some (.int b), some (.int r6), some (.int a), some (.int b), some (.int r51)]) (st2 := [.int r51, .int 6, .int a, .ref 0]) rfl ?_
            obtain ⟨r54, w55, hq53, h⟩ := bnd2_inv h
            refine q_callV X [0, 1, 2, 3, 4, 5, 6, 7, 8, 9] [] (AH2 := [.inr (9, [.ref 1, .ref 2, .ref 3, .ref 4, .int (MVPc w55), .int (MVIs w55), .int (MVTh w55), .ref 5, .int (MVSl w55), .ref 6, .int (MVLn w55), .int (MVEc w55), .int (MVEo w55), .int (MVSa w55), .int (MVEn w55), .int (MVTk w55), .int (MVVa w55), .int (MVFa w55), .int (MVFo w55), .ref 7, .int (MVSc w55), .ref 8, .ref 9, .int (MVOl w55)]), .inl (0, 500, .inl (MVSt w55)), .inl (0, 500, .inl (MVAs w55)), .inl (0, 500, .inl (MVSv w55)), .inl (0, 4000, .inl (MVPt w55)), .inl (0, 6, .inl (MVSp w55)), .inl (3, 600, .inl (MVBf w55)), .inl (0, 150, .inl (MVSm w55)), .inl (0, 40, .inl (MVOr w55)), .inl (3, 240, .inl (MVOu w55))]) (st2 := []) (c_X9_link _ _ _ _ _ _ hq53) ⟨rfl, rfl⟩ rfl k_X9_link l_X9_108 rfl rfl rfl rfl rfl (fit_of hR (by omega) (by decide) (by decide) (by decide)) (Nat.le_of_ble_eq_true rfl) (by decide) rfl rfl rfl ?_
            refine go_s 2 X (pc2 := 82) (st2 := [.int a, .ref 0]) rfl ?_
            obtain ⟨r57, w58, hq56, h⟩ := bnd2_inv h
            refine q_callV X [0, 1, 2, 3, 4, 5, 6, 7, 8, 9] [] (AH2 := [.inr (9, [.ref 1, .ref 2, .ref 3, .ref 4, .int (MVPc w58), .int (MVIs w58), .int (MVTh w58), .ref 5, .int (MVSl w58), .ref 6, .int (MVLn w58), .int (MVEc w58), .int (MVEo w58), .int (MVSa w58), .int (MVEn w58), .int (MVTk w58), .int (MVVa w58), .int (MVFa w58), .int (MVFo w58), .ref 7, .int (MVSc w58), .ref 8, .ref 9, .int (MVOl w58)]), .inl (0, 500, .inl (MVSt w58)), .inl (0, 500, .inl (MVAs w58)), .inl (0, 500, .inl (MVSv w58)), .inl (0, 4000, .inl (MVPt w58)), .inl (0, 6, .inl (MVSp w58)), .inl (3, 600, .inl (MVBf w58)), .inl (0, 150, .inl (MVSm w58)), .inl (0, 40, .inl (MVOr w58)), .inl (3, 240, .inl (MVOu w58))]) (st2 := []) (c_X9_repair _ _ _ _ hq56) ⟨rfl, rfl⟩ rfl k_X9_repair l_X9_111 rfl rfl rfl rfl rfl (fit_of hR (by omega) (by decide) (by decide) (by decide)) (Nat.le_of_ble_eq_true rfl) (by decide) rfl rfl rfl ?_
            refine go_s 1 X (pc2 := 87) (st2 := [.int a]) rfl ?_
            cases h
            exact r_iret X rfl rfl ⟨rfl, rfl⟩ (by decide) (by decide)
      · rw [if_pos c2] at h
        refine go_s 1 X (pc2 := 13) (st2 := [.int a]) rfl ?_
        cases h
        exact r_iret X rfl rfl ⟨rfl, rfl⟩ (by decide) (by decide)
    · rw [if_pos c1] at h
      refine go_s 1 X (pc2 := 6) (st2 := [.int b]) rfl ?_
      cases h
      exact r_iret X rfl rfl ⟨rfl, rfl⟩ (by decide) (by decide)
set_option maxHeartbeats 400000 in
set_option maxRecDepth 20000 in
theorem c_X9_setRoot (v : MV) (a : Int32) (b : Int32) (r : Unit) (w : MV) (h : f_X9_setRoot v a b = some (r, w)) : Sem z_X9_setRoot 2 0 0 [.ref 0, .int a, .int b] (WM v) (PST (.inl none) (WM w)) := by
  refine Sem.of zo_X9_setRoot (by decide +kernel) (Nat.le_of_ble_eq_true rfl) fun κ X hE hR hN => ?_
  unfold f_X9_setRoot at h
  refine AW.eq (pc' := 0) (ls' := [some (.ref 0), some (.int a), some (.int b)]) (st' := []) (AH' := [.inr (9, [.ref 1, .ref 2, .ref 3, .ref 4, .int (MVPc v), .int (MVIs v), .int (MVTh v), .ref 5, .int (MVSl v), .ref 6, .int (MVLn v), .int (MVEc v), .int (MVEo v), .int (MVSa v), .int (MVEn v), .int (MVTk v), .int (MVVa v), .int (MVFa v), .int (MVFo v), .ref 7, .int (MVSc v), .ref 8, .ref 9, .int (MVOl v)]), .inl (0, 500, .inl (MVSt v)), .inl (0, 500, .inl (MVAs v)), .inl (0, 500, .inl (MVSv v)), .inl (0, 4000, .inl (MVPt v)), .inl (0, 6, .inl (MVSp v)), .inl (3, 600, .inl (MVBf v)), .inl (0, 150, .inl (MVSm v)), .inl (0, 40, .inl (MVOr v)), .inl (3, 240, .inl (MVOu v))]) ?_ rfl rfl rfl rfl
  refine go_s 3 X (pc2 := 5) (st2 := [.int a, .ref 1]) rfl ?_
  obtain ⟨r2, hq1, h⟩ := obind_inv h
  refine q_callS X [] [] (AH2 := [.inr (9, [.ref 1, .ref 2, .ref 3, .ref 4, .int (MVPc v), .int (MVIs v), .int (MVTh v), .ref 5, .int (MVSl v), .ref 6, .int (MVLn v), .int (MVEc v), .int (MVEo v), .int (MVSa v), .int (MVEn v), .int (MVTk v), .int (MVVa v), .int (MVFa v), .int (MVFo v), .ref 7, .int (MVSc v), .ref 8, .ref 9, .int (MVOl v)]), .inl (0, 500, .inl (MVSt v)), .inl (0, 500, .inl (MVAs v)), .inl (0, 500, .inl (MVSv v)), .inl (0, 4000, .inl (MVPt v)), .inl (0, 6, .inl (MVSp v)), .inl (3, 600, .inl (MVBf v)), .inl (0, 150, .inl (MVSm v)), .inl (0, 40, .inl (MVOr v)), .inl (3, 240, .inl (MVOu v))]) (st2 := [.int r2, .ref 1]) (c_X9_q _ _ hq1) ⟨rfl, rfl⟩ rfl k_X9_q l_X9_77 rfl rfl (fit_of hR (by decide) (by decide) (by decide) (by decide)) (Nat.le_of_ble_eq_true rfl) (by decide) rfl rfl rfl ?_
  refine go_s 3 X (pc2 := 12) (st2 := [.int b, .int (r2 + 9), .ref 1]) rfl ?_
  by_cases b4 : oob (r2 + 9) 500
  · rw [if_pos b4] at h; cases h
  rw [if_neg b4] at h
  refine r_iast X rfl rfl b4 ?_
  refine go_s 2 X (pc2 := 15) (st2 := [.int (-1), .int b]) rfl ?_
  refine r_icmp_eq X 26 rfl rfl (fun c5 => ?_) (fun c5 => ?_)
  · rw [if_pos c5] at h
    cases h
    exact r_vret X rfl rfl ⟨rfl, rfl⟩ (by decide) (by decide)
  · rw [if_neg c5] at h
    refine go_s 4 X (pc2 := 23) (st2 := [.int (-1), .int 7, .int b, .ref 0]) rfl ?_
    obtain ⟨r7, w8, hq6, h⟩ := bnd2_inv h
    refine q_callV X [0, 1, 2, 3, 4, 5, 6, 7, 8, 9] [] (AH2 := [.inr (9, [.ref 1, .ref 2, .ref 3, .ref 4, .int (MVPc w8), .int (MVIs w8), .int (MVTh w8), .ref 5, .int (MVSl w8), .ref 6, .int (MVLn w8), .int (MVEc w8), .int (MVEo w8), .int (MVSa w8), .int (MVEn w8), .int (MVTk w8), .int (MVVa w8), .int (MVFa w8), .int (MVFo w8), .ref 7, .int (MVSc w8), .ref 8, .ref 9, .int (MVOl w8)]), .inl (0, 500, .inl (MVSt w8)), .inl (0, 500, .inl (MVAs w8)), .inl (0, 500, .inl (MVSv w8)), .inl (0, 4000, .inl (MVPt w8)), .inl (0, 6, .inl (MVSp w8)), .inl (3, 600, .inl (MVBf w8)), .inl (0, 150, .inl (MVSm w8)), .inl (0, 40, .inl (MVOr w8)), .inl (3, 240, .inl (MVOu w8))]) (st2 := []) (c_X9_set _ _ _ _ _ _ hq6) ⟨rfl, rfl⟩ rfl k_X9_set l_X9_94 rfl rfl rfl rfl rfl (fit_of hR (by decide) (by decide) (by decide) (by decide)) (Nat.le_of_ble_eq_true rfl) (by decide) rfl rfl rfl ?_
    cases h
    exact r_vret X rfl rfl ⟨rfl, rfl⟩ (by decide) (by decide)
set_option maxHeartbeats 400000 in
set_option maxRecDepth 20000 in
theorem c_X9_insert (v : MV) (a : Int32) (b : Int32) (r : Unit) (w : MV) (h : f_X9_insert v a b = some (r, w)) : Sem z_X9_insert 55 0 0 [.ref 0, .int a, .int b] (WM v) (PST (.inl none) (WM w)) := by
  refine Sem.of zo_X9_insert (by decide +kernel) (Nat.le_of_ble_eq_true rfl) fun κ X hE hR hN => ?_
  unfold f_X9_insert at h
  refine AW.eq (pc' := 0) (ls' := [some (.ref 0), some (.int a), some (.int b)]) (st' := []) (AH' := [.inr (9, [.ref 1, .ref 2, .ref 3, .ref 4, .int (MVPc v), .int (MVIs v), .int (MVTh v), .ref 5, .int (MVSl v), .ref 6, .int (MVLn v), .int (MVEc v), .int (MVEo v), .int (MVSa v), .int (MVEn v), .int (MVTk v), .int (MVVa v), .int (MVFa v), .int (MVFo v), .ref 7, .int (MVSc v), .ref 8, .ref 9, .int (MVOl v)]), .inl (0, 500, .inl (MVSt v)), .inl (0, 500, .inl (MVAs v)), .inl (0, 500, .inl (MVSv v)), .inl (0, 4000, .inl (MVPt v)), .inl (0, 6, .inl (MVSp v)), .inl (3, 600, .inl (MVBf v)), .inl (0, 150, .inl (MVSm v)), .inl (0, 40, .inl (MVOr v)), .inl (3, 240, .inl (MVOu v))]) ?_ rfl rfl rfl rfl
  refine go_s 2 X (pc2 := 2) (st2 := [.int b, .ref 0]) rfl ?_
  obtain ⟨r2, w3, hq1, h⟩ := bnd2_inv h
  refine q_callV X [0, 1, 2, 3, 4, 5, 6, 7, 8, 9] [] (AH2 := [.inr (9, [.ref 1, .ref 2, .ref 3, .ref 4, .int (MVPc w3), .int (MVIs w3), .int (MVTh w3), .ref 5, .int (MVSl w3), .ref 6, .int (MVLn w3), .int (MVEc w3), .int (MVEo w3), .int (MVSa w3), .int (MVEn w3), .int (MVTk w3), .int (MVVa w3), .int (MVFa w3), .int (MVFo w3), .ref 7, .int (MVSc w3), .ref 8, .ref 9, .int (MVOl w3)]), .inl (0, 500, .inl (MVSt w3)), .inl (0, 500, .inl (MVAs w3)), .inl (0, 500, .inl (MVSv w3)), .inl (0, 4000, .inl (MVPt w3)), .inl (0, 6, .inl (MVSp w3)), .inl (3, 600, .inl (MVBf w3)), .inl (0, 150, .inl (MVSm w3)), .inl (0, 40, .inl (MVOr w3)), .inl (3, 240, .inl (MVOu w3))]) (st2 := []) (c_X9_single _ _ _ _ hq1) ⟨rfl, rfl⟩ rfl k_X9_single l_X9_114 rfl rfl rfl rfl rfl (fit_of hR (by decide) (by decide) (by decide) (by decide)) (Nat.le_of_ble_eq_true rfl) (by decide) rfl rfl rfl ?_
  refine go_s 4 X (pc2 := 9) (st2 := [.int a, .int 4, .int b, .ref 0]) rfl ?_
  obtain ⟨r5, w6, hq4, h⟩ := bnd2_inv h
  refine q_callV X [0, 1, 2, 3, 4, 5, 6, 7, 8, 9] [] (AH2 := [.inr (9, [.ref 1, .ref 2, .ref 3, .ref 4, .int (MVPc w6), .int (MVIs w6), .int (MVTh w6), .ref 5, .int (MVSl w6), .ref 6, .int (MVLn w6), .int (MVEc w6), .int (MVEo w6), .int (MVSa w6), .int (MVEn w6), .int (MVTk w6), .int (MVVa w6), .int (MVFa w6), .int (MVFo w6), .ref 7, .int (MVSc w6), .ref 8, .ref 9, .int (MVOl w6)]), .inl (0, 500, .inl (MVSt w6)), .inl (0, 500, .inl (MVAs w6)), .inl (0, 500, .inl (MVSv w6)), .inl (0, 4000, .inl (MVPt w6)), .inl (0, 6, .inl (MVSp w6)), .inl (3, 600, .inl (MVBf w6)), .inl (0, 150, .inl (MVSm w6)), .inl (0, 40, .inl (MVOr w6)), .inl (3, 240, .inl (MVOu w6))]) (st2 := []) (c_X9_set _ _ _ _ _ _ hq4) ⟨rfl, rfl⟩ rfl k_X9_set l_X9_94 rfl rfl rfl rfl rfl (fit_of hR (by decide) (by decide) (by decide) (by decide)) (Nat.le_of_ble_eq_true rfl) (by decide) rfl rfl rfl ?_
  refine go_s 5 X (pc2 := 17) (st2 := [.int a, .ref 0, .ref 0, .int a, .ref 0]) rfl ?_
  obtain ⟨r8, hq7, h⟩ := obind_inv h
  refine q_callV X [0, 1, 2, 3, 4, 5, 6, 7, 8, 9] [] (AH2 := [.inr (9, [.ref 1, .ref 2, .ref 3, .ref 4, .int (MVPc w6), .int (MVIs w6), .int (MVTh w6), .ref 5, .int (MVSl w6), .ref 6, .int (MVLn w6), .int (MVEc w6), .int (MVEo w6), .int (MVSa w6), .int (MVEn w6), .int (MVTk w6), .int (MVVa w6), .int (MVFa w6), .int (MVFo w6), .ref 7, .int (MVSc w6), .ref 8, .ref 9, .int (MVOl w6)]), .inl (0, 500, .inl (MVSt w6)), .inl (0, 500, .inl (MVAs w6)), .inl (0, 500, .inl (MVSv w6)), .inl (0, 4000, .inl (MVPt w6)), .inl (0, 6, .inl (MVSp w6)), .inl (3, 600, .inl (MVBf w6)), .inl (0, 150, .inl (MVSm w6)), .inl (0, 40, .inl (MVOr w6)), .inl (3, 240, .inl (MVOu w6))]) (st2 := [.int r8, .ref 0, .int a, .ref 0]) (c_X9_rootOf _ _ _ hq7) ⟨rfl, rfl⟩ rfl k_X9_rootOf l_X9_117 rfl rfl rfl rfl rfl (fit_of hR (by decide) (by decide) (by decide) (by decide)) (Nat.le_of_ble_eq_true rfl) (by decide) rfl rfl rfl ?_
  refine go_s 1 X (pc2 := 21) (st2 := [.int b, .int r8, .ref 0, .int a, .ref 0]) rfl ?_
  obtain ⟨r11, w12, hq10, h⟩ := bnd2_inv h
  refine q_callV X [0, 1, 2, 3, 4, 5, 6, 7, 8, 9] [] (AH2 := [.inr (9, [.ref 1, .ref 2, .ref 3, .ref 4, .int (MVPc w12), .int (MVIs w12), .int (MVTh w12), .ref 5, .int (MVSl w12), .ref 6, .int (MVLn w12), .int (MVEc w12), .int (MVEo w12), .int (MVSa w12), .int (MVEn w12), .int (MVTk w12), .int (MVVa w12), .int (MVFa w12), .int (MVFo w12), .ref 7, .int (MVSc w12), .ref 8, .ref 9, .int (MVOl w12)]), .inl (0, 500, .inl (MVSt w12)), .inl (0, 500, .inl (MVAs w12)), .inl (0, 500, .inl (MVSv w12)), .inl (0, 4000, .inl (MVPt w12)), .inl (0, 6, .inl (MVSp w12)), .inl (3, 600, .inl (MVBf w12)), .inl (0, 150, .inl (MVSm w12)), .inl (0, 40, .inl (MVOr w12)), .inl (3, 240, .inl (MVOu w12))]) (st2 := [.int r11, .int a, .ref 0]) (c_X9_merge 50 _ _ _ _ _ hq10) ⟨rfl, rfl⟩ rfl k_X9_merge l_X9_105 rfl rfl rfl rfl rfl (fit_of hR (by decide) (by decide) (by decide) (by decide)) (Nat.le_of_ble_eq_true rfl) (by decide) rfl rfl rfl ?_
  obtain ⟨r14, w15, hq13, h⟩ := bnd2_inv h
  refine q_callV X [0, 1, 2, 3, 4, 5, 6, 7, 8, 9] [] (AH2 := [.inr (9, [.ref 1, .ref 2, .ref 3, .ref 4, .int (MVPc w15), .int (MVIs w15), .int (MVTh w15), .ref 5, .int (MVSl w15), .ref 6, .int (MVLn w15), .int (MVEc w15), .int (MVEo w15), .int (MVSa w15), .int (MVEn w15), .int (MVTk w15), .int (MVVa w15), .int (MVFa w15), .int (MVFo w15), .ref 7, .int (MVSc w15), .ref 8, .ref 9, .int (MVOl w15)]), .inl (0, 500, .inl (MVSt w15)), .inl (0, 500, .inl (MVAs w15)), .inl (0, 500, .inl (MVSv w15)), .inl (0, 4000, .inl (MVPt w15)), .inl (0, 6, .inl (MVSp w15)), .inl (3, 600, .inl (MVBf w15)), .inl (0, 150, .inl (MVSm w15)), .inl (0, 40, .inl (MVOr w15)), .inl (3, 240, .inl (MVOu w15))]) (st2 := []) (c_X9_setRoot _ _ _ _ _ hq13) ⟨rfl, rfl⟩ rfl k_X9_setRoot l_X9_120 rfl rfl rfl rfl rfl (fit_of hR (by decide) (by decide) (by decide) (by decide)) (Nat.le_of_ble_eq_true rfl) (by decide) rfl rfl rfl ?_
  cases h
  exact r_vret X rfl rfl ⟨rfl, rfl⟩ (by decide) (by decide)
set_option maxHeartbeats 400000 in
set_option maxRecDepth 20000 in
theorem c_X9_addJob (v : MV) (a : Int32) (b : Int32) (c : Int32) (d : Int32) (r : Int32) (w : MV) (h : f_X9_addJob v a b c d = some (r, w)) : Sem z_X9_addJob 56 0 0 [.ref 0, .int a, .int b, .int c, .int d] (WM v) (PST (.inl (some (.int r))) (WM w)) := by
  refine Sem.of zo_X9_addJob (by decide +kernel) (Nat.le_of_ble_eq_true rfl) fun κ X hE hR hN => ?_
  unfold f_X9_addJob at h
  refine AW.eq (pc' := 0) (ls' := [some (.ref 0), some (.int a), some (.int b), some (.int c), some (.int d), none]) (st' := []) (AH' := [.inr (9, [.ref 1, .ref 2, .ref 3, .ref 4, .int (MVPc v), .int (MVIs v), .int (MVTh v), .ref 5, .int (MVSl v), .ref 6, .int (MVLn v), .int (MVEc v), .int (MVEo v), .int (MVSa v), .int (MVEn v), .int (MVTk v), .int (MVVa v), .int (MVFa v), .int (MVFo v), .ref 7, .int (MVSc v), .ref 8, .ref 9, .int (MVOl v)]), .inl (0, 500, .inl (MVSt v)), .inl (0, 500, .inl (MVAs v)), .inl (0, 500, .inl (MVSv v)), .inl (0, 4000, .inl (MVPt v)), .inl (0, 6, .inl (MVSp v)), .inl (3, 600, .inl (MVBf v)), .inl (0, 150, .inl (MVSm v)), .inl (0, 40, .inl (MVOr v)), .inl (3, 240, .inl (MVOu v))]) ?_ rfl rfl rfl rfl
  refine go_s 3 X (pc2 := 5) (st2 := [.int 2, .ref 1]) rfl ?_
  by_cases b1 : oob 2 500
  · rw [if_pos b1] at h; cases h
  rw [if_neg b1] at h
  refine r_iald X rfl rfl b1 ?_
  refine go_l 5 X (pc2 := 13) (ls2 := [some (.ref 0), some (.int a), some (.int b), some (.int c), some (.int d), some (.int ((MVSt v) (Int32.toNatClampNeg 2)))]) (st2 := [.int b, .int 0, .int ((MVSt v) (Int32.toNatClampNeg 2)), .ref 0]) rfl ?_
  obtain ⟨r3, w4, hq2, h⟩ := bnd2_inv h
  refine q_callV X [0, 1, 2, 3, 4, 5, 6, 7, 8, 9] [] (AH2 := [.inr (9, [.ref 1, .ref 2, .ref 3, .ref 4, .int (MVPc w4), .int (MVIs w4), .int (MVTh w4), .ref 5, .int (MVSl w4), .ref 6, .int (MVLn w4), .int (MVEc w4), .int (MVEo w4), .int (MVSa w4), .int (MVEn w4), .int (MVTk w4), .int (MVVa w4), .int (MVFa w4), .int (MVFo w4), .ref 7, .int (MVSc w4), .ref 8, .ref 9, .int (MVOl w4)]), .inl (0, 500, .inl (MVSt w4)), .inl (0, 500, .inl (MVAs w4)), .inl (0, 500, .inl (MVSv w4)), .inl (0, 4000, .inl (MVPt w4)), .inl (0, 6, .inl (MVSp w4)), .inl (3, 600, .inl (MVBf w4)), .inl (0, 150, .inl (MVSm w4)), .inl (0, 40, .inl (MVOr w4)), .inl (3, 240, .inl (MVOu w4))]) (st2 := []) (c_X9_set _ _ _ _ _ _ hq2) ⟨rfl, rfl⟩ rfl k_X9_set l_X9_94 rfl rfl rfl rfl rfl (fit_of hR (by decide) (by decide) (by decide) (by decide)) (Nat.le_of_ble_eq_true rfl) (by decide) rfl rfl rfl ?_
  refine go_s 4 X (pc2 := 21) (st2 := [.int c, .int 1, .int ((MVSt v) (Int32.toNatClampNeg 2)), .ref 0]) rfl ?_
  obtain ⟨r6, w7, hq5, h⟩ := bnd2_inv h
  refine q_callV X [0, 1, 2, 3, 4, 5, 6, 7, 8, 9] [] (AH2 := [.inr (9, [.ref 1, .ref 2, .ref 3, .ref 4, .int (MVPc w7), .int (MVIs w7), .int (MVTh w7), .ref 5, .int (MVSl w7), .ref 6, .int (MVLn w7), .int (MVEc w7), .int (MVEo w7), .int (MVSa w7), .int (MVEn w7), .int (MVTk w7), .int (MVVa w7), .int (MVFa w7), .int (MVFo w7), .ref 7, .int (MVSc w7), .ref 8, .ref 9, .int (MVOl w7)]), .inl (0, 500, .inl (MVSt w7)), .inl (0, 500, .inl (MVAs w7)), .inl (0, 500, .inl (MVSv w7)), .inl (0, 4000, .inl (MVPt w7)), .inl (0, 6, .inl (MVSp w7)), .inl (3, 600, .inl (MVBf w7)), .inl (0, 150, .inl (MVSm w7)), .inl (0, 40, .inl (MVOr w7)), .inl (3, 240, .inl (MVOu w7))]) (st2 := []) (c_X9_set _ _ _ _ _ _ hq5) ⟨rfl, rfl⟩ rfl k_X9_set l_X9_94 rfl rfl rfl rfl rfl (fit_of hR (by decide) (by decide) (by decide) (by decide)) (Nat.le_of_ble_eq_true rfl) (by decide) rfl rfl rfl ?_
  refine go_s 4 X (pc2 := 30) (st2 := [.int d, .int 2, .int ((MVSt v) (Int32.toNatClampNeg 2)), .ref 0]) rfl ?_
  obtain ⟨r9, w10, hq8, h⟩ := bnd2_inv h
  refine q_callV X [0, 1, 2, 3, 4, 5, 6, 7, 8, 9] [] (AH2 := [.inr (9, [.ref 1, .ref 2, .ref 3, .ref 4, .int (MVPc w10), .int (MVIs w10), .int (MVTh w10), .ref 5, .int (MVSl w10), .ref 6, .int (MVLn w10), .int (MVEc w10), .int (MVEo w10), .int (MVSa w10), .int (MVEn w10), .int (MVTk w10), .int (MVVa w10), .int (MVFa w10), .int (MVFo w10), .ref 7, .int (MVSc w10), .ref 8, .ref 9, .int (MVOl w10)]), .inl (0, 500, .inl (MVSt w10)), .inl (0, 500, .inl (MVAs w10)), .inl (0, 500, .inl (MVSv w10)), .inl (0, 4000, .inl (MVPt w10)), .inl (0, 6, .inl (MVSp w10)), .inl (3, 600, .inl (MVBf w10)), .inl (0, 150, .inl (MVSm w10)), .inl (0, 40, .inl (MVOr w10)), .inl (3, 240, .inl (MVOu w10))]) (st2 := []) (c_X9_set _ _ _ _ _ _ hq8) ⟨rfl, rfl⟩ rfl k_X9_set l_X9_94 rfl rfl rfl rfl rfl (fit_of hR (by decide) (by decide) (by decide) (by decide)) (Nat.le_of_ble_eq_true rfl) (by decide) rfl rfl rfl ?_
  refine go_s 4 X (pc2 := 38) (st2 := [.int 0, .int 3, .int ((MVSt v) (Int32.toNatClampNeg 2)), .ref 0]) rfl ?_
  obtain ⟨r12, w13, hq11, h⟩ := bnd2_inv h
  refine q_callV X [0, 1, 2, 3, 4, 5, 6, 7, 8, 9] [] (AH2 := [.inr (9, [.ref 1, .ref 2, .ref 3, .ref 4, .int (MVPc w13), .int (MVIs w13), .int (MVTh w13), .ref 5, .int (MVSl w13), .ref 6, .int (MVLn w13), .int (MVEc w13), .int (MVEo w13), .int (MVSa w13), .int (MVEn w13), .int (MVTk w13), .int (MVVa w13), .int (MVFa w13), .int (MVFo w13), .ref 7, .int (MVSc w13), .ref 8, .ref 9, .int (MVOl w13)]), .inl (0, 500, .inl (MVSt w13)), .inl (0, 500, .inl (MVAs w13)), .inl (0, 500, .inl (MVSv w13)), .inl (0, 4000, .inl (MVPt w13)), .inl (0, 6, .inl (MVSp w13)), .inl (3, 600, .inl (MVBf w13)), .inl (0, 150, .inl (MVSm w13)), .inl (0, 40, .inl (MVOr w13)), .inl (3, 240, .inl (MVOu w13))]) (st2 := []) (c_X9_set _ _ _ _ _ _ hq11) ⟨rfl, rfl⟩ rfl k_X9_set l_X9_94 rfl rfl rfl rfl rfl (fit_of hR (by decide) (by decide) (by decide) (by decide)) (Nat.le_of_ble_eq_true rfl) (by decide) rfl rfl rfl ?_
  refine go_s 4 X (pc2 := 47) (st2 := [.int 2, .ref 1, .int 2, .ref 1]) rfl ?_
  by_cases b14 : oob 2 500
  · rw [if_pos b14] at h; cases h
  rw [if_neg b14] at h
  refine r_iald X rfl rfl b14 ?_
  refine go_s 2 X (pc2 := 50) (st2 := [.int (((MVSt w13) (Int32.toNatClampNeg 2)) + 1), .int 2, .ref 1]) rfl ?_
  by_cases b15 : oob 2 500
  · rw [if_pos b15] at h; cases h
  rw [if_neg b15] at h
  refine r_iast X rfl rfl b15 ?_
  refine go_s 3 X (pc2 := 55) (st2 := [.int ((MVSt v) (Int32.toNatClampNeg 2)), .int a, .ref 0]) rfl ?_
  obtain ⟨r17, w18, hq16, h⟩ := bnd2_inv h
  refine q_callV X [0, 1, 2, 3, 4, 5, 6, 7, 8, 9] [] (AH2 := [.inr (9, [.ref 1, .ref 2, .ref 3, .ref 4, .int (MVPc w18), .int (MVIs w18), .int (MVTh w18), .ref 5, .int (MVSl w18), .ref 6, .int (MVLn w18), .int (MVEc w18), .int (MVEo w18), .int (MVSa w18), .int (MVEn w18), .int (MVTk w18), .int (MVVa w18), .int (MVFa w18), .int (MVFo w18), .ref 7, .int (MVSc w18), .ref 8, .ref 9, .int (MVOl w18)]), .inl (0, 500, .inl (MVSt w18)), .inl (0, 500, .inl (MVAs w18)), .inl (0, 500, .inl (MVSv w18)), .inl (0, 4000, .inl (MVPt w18)), .inl (0, 6, .inl (MVSp w18)), .inl (3, 600, .inl (MVBf w18)), .inl (0, 150, .inl (MVSm w18)), .inl (0, 40, .inl (MVOr w18)), .inl (3, 240, .inl (MVOu w18))]) (st2 := []) (c_X9_insert _ _ _ _ _ hq16) ⟨rfl, rfl⟩ rfl k_X9_insert l_X9_127 rfl rfl rfl rfl rfl (fit_of hR (by decide) (by decide) (by decide) (by decide)) (Nat.le_of_ble_eq_true rfl) (by decide) rfl rfl rfl ?_
  refine go_s 1 X (pc2 := 60) (st2 := [.int ((MVSt v) (Int32.toNatClampNeg 2))]) rfl ?_
  cases h
  exact r_iret X rfl rfl ⟨rfl, rfl⟩ (by decide) (by decide)
set_option maxHeartbeats 400000 in
set_option maxRecDepth 20000 in
theorem c_X9_o (a : Int32) (r : Int32) (h : f_X9_o a = some r) : Sem z_X9_o 0 0 0 [.int a] [] (PST (.inl (some (.int r))) []) := by
  refine Sem.of zo_X9_o (by decide +kernel) (Nat.le_of_ble_eq_true rfl) fun κ X hE hR hN => ?_
  unfold f_X9_o at h
  refine AW.eq (pc' := 0) (ls' := [some (.int a)]) (st' := []) (AH' := []) ?_ rfl rfl rfl rfl
  refine go_s 5 X (pc2 := 7) (st2 := [.int (80 + (7 * a))]) rfl ?_
  cases h
  exact r_iret X rfl rfl ⟨rfl, rfl⟩ (by decide) (by decide)
set_option maxHeartbeats 400000 in
set_option maxRecDepth 20000 in
theorem a_X9_putName_h12 {κ : KX} (X : CX κ z_X9_putName) (hR : κR κ = rmM 0 0 0) : ∀ (n : Nat) (l1 : Int32) (l2 : Int32) (v : MV) (r : Unit) (w : MV) (h : f_X9_putName_h12 n l1 l2 v = some (r, w)), AW κ (QM κ (PST (.inl none) (WM w)) 0 0) 12 [some (.ref 0), some (.int l1), some (.int l2)] [] (WM v) 0 0 := by
  intro n
  induction n with
  | zero =>
    intro l1 l2 v r w h
    unfold f_X9_putName_h12 at h
    cases h
  | succ n ih =>
    intro l1 l2 v r w h
    unfold f_X9_putName_h12 at h
    refine AW.eq (pc' := 12) (ls' := [some (.ref 0), some (.int l1), some (.int l2)]) (st' := []) (AH' := [.inr (9, [.ref 1, .ref 2, .ref 3, .ref 4, .int (MVPc v), .int (MVIs v), .int (MVTh v), .ref 5, .int (MVSl v), .ref 6, .int (MVLn v), .int (MVEc v), .int (MVEo v), .int (MVSa v), .int (MVEn v), .int (MVTk v), .int (MVVa v), .int (MVFa v), .int (MVFo v), .ref 7, .int (MVSc v), .ref 8, .ref 9, .int (MVOl v)]), .inl (0, 500, .inl (MVSt v)), .inl (0, 500, .inl (MVAs v)), .inl (0, 500, .inl (MVSv v)), .inl (0, 4000, .inl (MVPt v)), .inl (0, 6, .inl (MVSp v)), .inl (3, 600, .inl (MVBf v)), .inl (0, 150, .inl (MVSm v)), .inl (0, 40, .inl (MVOr v)), .inl (3, 240, .inl (MVOu v))]) ?_ rfl rfl rfl rfl
    refine go_s 3 X (pc2 := 17) (st2 := [.int (MVSl v), .int l2]) rfl ?_
    refine r_icmp_ge X 42 rfl rfl (fun c2 => ?_) (fun c2 => ?_)
    · rw [if_pos c2] at h
      cases h
      exact r_vret X rfl rfl ⟨rfl, rfl⟩ (by decide) (by decide)
    · rw [if_neg c2] at h
      refine go_s 10 X (pc2 := 34) (st2 := [.int l2, .ref 5, .int ((l1 + 1) + l2), .ref 1]) rfl ?_
      by_cases b3 : oob l2 6
      · rw [if_pos b3] at h; cases h
      rw [if_neg b3] at h
      refine r_iald X rfl rfl b3 ?_
      by_cases b4 : oob ((l1 + 1) + l2) 500
      · rw [if_pos b4] at h; cases h
      rw [if_neg b4] at h
      refine r_iast X rfl rfl b4 ?_
      refine go_l 2 X (pc2 := 12) (ls2 := [some (.ref 0), some (.int l1), some (.int (l2 + 1))]) (st2 := []) rfl ?_
      exact AW.eq (ih _ _ _ _ _ h) rfl rfl rfl rfl
set_option maxHeartbeats 400000 in
set_option maxRecDepth 20000 in
theorem c_X9_putName (v : MV) (a : Int32) (r : Unit) (w : MV) (h : f_X9_putName v a = some (r, w)) : Sem z_X9_putName 0 0 0 [.ref 0, .int a] (WM v) (PST (.inl none) (WM w)) := by
  refine Sem.of zo_X9_putName (by decide +kernel) (Nat.le_of_ble_eq_true rfl) fun κ X hE hR hN => ?_
  unfold f_X9_putName at h
  refine AW.eq (pc' := 0) (ls' := [some (.ref 0), some (.int a), none]) (st' := []) (AH' := [.inr (9, [.ref 1, .ref 2, .ref 3, .ref 4, .int (MVPc v), .int (MVIs v), .int (MVTh v), .ref 5, .int (MVSl v), .ref 6, .int (MVLn v), .int (MVEc v), .int (MVEo v), .int (MVSa v), .int (MVEn v), .int (MVTk v), .int (MVVa v), .int (MVFa v), .int (MVFo v), .ref 7, .int (MVSc v), .ref 8, .ref 9, .int (MVOl v)]), .inl (0, 500, .inl (MVSt v)), .inl (0, 500, .inl (MVAs v)), .inl (0, 500, .inl (MVSv v)), .inl (0, 4000, .inl (MVPt v)), .inl (0, 6, .inl (MVSp v)), .inl (3, 600, .inl (MVBf v)), .inl (0, 150, .inl (MVSm v)), .inl (0, 40, .inl (MVOr v)), .inl (3, 240, .inl (MVOu v))]) ?_ rfl rfl rfl rfl
  refine go_s 5 X (pc2 := 9) (st2 := [.int (MVSl v), .int a, .ref 1]) rfl ?_
  by_cases b1 : oob a 500
  · rw [if_pos b1] at h; cases h
  rw [if_neg b1] at h
  refine r_iast X rfl rfl b1 ?_
  refine go_l 2 X (pc2 := 12) (ls2 := [some (.ref 0), some (.int a), some (.int 0)]) (st2 := []) rfl ?_
  exact AW.eq (a_X9_putName_h12 X hR FU _ _ _ _ _ h) rfl rfl rfl rfl
set_option maxHeartbeats 400000 in
set_option maxRecDepth 20000 in
theorem c_X9_addOwner (v : MV) (r : Unit) (w : MV) (h : f_X9_addOwner v = some (r, w)) : Sem z_X9_addOwner 1 0 0 [.ref 0] (WM v) (PST (.inl none) (WM w)) := by
  refine Sem.of zo_X9_addOwner (by decide +kernel) (Nat.le_of_ble_eq_true rfl) fun κ X hE hR hN => ?_
  unfold f_X9_addOwner at h
  refine AW.eq (pc' := 0) (ls' := [some (.ref 0)]) (st' := []) (AH' := [.inr (9, [.ref 1, .ref 2, .ref 3, .ref 4, .int (MVPc v), .int (MVIs v), .int (MVTh v), .ref 5, .int (MVSl v), .ref 6, .int (MVLn v), .int (MVEc v), .int (MVEo v), .int (MVSa v), .int (MVEn v), .int (MVTk v), .int (MVVa v), .int (MVFa v), .int (MVFo v), .ref 7, .int (MVSc v), .ref 8, .ref 9, .int (MVOl v)]), .inl (0, 500, .inl (MVSt v)), .inl (0, 500, .inl (MVAs v)), .inl (0, 500, .inl (MVSv v)), .inl (0, 4000, .inl (MVPt v)), .inl (0, 6, .inl (MVSp v)), .inl (3, 600, .inl (MVBf v)), .inl (0, 150, .inl (MVSm v)), .inl (0, 40, .inl (MVOr v)), .inl (3, 240, .inl (MVOu v))]) ?_ rfl rfl rfl rfl
  refine go_s 4 X (pc2 := 6) (st2 := [.int 1, .ref 1, .ref 0]) rfl ?_
  by_cases b1 : oob 1 500
  · rw [if_pos b1] at h; cases h
  rw [if_neg b1] at h
  refine r_iald X rfl rfl b1 ?_
  obtain ⟨r3, hq2, h⟩ := obind_inv h
  refine q_callS X [] [] (AH2 := [.inr (9, [.ref 1, .ref 2, .ref 3, .ref 4, .int (MVPc v), .int (MVIs v), .int (MVTh v), .ref 5, .int (MVSl v), .ref 6, .int (MVLn v), .int (MVEc v), .int (MVEo v), .int (MVSa v), .int (MVEn v), .int (MVTk v), .int (MVVa v), .int (MVFa v), .int (MVFo v), .ref 7, .int (MVSc v), .ref 8, .ref 9, .int (MVOl v)]), .inl (0, 500, .inl (MVSt v)), .inl (0, 500, .inl (MVAs v)), .inl (0, 500, .inl (MVSv v)), .inl (0, 4000, .inl (MVPt v)), .inl (0, 6, .inl (MVSp v)), .inl (3, 600, .inl (MVBf v)), .inl (0, 150, .inl (MVSm v)), .inl (0, 40, .inl (MVOr v)), .inl (3, 240, .inl (MVOu v))]) (st2 := [.int r3, .ref 0]) (c_X9_o _ _ hq2) ⟨rfl, rfl⟩ rfl k_X9_o l_X9_84 rfl rfl (fit_of hR (by decide) (by decide) (by decide) (by decide)) (Nat.le_of_ble_eq_true rfl) (by decide) rfl rfl rfl ?_
  obtain ⟨r6, w7, hq5, h⟩ := bnd2_inv h
  refine q_callV X [0, 1, 2, 3, 4, 5, 6, 7, 8, 9] [] (AH2 := [.inr (9, [.ref 1, .ref 2, .ref 3, .ref 4, .int (MVPc w7), .int (MVIs w7), .int (MVTh w7), .ref 5, .int (MVSl w7), .ref 6, .int (MVLn w7), .int (MVEc w7), .int (MVEo w7), .int (MVSa w7), .int (MVEn w7), .int (MVTk w7), .int (MVVa w7), .int (MVFa w7), .int (MVFo w7), .ref 7, .int (MVSc w7), .ref 8, .ref 9, .int (MVOl w7)]), .inl (0, 500, .inl (MVSt w7)), .inl (0, 500, .inl (MVAs w7)), .inl (0, 500, .inl (MVSv w7)), .inl (0, 4000, .inl (MVPt w7)), .inl (0, 6, .inl (MVSp w7)), .inl (3, 600, .inl (MVBf w7)), .inl (0, 150, .inl (MVSm w7)), .inl (0, 40, .inl (MVOr w7)), .inl (3, 240, .inl (MVOu w7))]) (st2 := []) (c_X9_putName _ _ _ _ hq5) ⟨rfl, rfl⟩ rfl k_X9_putName l_X9_87 rfl rfl rfl rfl rfl (fit_of hR (by decide) (by decide) (by decide) (by decide)) (Nat.le_of_ble_eq_true rfl) (by decide) rfl rfl rfl ?_
  refine go_s 4 X (pc2 := 19) (st2 := [.int 1, .ref 1, .int 1, .ref 1]) rfl ?_
  by_cases b8 : oob 1 500
  · rw [if_pos b8] at h; cases h
  rw [if_neg b8] at h
  refine r_iald X rfl rfl b8 ?_
  refine go_s 2 X (pc2 := 22) (st2 := [.int (((MVSt w7) (Int32.toNatClampNeg 1)) + 1), .int 1, .ref 1]) rfl ?_
  by_cases b9 : oob 1 500
  · rw [if_pos b9] at h; cases h
  rw [if_neg b9] at h
  refine r_iast X rfl rfl b9 ?_
  cases h
  exact r_vret X rfl rfl ⟨rfl, rfl⟩ (by decide) (by decide)
set_option maxHeartbeats 400000 in
set_option maxRecDepth 20000 in
theorem c_X9_addQueue (v : MV) (a : Int32) (r : Unit) (w : MV) (h : f_X9_addQueue v a = some (r, w)) : Sem z_X9_addQueue 1 0 0 [.ref 0, .int a] (WM v) (PST (.inl none) (WM w)) := by
  refine Sem.of zo_X9_addQueue (by decide +kernel) (Nat.le_of_ble_eq_true rfl) fun κ X hE hR hN => ?_
  unfold f_X9_addQueue at h
  refine AW.eq (pc' := 0) (ls' := [some (.ref 0), some (.int a), none]) (st' := []) (AH' := [.inr (9, [.ref 1, .ref 2, .ref 3, .ref 4, .int (MVPc v), .int (MVIs v), .int (MVTh v), .ref 5, .int (MVSl v), .ref 6, .int (MVLn v), .int (MVEc v), .int (MVEo v), .int (MVSa v), .int (MVEn v), .int (MVTk v), .int (MVVa v), .int (MVFa v), .int (MVFo v), .ref 7, .int (MVSc v), .ref 8, .ref 9, .int (MVOl v)]), .inl (0, 500, .inl (MVSt v)), .inl (0, 500, .inl (MVAs v)), .inl (0, 500, .inl (MVSv v)), .inl (0, 4000, .inl (MVPt v)), .inl (0, 6, .inl (MVSp v)), .inl (3, 600, .inl (MVBf v)), .inl (0, 150, .inl (MVSm v)), .inl (0, 40, .inl (MVOr v)), .inl (3, 240, .inl (MVOu v))]) ?_ rfl rfl rfl rfl
  refine go_s 3 X (pc2 := 5) (st2 := [.int 0, .ref 1]) rfl ?_
  by_cases b1 : oob 0 500
  · rw [if_pos b1] at h; cases h
  rw [if_neg b1] at h
  refine r_iald X rfl rfl b1 ?_
  obtain ⟨r3, hq2, h⟩ := obind_inv h
  refine q_callS X [] [] (AH2 := [.inr (9, [.ref 1, .ref 2, .ref 3, .ref 4, .int (MVPc v), .int (MVIs v), .int (MVTh v), .ref 5, .int (MVSl v), .ref 6, .int (MVLn v), .int (MVEc v), .int (MVEo v), .int (MVSa v), .int (MVEn v), .int (MVTk v), .int (MVVa v), .int (MVFa v), .int (MVFo v), .ref 7, .int (MVSc v), .ref 8, .ref 9, .int (MVOl v)]), .inl (0, 500, .inl (MVSt v)), .inl (0, 500, .inl (MVAs v)), .inl (0, 500, .inl (MVSv v)), .inl (0, 4000, .inl (MVPt v)), .inl (0, 6, .inl (MVSp v)), .inl (3, 600, .inl (MVBf v)), .inl (0, 150, .inl (MVSm v)), .inl (0, 40, .inl (MVOr v)), .inl (3, 240, .inl (MVOu v))]) (st2 := [.int r3]) (c_X9_q _ _ hq2) ⟨rfl, rfl⟩ rfl k_X9_q l_X9_77 rfl rfl (fit_of hR (by decide) (by decide) (by decide) (by decide)) (Nat.le_of_ble_eq_true rfl) (by decide) rfl rfl rfl ?_
  refine go_l 3 X (pc2 := 12) (ls2 := [some (.ref 0), some (.int a), some (.int r3)]) (st2 := [.int r3, .ref 0]) rfl ?_
  obtain ⟨r6, w7, hq5, h⟩ := bnd2_inv h
  refine q_callV X [0, 1, 2, 3, 4, 5, 6, 7, 8, 9] [] (AH2 := [.inr (9, [.ref 1, .ref 2, .ref 3, .ref 4, .int (MVPc w7), .int (MVIs w7), .int (MVTh w7), .ref 5, .int (MVSl w7), .ref 6, .int (MVLn w7), .int (MVEc w7), .int (MVEo w7), .int (MVSa w7), .int (MVEn w7), .int (MVTk w7), .int (MVVa w7), .int (MVFa w7), .int (MVFo w7), .ref 7, .int (MVSc w7), .ref 8, .ref 9, .int (MVOl w7)]), .inl (0, 500, .inl (MVSt w7)), .inl (0, 500, .inl (MVAs w7)), .inl (0, 500, .inl (MVSv w7)), .inl (0, 4000, .inl (MVPt w7)), .inl (0, 6, .inl (MVSp w7)), .inl (3, 600, .inl (MVBf w7)), .inl (0, 150, .inl (MVSm w7)), .inl (0, 40, .inl (MVOr w7)), .inl (3, 240, .inl (MVOu w7))]) (st2 := []) (c_X9_putName _ _ _ _ hq5) ⟨rfl, rfl⟩ rfl k_X9_putName l_X9_87 rfl rfl rfl rfl rfl (fit_of hR (by decide) (by decide) (by decide) (by decide)) (Nat.le_of_ble_eq_true rfl) (by decide) rfl rfl rfl ?_
  refine go_s 6 X (pc2 := 24) (st2 := [.int a, .int (r3 + 7), .ref 1]) rfl ?_
  by_cases b8 : oob (r3 + 7) 500
  · rw [if_pos b8] at h; cases h
  rw [if_neg b8] at h
  refine r_iast X rfl rfl b8 ?_
  refine go_s 6 X (pc2 := 34) (st2 := [.int (-1), .int (r3 + 9), .ref 1]) rfl ?_
  by_cases b9 : oob (r3 + 9) 500
  · rw [if_pos b9] at h; cases h
  rw [if_neg b9] at h
  refine r_iast X rfl rfl b9 ?_
  refine go_s 4 X (pc2 := 41) (st2 := [.int 0, .ref 1, .int 0, .ref 1]) rfl ?_
  by_cases b10 : oob 0 500
  · rw [if_pos b10] at h; cases h
  rw [if_neg b10] at h
  refine r_iald X rfl rfl b10 ?_
  refine go_s 2 X (pc2 := 44) (st2 := [.int (((upd (upd (MVSt w7) (Int32.toNatClampNeg (r3 + 7)) a) (Int32.toNatClampNeg (r3 + 9)) (-1)) (Int32.toNatClampNeg 0)) + 1), .int 0, .ref 1]) rfl ?_
  by_cases b11 : oob 0 500
  · rw [if_pos b11] at h; cases h
  rw [if_neg b11] at h
  refine r_iast X rfl rfl b11 ?_
  cases h
  exact r_vret X rfl rfl ⟨rfl, rfl⟩ (by decide) (by decide)
set_option maxHeartbeats 400000 in
set_option maxRecDepth 20000 in
theorem c_X9_isWithin (a : Int64) (b : Int64) (c : Int64) (r : Int32) (h : f_X9_isWithin a b c = some r) : Sem z_X9_isWithin 0 0 0 [.long a, .long b, .long c] [] (PST (.inl (some (.int r))) []) := by
  refine Sem.of zo_X9_isWithin (by decide +kernel) (Nat.le_of_ble_eq_true rfl) fun κ X hE hR hN => ?_
  unfold f_X9_isWithin at h
  refine AW.eq (pc' := 0) (ls' := [some (.long a), none, some (.long b), none, some (.long c), none]) (st' := []) (AH' := []) ?_ rfl rfl rfl rfl
  refine go_s 3 X (pc2 := 3) (st2 := [.int (lg_cmp a b)]) rfl ?_
  refine r_if_lt X 17 rfl rfl (fun c1 => ?_) (fun c1 => ?_)
  · rw [if_pos c1] at h
    refine go_s 1 X (pc2 := 18) (st2 := [.int 0]) rfl ?_
    cases h
    exact r_zret X (ty := .boolean) rfl rfl rfl ⟨rfl, rfl⟩ (by decide) (by decide)
  · rw [if_neg c1] at h
    refine go_s 3 X (pc2 := 10) (st2 := [.int (lg_cmp a c)]) rfl ?_
    refine r_if_gt X 17 rfl rfl (fun c2 => ?_) (fun c2 => ?_)
    · rw [if_pos c2] at h
      refine go_s 1 X (pc2 := 18) (st2 := [.int 0]) rfl ?_
      cases h
      exact r_zret X (ty := .boolean) rfl rfl rfl ⟨rfl, rfl⟩ (by decide) (by decide)
    · rw [if_neg c2] at h
      refine go_s 2 X (pc2 := 18) (st2 := [.int 1]) rfl ?_
      cases h
      exact r_zret X (ty := .boolean) rfl rfl rfl ⟨rfl, rfl⟩ (by decide) (by decide)
set_option maxHeartbeats 400000 in
set_option maxRecDepth 20000 in
theorem c_X9_isLetter (v : MV) (a : Int32) (r : Int32) (h : f_X9_isLetter v a = some r) : Sem z_X9_isLetter 1 0 0 [.ref 0, .int a] (WM v) (PST (.inl (some (.int r))) (WM v)) := by
  refine Sem.of zo_X9_isLetter (by decide +kernel) (Nat.le_of_ble_eq_true rfl) fun κ X hE hR hN => ?_
  unfold f_X9_isLetter at h
  refine AW.eq (pc' := 0) (ls' := [some (.ref 0), some (.int a)]) (st' := []) (AH' := [.inr (9, [.ref 1, .ref 2, .ref 3, .ref 4, .int (MVPc v), .int (MVIs v), .int (MVTh v), .ref 5, .int (MVSl v), .ref 6, .int (MVLn v), .int (MVEc v), .int (MVEo v), .int (MVSa v), .int (MVEn v), .int (MVTk v), .int (MVVa v), .int (MVFa v), .int (MVFo v), .ref 7, .int (MVSc v), .ref 8, .ref 9, .int (MVOl v)]), .inl (0, 500, .inl (MVSt v)), .inl (0, 500, .inl (MVAs v)), .inl (0, 500, .inl (MVSv v)), .inl (0, 4000, .inl (MVPt v)), .inl (0, 6, .inl (MVSp v)), .inl (3, 600, .inl (MVBf v)), .inl (0, 150, .inl (MVSm v)), .inl (0, 40, .inl (MVOr v)), .inl (3, 240, .inl (MVOu v))]) ?_ rfl rfl rfl rfl
  refine go_s 3 X (pc2 := 5) (st2 := [.int (MVLn v), .int a]) rfl ?_
  refine r_icmp_ge X 31 rfl rfl (fun c1 => ?_) (fun c1 => ?_)
  · rw [if_pos c1] at h
    refine go_s 1 X (pc2 := 32) (st2 := [.int 0]) rfl ?_
    cases h
    exact r_zret X (ty := .boolean) rfl rfl rfl ⟨rfl, rfl⟩ (by decide) (by decide)
  · rw [if_neg c1] at h
    refine go_s 3 X (pc2 := 13) (st2 := [.int a, .ref 6]) rfl ?_
    by_cases b2 : oob a 600
    · rw [if_pos b2] at h; cases h
    rw [if_neg b2] at h
    refine r_bald X rfl rfl b2 ?_
    refine go_s 1 X (pc2 := 15) (st2 := [.long (Int32.toInt64 ((MVBf v) (Int32.toNatClampNeg a)))]) rfl ?_
    refine r_ldc2 X 97 rfl (by decide +kernel) ?_
    refine r_ldc2 X 122 rfl (by decide +kernel) ?_
    obtain ⟨r4, hq3, h⟩ := obind_inv h
    refine q_callS X [] [] (AH2 := [.inr (9, [.ref 1, .ref 2, .ref 3, .ref 4, .int (MVPc v), .int (MVIs v), .int (MVTh v), .ref 5, .int (MVSl v), .ref 6, .int (MVLn v), .int (MVEc v), .int (MVEo v), .int (MVSa v), .int (MVEn v), .int (MVTk v), .int (MVVa v), .int (MVFa v), .int (MVFo v), .ref 7, .int (MVSc v), .ref 8, .ref 9, .int (MVOl v)]), .inl (0, 500, .inl (MVSt v)), .inl (0, 500, .inl (MVAs v)), .inl (0, 500, .inl (MVSv v)), .inl (0, 4000, .inl (MVPt v)), .inl (0, 6, .inl (MVSp v)), .inl (3, 600, .inl (MVBf v)), .inl (0, 150, .inl (MVSm v)), .inl (0, 40, .inl (MVOr v)), .inl (3, 240, .inl (MVOu v))]) (st2 := [.int r4]) (c_X9_isWithin _ _ _ _ hq3) ⟨rfl, rfl⟩ rfl k_X9_isWithin l_X9_152 rfl rfl (fit_of hR (by decide) (by decide) (by decide) (by decide)) (Nat.le_of_ble_eq_true rfl) (by decide) rfl rfl rfl ?_
    refine r_if_eq X 31 rfl rfl (fun c6 => ?_) (fun c6 => ?_)
    · rw [if_pos c6] at h
      refine go_s 1 X (pc2 := 32) (st2 := [.int 0]) rfl ?_
      cases h
      exact r_zret X (ty := .boolean) rfl rfl rfl ⟨rfl, rfl⟩ (by decide) (by decide)
    · rw [if_neg c6] at h
      refine go_s 2 X (pc2 := 32) (st2 := [.int 1]) rfl ?_
      cases h
      exact r_zret X (ty := .boolean) rfl rfl rfl ⟨rfl, rfl⟩ (by decide) (by decide)
set_option maxHeartbeats 400000 in
set_option maxRecDepth 20000 in
theorem c_X9_isDigit (v : MV) (a : Int32) (r : Int32) (h : f_X9_isDigit v a = some r) : Sem z_X9_isDigit 1 0 0 [.ref 0, .int a] (WM v) (PST (.inl (some (.int r))) (WM v)) := by
  refine Sem.of zo_X9_isDigit (by decide +kernel) (Nat.le_of_ble_eq_true rfl) fun κ X hE hR hN => ?_
  unfold f_X9_isDigit at h
  refine AW.eq (pc' := 0) (ls' := [some (.ref 0), some (.int a)]) (st' := []) (AH' := [.inr (9, [.ref 1, .ref 2, .ref 3, .ref 4, .int (MVPc v), .int (MVIs v), .int (MVTh v), .ref 5, .int (MVSl v), .ref 6, .int (MVLn v), .int (MVEc v), .int (MVEo v), .int (MVSa v), .int (MVEn v), .int (MVTk v), .int (MVVa v), .int (MVFa v), .int (MVFo v), .ref 7, .int (MVSc v), .ref 8, .ref 9, .int (MVOl v)]), .inl (0, 500, .inl (MVSt v)), .inl (0, 500, .inl (MVAs v)), .inl (0, 500, .inl (MVSv v)), .inl (0, 4000, .inl (MVPt v)), .inl (0, 6, .inl (MVSp v)), .inl (3, 600, .inl (MVBf v)), .inl (0, 150, .inl (MVSm v)), .inl (0, 40, .inl (MVOr v)), .inl (3, 240, .inl (MVOu v))]) ?_ rfl rfl rfl rfl
  refine go_s 3 X (pc2 := 5) (st2 := [.int (MVLn v), .int a]) rfl ?_
  refine r_icmp_ge X 31 rfl rfl (fun c1 => ?_) (fun c1 => ?_)
  · rw [if_pos c1] at h
    refine go_s 1 X (pc2 := 32) (st2 := [.int 0]) rfl ?_
    cases h
    exact r_zret X (ty := .boolean) rfl rfl rfl ⟨rfl, rfl⟩ (by decide) (by decide)
  · rw [if_neg c1] at h
    refine go_s 3 X (pc2 := 13) (st2 := [.int a, .ref 6]) rfl ?_
    by_cases b2 : oob a 600
    · rw [if_pos b2] at h; cases h
    rw [if_neg b2] at h
    refine r_bald X rfl rfl b2 ?_
    refine go_s 1 X (pc2 := 15) (st2 := [.long (Int32.toInt64 ((MVBf v) (Int32.toNatClampNeg a)))]) rfl ?_
    refine r_ldc2 X 48 rfl (by decide +kernel) ?_
    refine r_ldc2 X 57 rfl (by decide +kernel) ?_
    obtain ⟨r4, hq3, h⟩ := obind_inv h
    refine q_callS X [] [] (AH2 := [.inr (9, [.ref 1, .ref 2, .ref 3, .ref 4, .int (MVPc v), .int (MVIs v), .int (MVTh v), .ref 5, .int (MVSl v), .ref 6, .int (MVLn v), .int (MVEc v), .int (MVEo v), .int (MVSa v), .int (MVEn v), .int (MVTk v), .int (MVVa v), .int (MVFa v), .int (MVFo v), .ref 7, .int (MVSc v), .ref 8, .ref 9, .int (MVOl v)]), .inl (0, 500, .inl (MVSt v)), .inl (0, 500, .inl (MVAs v)), .inl (0, 500, .inl (MVSv v)), .inl (0, 4000, .inl (MVPt v)), .inl (0, 6, .inl (MVSp v)), .inl (3, 600, .inl (MVBf v)), .inl (0, 150, .inl (MVSm v)), .inl (0, 40, .inl (MVOr v)), .inl (3, 240, .inl (MVOu v))]) (st2 := [.int r4]) (c_X9_isWithin _ _ _ _ hq3) ⟨rfl, rfl⟩ rfl k_X9_isWithin l_X9_152 rfl rfl (fit_of hR (by decide) (by decide) (by decide) (by decide)) (Nat.le_of_ble_eq_true rfl) (by decide) rfl rfl rfl ?_
    refine r_if_eq X 31 rfl rfl (fun c6 => ?_) (fun c6 => ?_)
    · rw [if_pos c6] at h
      refine go_s 1 X (pc2 := 32) (st2 := [.int 0]) rfl ?_
      cases h
      exact r_zret X (ty := .boolean) rfl rfl rfl ⟨rfl, rfl⟩ (by decide) (by decide)
    · rw [if_neg c6] at h
      refine go_s 2 X (pc2 := 32) (st2 := [.int 1]) rfl ?_
      cases h
      exact r_zret X (ty := .boolean) rfl rfl rfl ⟨rfl, rfl⟩ (by decide) (by decide)
set_option maxHeartbeats 400000 in
set_option maxRecDepth 20000 in
theorem a_X9_advanceToken_j285 {κ : KX} (X : CX κ z_X9_advanceToken) (hR : κR κ = rmM 2 0 0) : ∀ (s0 : Int32) (v : MV) (r : Unit) (w : MV) (h : f_X9_advanceToken_j285 s0 v = some (r, w)), AW κ (QM κ (PST (.inl none) (WM w)) 0 0) 285 [some (.ref 0)] [.int s0, .ref 0] (WM v) 0 0 := by
  intro s0 v r w h
  unfold f_X9_advanceToken_j285 at h
  refine AW.eq (pc' := 285) (ls' := [some (.ref 0)]) (st' := [.int s0, .ref 0]) (AH' := [.inr (9, [.ref 1, .ref 2, .ref 3, .ref 4, .int (MVPc v), .int (MVIs v), .int (MVTh v), .ref 5, .int (MVSl v), .ref 6, .int (MVLn v), .int (MVEc v), .int (MVEo v), .int (MVSa v), .int (MVEn v), .int (MVTk v), .int (MVVa v), .int (MVFa v), .int (MVFo v), .ref 7, .int (MVSc v), .ref 8, .ref 9, .int (MVOl v)]), .inl (0, 500, .inl (MVSt v)), .inl (0, 500, .inl (MVAs v)), .inl (0, 500, .inl (MVSv v)), .inl (0, 4000, .inl (MVPt v)), .inl (0, 6, .inl (MVSp v)), .inl (3, 600, .inl (MVBf v)), .inl (0, 150, .inl (MVSm v)), .inl (0, 40, .inl (MVOr v)), .inl (3, 240, .inl (MVOu v))]) ?_ rfl rfl rfl rfl
  refine go 7 X (pc2 := 298) (ls2 := [some (.ref 0)]) (st2 := []) (AH2 := [.inr (9, [.ref 1, .ref 2, .ref 3, .ref 4, .int (MVPc v), .int (MVIs v), .int (MVTh v), .ref 5, .int (MVSl v), .ref 6, .int (MVLn v), .int (MVEc v), .int (MVEo v), .int (MVSa v), .int ((MVEn v) + 1), .int s0, .int (MVVa v), .int (MVFa v), .int (MVFo v), .ref 7, .int (MVSc v), .ref 8, .ref 9, .int (MVOl v)]), .inl (0, 500, .inl (MVSt v)), .inl (0, 500, .inl (MVAs v)), .inl (0, 500, .inl (MVSv v)), .inl (0, 4000, .inl (MVPt v)), .inl (0, 6, .inl (MVSp v)), .inl (3, 600, .inl (MVBf v)), .inl (0, 150, .inl (MVSm v)), .inl (0, 40, .inl (MVOr v)), .inl (3, 240, .inl (MVOu v))]) rfl ?_
  cases h
  exact r_vret X rfl rfl ⟨rfl, rfl⟩ (by decide) (by decide)
set_option maxHeartbeats 400000 in
set_option maxRecDepth 20000 in
theorem a_X9_advanceToken_j224 {κ : KX} (X : CX κ z_X9_advanceToken) (hR : κR κ = rmM 2 0 0) {kO : MV → Option (Unit × MV)} (hk : ∀  (v : MV) (r : Unit) (w : MV), kO v = some (r, w) → AW κ (QM κ (PST (.inl none) (WM w)) 0 0) 172 [some (.ref 0)] [] (WM v) 0 0) : ∀ (s0 : Int32) (v : MV) (r : Unit) (w : MV) (h : f_X9_advanceToken_j224 kO s0 v = some (r, w)), AW κ (QM κ (PST (.inl none) (WM w)) 0 0) 224 [some (.ref 0)] [.int s0, .ref 0] (WM v) 0 0 := by
  intro s0 v r w h
  unfold f_X9_advanceToken_j224 at h
  refine AW.eq (pc' := 224) (ls' := [some (.ref 0)]) (st' := [.int s0, .ref 0]) (AH' := [.inr (9, [.ref 1, .ref 2, .ref 3, .ref 4, .int (MVPc v), .int (MVIs v), .int (MVTh v), .ref 5, .int (MVSl v), .ref 6, .int (MVLn v), .int (MVEc v), .int (MVEo v), .int (MVSa v), .int (MVEn v), .int (MVTk v), .int (MVVa v), .int (MVFa v), .int (MVFo v), .ref 7, .int (MVSc v), .ref 8, .ref 9, .int (MVOl v)]), .inl (0, 500, .inl (MVSt v)), .inl (0, 500, .inl (MVAs v)), .inl (0, 500, .inl (MVSv v)), .inl (0, 4000, .inl (MVPt v)), .inl (0, 6, .inl (MVSp v)), .inl (3, 600, .inl (MVBf v)), .inl (0, 150, .inl (MVSm v)), .inl (0, 40, .inl (MVOr v)), .inl (3, 240, .inl (MVOu v))]) ?_ rfl rfl rfl rfl
  refine go 8 X (pc2 := 172) (ls2 := [some (.ref 0)]) (st2 := []) (AH2 := [.inr (9, [.ref 1, .ref 2, .ref 3, .ref 4, .int (MVPc v), .int (MVIs v), .int (MVTh v), .ref 5, .int (MVSl v), .ref 6, .int (MVLn v), .int (MVEc v), .int (MVEo v), .int (MVSa v), .int ((MVEn v) + 1), .int (MVTk v), .int s0, .int (MVFa v), .int (MVFo v), .ref 7, .int (MVSc v), .ref 8, .ref 9, .int (MVOl v)]), .inl (0, 500, .inl (MVSt v)), .inl (0, 500, .inl (MVAs v)), .inl (0, 500, .inl (MVSv v)), .inl (0, 4000, .inl (MVPt v)), .inl (0, 6, .inl (MVSp v)), .inl (3, 600, .inl (MVBf v)), .inl (0, 150, .inl (MVSm v)), .inl (0, 40, .inl (MVOr v)), .inl (3, 240, .inl (MVOu v))]) rfl ?_
  exact AW.eq (hk _ _ _ h) rfl rfl rfl rfl
set_option maxHeartbeats 400000 in
set_option maxRecDepth 20000 in
theorem a_X9_advanceToken_h172 {κ : KX} (X : CX κ z_X9_advanceToken) (hR : κR κ = rmM 2 0 0) : ∀ (n : Nat) (v : MV) (r : Unit) (w : MV) (h : f_X9_advanceToken_h172 n v = some (r, w)), AW κ (QM κ (PST (.inl none) (WM w)) 0 0) 172 [some (.ref 0)] [] (WM v) 0 0 := by
  intro n
  induction n with
  | zero =>
    intro v r w h
    unfold f_X9_advanceToken_h172 at h
    cases h
  | succ n ih =>
    intro v r w h
    unfold f_X9_advanceToken_h172 at h
    refine AW.eq (pc' := 172) (ls' := [some (.ref 0)]) (st' := []) (AH' := [.inr (9, [.ref 1, .ref 2, .ref 3, .ref 4, .int (MVPc v), .int (MVIs v), .int (MVTh v), .ref 5, .int (MVSl v), .ref 6, .int (MVLn v), .int (MVEc v), .int (MVEo v), .int (MVSa v), .int (MVEn v), .int (MVTk v), .int (MVVa v), .int (MVFa v), .int (MVFo v), .ref 7, .int (MVSc v), .ref 8, .ref 9, .int (MVOl v)]), .inl (0, 500, .inl (MVSt v)), .inl (0, 500, .inl (MVAs v)), .inl (0, 500, .inl (MVSv v)), .inl (0, 4000, .inl (MVPt v)), .inl (0, 6, .inl (MVSp v)), .inl (3, 600, .inl (MVBf v)), .inl (0, 150, .inl (MVSm v)), .inl (0, 40, .inl (MVOr v)), .inl (3, 240, .inl (MVOu v))]) ?_ rfl rfl rfl rfl
    refine go_s 3 X (pc2 := 177) (st2 := [.int (MVEn v), .ref 0]) rfl ?_
    obtain ⟨r15, hq14, h⟩ := obind_inv h
    refine q_callV X [0, 1, 2, 3, 4, 5, 6, 7, 8, 9] [] (AH2 := [.inr (9, [.ref 1, .ref 2, .ref 3, .ref 4, .int (MVPc v), .int (MVIs v), .int (MVTh v), .ref 5, .int (MVSl v), .ref 6, .int (MVLn v), .int (MVEc v), .int (MVEo v), .int (MVSa v), .int (MVEn v), .int (MVTk v), .int (MVVa v), .int (MVFa v), .int (MVFo v), .ref 7, .int (MVSc v), .ref 8, .ref 9, .int (MVOl v)]), .inl (0, 500, .inl (MVSt v)), .inl (0, 500, .inl (MVAs v)), .inl (0, 500, .inl (MVSv v)), .inl (0, 4000, .inl (MVPt v)), .inl (0, 6, .inl (MVSp v)), .inl (3, 600, .inl (MVBf v)), .inl (0, 150, .inl (MVSm v)), .inl (0, 40, .inl (MVOr v)), .inl (3, 240, .inl (MVOu v))]) (st2 := [.int r15]) (c_X9_isDigit _ _ _ hq14) ⟨rfl, rfl⟩ rfl k_X9_isDigit l_X9_182 rfl rfl rfl rfl rfl (fit_of hR (by decide) (by decide) (by decide) (by decide)) (Nat.le_of_ble_eq_true rfl) (by decide) rfl rfl rfl ?_
    refine r_if_eq X 240 rfl rfl (fun c17 => ?_) (fun c17 => ?_)
    · rw [if_pos c17] at h
      refine go_s 7 X (pc2 := 251) (st2 := [.int 3, .int ((MVEn v) - (MVSa v)), .ref 0]) rfl ?_
      refine r_icmp_le X 258 rfl rfl (fun c18 => ?_) (fun c18 => ?_)
      · rw [if_pos c18] at h
        refine go 3 X (pc2 := 298) (ls2 := [some (.ref 0)]) (st2 := []) (AH2 := [.inr (9, [.ref 1, .ref 2, .ref 3, .ref 4, .int (MVPc v), .int (MVIs v), .int (MVTh v), .ref 5, .int (MVSl v), .ref 6, .int (MVLn v), .int (MVEc v), .int (MVEo v), .int (MVSa v), .int (MVEn v), .int 2, .int (MVVa v), .int (MVFa v), .int (MVFo v), .ref 7, .int (MVSc v), .ref 8, .ref 9, .int (MVOl v)]), .inl (0, 500, .inl (MVSt v)), .inl (0, 500, .inl (MVAs v)), .inl (0, 500, .inl (MVSv v)), .inl (0, 4000, .inl (MVPt v)), .inl (0, 6, .inl (MVSp v)), .inl (3, 600, .inl (MVBf v)), .inl (0, 150, .inl (MVSm v)), .inl (0, 40, .inl (MVOr v)), .inl (3, 240, .inl (MVOu v))]) rfl ?_
        cases h
        exact r_vret X rfl rfl ⟨rfl, rfl⟩ (by decide) (by decide)
      · rw [if_neg c18] at h
        refine go 4 X (pc2 := 298) (ls2 := [some (.ref 0)]) (st2 := []) (AH2 := [.inr (9, [.ref 1, .ref 2, .ref 3, .ref 4, .int (MVPc v), .int (MVIs v), .int (MVTh v), .ref 5, .int (MVSl v), .ref 6, .int (MVLn v), .int (MVEc v), .int (MVEo v), .int (MVSa v), .int (MVEn v), .int 4, .int (MVVa v), .int (MVFa v), .int (MVFo v), .ref 7, .int (MVSc v), .ref 8, .ref 9, .int (MVOl v)]), .inl (0, 500, .inl (MVSt v)), .inl (0, 500, .inl (MVAs v)), .inl (0, 500, .inl (MVSv v)), .inl (0, 4000, .inl (MVPt v)), .inl (0, 6, .inl (MVSp v)), .inl (3, 600, .inl (MVBf v)), .inl (0, 150, .inl (MVSm v)), .inl (0, 40, .inl (MVOr v)), .inl (3, 240, .inl (MVOu v))]) rfl ?_
        cases h
        exact r_vret X rfl rfl ⟨rfl, rfl⟩ (by decide) (by decide)
    · rw [if_neg c17] at h
      refine go_s 7 X (pc2 := 194) (st2 := [.int 3, .int ((MVEn v) - (MVSa v)), .ref 0]) rfl ?_
      refine r_icmp_ge X 220 rfl rfl (fun c19 => ?_) (fun c19 => ?_)
      · rw [if_pos c19] at h
        refine go_s 2 X (pc2 := 224) (st2 := [.int (MVVa v), .ref 0]) rfl ?_
        exact AW.eq (a_X9_advanceToken_j224 X hR ih _ _ _ _ h) rfl rfl rfl rfl
      · rw [if_neg c19] at h
        refine go_s 8 X (pc2 := 212) (st2 := [.int (MVEn v), .ref 6, .int (10 * (MVVa v)), .ref 0]) rfl ?_
        by_cases b20 : oob (MVEn v) 600
        · rw [if_pos b20] at h; cases h
        rw [if_neg b20] at h
        refine r_bald X rfl rfl b20 ?_
        refine go_s 4 X (pc2 := 224) (st2 := [.int (((10 * (MVVa v)) + ((MVBf v) (Int32.toNatClampNeg (MVEn v)))) - 48), .ref 0]) rfl ?_
        exact AW.eq (a_X9_advanceToken_j224 X hR ih _ _ _ _ h) rfl rfl rfl rfl
set_option maxHeartbeats 400000 in
set_option maxRecDepth 20000 in
theorem a_X9_advanceToken_h106 {κ : KX} (X : CX κ z_X9_advanceToken) (hR : κR κ = rmM 2 0 0) : ∀ (n : Nat) (v : MV) (r : Unit) (w : MV) (h : f_X9_advanceToken_h106 n v = some (r, w)), AW κ (QM κ (PST (.inl none) (WM w)) 0 0) 106 [some (.ref 0)] [] (WM v) 0 0 := by
  intro n
  induction n with
  | zero =>
    intro v r w h
    unfold f_X9_advanceToken_h106 at h
    cases h
  | succ n ih =>
    intro v r w h
    unfold f_X9_advanceToken_h106 at h
    refine AW.eq (pc' := 106) (ls' := [some (.ref 0)]) (st' := []) (AH' := [.inr (9, [.ref 1, .ref 2, .ref 3, .ref 4, .int (MVPc v), .int (MVIs v), .int (MVTh v), .ref 5, .int (MVSl v), .ref 6, .int (MVLn v), .int (MVEc v), .int (MVEo v), .int (MVSa v), .int (MVEn v), .int (MVTk v), .int (MVVa v), .int (MVFa v), .int (MVFo v), .ref 7, .int (MVSc v), .ref 8, .ref 9, .int (MVOl v)]), .inl (0, 500, .inl (MVSt v)), .inl (0, 500, .inl (MVAs v)), .inl (0, 500, .inl (MVSv v)), .inl (0, 4000, .inl (MVPt v)), .inl (0, 6, .inl (MVSp v)), .inl (3, 600, .inl (MVBf v)), .inl (0, 150, .inl (MVSm v)), .inl (0, 40, .inl (MVOr v)), .inl (3, 240, .inl (MVOu v))]) ?_ rfl rfl rfl rfl
    refine go_s 3 X (pc2 := 111) (st2 := [.int (MVEn v), .ref 0]) rfl ?_
    obtain ⟨r22, hq21, h⟩ := obind_inv h
    refine q_callV X [0, 1, 2, 3, 4, 5, 6, 7, 8, 9] [] (AH2 := [.inr (9, [.ref 1, .ref 2, .ref 3, .ref 4, .int (MVPc v), .int (MVIs v), .int (MVTh v), .ref 5, .int (MVSl v), .ref 6, .int (MVLn v), .int (MVEc v), .int (MVEo v), .int (MVSa v), .int (MVEn v), .int (MVTk v), .int (MVVa v), .int (MVFa v), .int (MVFo v), .ref 7, .int (MVSc v), .ref 8, .ref 9, .int (MVOl v)]), .inl (0, 500, .inl (MVSt v)), .inl (0, 500, .inl (MVAs v)), .inl (0, 500, .inl (MVSv v)), .inl (0, 4000, .inl (MVPt v)), .inl (0, 6, .inl (MVSp v)), .inl (3, 600, .inl (MVBf v)), .inl (0, 150, .inl (MVSm v)), .inl (0, 40, .inl (MVOr v)), .inl (3, 240, .inl (MVOu v))]) (st2 := [.int r22]) (c_X9_isLetter _ _ _ hq21) ⟨rfl, rfl⟩ rfl k_X9_isLetter l_X9_179 rfl rfl rfl rfl rfl (fit_of hR (by decide) (by decide) (by decide) (by decide)) (Nat.le_of_ble_eq_true rfl) (by decide) rfl rfl rfl ?_
    refine r_if_eq X 130 rfl rfl (fun c24 => ?_) (fun c24 => ?_)
    · rw [if_pos c24] at h
      refine go_s 7 X (pc2 := 142) (st2 := [.int 8, .int ((MVEn v) - (MVSa v)), .ref 0]) rfl ?_
      refine r_icmp_le X 149 rfl rfl (fun c25 => ?_) (fun c25 => ?_)
      · rw [if_pos c25] at h
        refine go 3 X (pc2 := 298) (ls2 := [some (.ref 0)]) (st2 := []) (AH2 := [.inr (9, [.ref 1, .ref 2, .ref 3, .ref 4, .int (MVPc v), .int (MVIs v), .int (MVTh v), .ref 5, .int (MVSl v), .ref 6, .int (MVLn v), .int (MVEc v), .int (MVEo v), .int (MVSa v), .int (MVEn v), .int 1, .int (MVVa v), .int (MVFa v), .int (MVFo v), .ref 7, .int (MVSc v), .ref 8, .ref 9, .int (MVOl v)]), .inl (0, 500, .inl (MVSt v)), .inl (0, 500, .inl (MVAs v)), .inl (0, 500, .inl (MVSv v)), .inl (0, 4000, .inl (MVPt v)), .inl (0, 6, .inl (MVSp v)), .inl (3, 600, .inl (MVBf v)), .inl (0, 150, .inl (MVSm v)), .inl (0, 40, .inl (MVOr v)), .inl (3, 240, .inl (MVOu v))]) rfl ?_
        cases h
        exact r_vret X rfl rfl ⟨rfl, rfl⟩ (by decide) (by decide)
      · rw [if_neg c25] at h
        refine go 4 X (pc2 := 298) (ls2 := [some (.ref 0)]) (st2 := []) (AH2 := [.inr (9, [.ref 1, .ref 2, .ref 3, .ref 4, .int (MVPc v), .int (MVIs v), .int (MVTh v), .ref 5, .int (MVSl v), .ref 6, .int (MVLn v), .int (MVEc v), .int (MVEo v), .int (MVSa v), .int (MVEn v), .int 4, .int (MVVa v), .int (MVFa v), .int (MVFo v), .ref 7, .int (MVSc v), .ref 8, .ref 9, .int (MVOl v)]), .inl (0, 500, .inl (MVSt v)), .inl (0, 500, .inl (MVAs v)), .inl (0, 500, .inl (MVSv v)), .inl (0, 4000, .inl (MVPt v)), .inl (0, 6, .inl (MVSp v)), .inl (3, 600, .inl (MVBf v)), .inl (0, 150, .inl (MVSm v)), .inl (0, 40, .inl (MVOr v)), .inl (3, 240, .inl (MVOu v))]) rfl ?_
        cases h
        exact r_vret X rfl rfl ⟨rfl, rfl⟩ (by decide) (by decide)
    · rw [if_neg c24] at h
      refine go 7 X (pc2 := 106) (ls2 := [some (.ref 0)]) (st2 := []) (AH2 := [.inr (9, [.ref 1, .ref 2, .ref 3, .ref 4, .int (MVPc v), .int (MVIs v), .int (MVTh v), .ref 5, .int (MVSl v), .ref 6, .int (MVLn v), .int (MVEc v), .int (MVEo v), .int (MVSa v), .int ((MVEn v) + 1), .int (MVTk v), .int (MVVa v), .int (MVFa v), .int (MVFo v), .ref 7, .int (MVSc v), .ref 8, .ref 9, .int (MVOl v)]), .inl (0, 500, .inl (MVSt v)), .inl (0, 500, .inl (MVAs v)), .inl (0, 500, .inl (MVSv v)), .inl (0, 4000, .inl (MVPt v)), .inl (0, 6, .inl (MVSp v)), .inl (3, 600, .inl (MVBf v)), .inl (0, 150, .inl (MVSm v)), .inl (0, 40, .inl (MVOr v)), .inl (3, 240, .inl (MVOu v))]) rfl ?_
      exact AW.eq (ih _ _ _ h) rfl rfl rfl rfl
