/-! ===== 15ee: contracts, by program ===== -/
set_option maxHeartbeats 400000 in
set_option maxRecDepth 20000 in
theorem a_X9_isConsistent_h7 {κ : KX} (X : CX κ z_X9_isConsistent) (hR : κR κ = rmM 57 0 0) : ∀ (n : Nat) (l1 : Int32) (v : MV) (r : Int32) (w : MV) (h : f_X9_isConsistent_h7 n l1 v = some (r, w)), AW κ (QM κ (PST (.inl (some (.int r))) (WM w)) 0 0) 7 [some (.ref 0), some (.int l1)] [] (WM v) 0 0 := by
  intro n
  induction n with
  | zero =>
    intro l1 v r w h
    unfold f_X9_isConsistent_h7 at h
    cases h
  | succ n ih =>
    intro l1 v r w h
    unfold f_X9_isConsistent_h7 at h
    refine AW.eq (pc' := 7) (ls' := [some (.ref 0), some (.int l1)]) (st' := []) (AH' := [.inr (9, [.ref 1, .ref 2, .ref 3, .ref 4, .int (MVPc v), .int (MVIs v), .int (MVTh v), .ref 5, .int (MVSl v), .ref 6, .int (MVLn v), .int (MVEc v), .int (MVEo v), .int (MVSa v), .int (MVEn v), .int (MVTk v), .int (MVVa v), .int (MVFa v), .int (MVFo v), .ref 7, .int (MVSc v), .ref 8, .ref 9, .int (MVOl v)]), .inl (0, 500, .inl (MVSt v)), .inl (0, 500, .inl (MVAs v)), .inl (0, 500, .inl (MVSv v)), .inl (0, 4000, .inl (MVPt v)), .inl (0, 6, .inl (MVSp v)), .inl (3, 600, .inl (MVBf v)), .inl (0, 150, .inl (MVSm v)), .inl (0, 40, .inl (MVOr v)), .inl (3, 240, .inl (MVOu v))]) ?_ rfl rfl rfl rfl
    refine go_s 4 X (pc2 := 13) (st2 := [.int 2, .ref 1, .int l1]) rfl ?_
    by_cases b1 : oob 2 500
    · rw [if_pos b1] at h; cases h
    rw [if_neg b1] at h
    refine r_iald X rfl rfl b1 ?_
    refine r_icmp_ge X 41 rfl rfl (fun c2 => ?_) (fun c2 => ?_)
    · rw [if_pos c2] at h
      refine go_l 2 X (pc2 := 43) (ls2 := [some (.ref 0), some (.int 0)]) (st2 := []) rfl ?_
      exact AW.eq (a_X9_isConsistent_h43 X hR FU _ _ _ _ h) rfl rfl rfl rfl
    · rw [if_neg c2] at h
      refine go_s 2 X (pc2 := 19) (st2 := [.int l1, .ref 0]) rfl ?_
      obtain ⟨r14, hq13, h⟩ := obind_inv h
      refine q_callV X [0, 1, 2, 3, 4, 5, 6, 7, 8, 9] [] (AH2 := [.inr (9, [.ref 1, .ref 2, .ref 3, .ref 4, .int (MVPc v), .int (MVIs v), .int (MVTh v), .ref 5, .int (MVSl v), .ref 6, .int (MVLn v), .int (MVEc v), .int (MVEo v), .int (MVSa v), .int (MVEn v), .int (MVTk v), .int (MVVa v), .int (MVFa v), .int (MVFo v), .ref 7, .int (MVSc v), .ref 8, .ref 9, .int (MVOl v)]), .inl (0, 500, .inl (MVSt v)), .inl (0, 500, .inl (MVAs v)), .inl (0, 500, .inl (MVSv v)), .inl (0, 4000, .inl (MVPt v)), .inl (0, 6, .inl (MVSp v)), .inl (3, 600, .inl (MVBf v)), .inl (0, 150, .inl (MVSm v)), .inl (0, 40, .inl (MVOr v)), .inl (3, 240, .inl (MVOu v))]) (st2 := [.int r14]) (c_X9_waits _ _ _ hq13) ⟨rfl, rfl⟩ rfl k_X9_waits l_X9_130 rfl rfl rfl rfl rfl (fit_of hR (by decide) (by decide) (by decide) (by decide)) (Nat.le_of_ble_eq_true rfl) (by decide) rfl rfl rfl ?_
      refine r_if_eq X 35 rfl rfl (fun c16 => ?_) (fun c16 => ?_)
      · rw [if_pos c16] at h
        refine go_l 2 X (pc2 := 7) (ls2 := [some (.ref 0), some (.int (l1 + 1))]) (st2 := []) rfl ?_
        exact AW.eq (ih _ _ _ _ h) rfl rfl rfl rfl
      · rw [if_neg c16] at h
        refine go_s 2 X (pc2 := 27) (st2 := [.int l1, .ref 0]) rfl ?_
        obtain ⟨r18, hq17, h⟩ := obind_inv h
        refine q_callV X [0, 1, 2, 3, 4, 5, 6, 7, 8, 9] [] (AH2 := [.inr (9, [.ref 1, .ref 2, .ref 3, .ref 4, .int (MVPc v), .int (MVIs v), .int (MVTh v), .ref 5, .int (MVSl v), .ref 6, .int (MVLn v), .int (MVEc v), .int (MVEo v), .int (MVSa v), .int (MVEn v), .int (MVTk v), .int (MVVa v), .int (MVFa v), .int (MVFo v), .ref 7, .int (MVSc v), .ref 8, .ref 9, .int (MVOl v)]), .inl (0, 500, .inl (MVSt v)), .inl (0, 500, .inl (MVAs v)), .inl (0, 500, .inl (MVSv v)), .inl (0, 4000, .inl (MVPt v)), .inl (0, 6, .inl (MVSp v)), .inl (3, 600, .inl (MVBf v)), .inl (0, 150, .inl (MVSm v)), .inl (0, 40, .inl (MVOr v)), .inl (3, 240, .inl (MVOu v))]) (st2 := [.int r18]) (c_X9_isNodeConsistent _ _ _ hq17) ⟨rfl, rfl⟩ rfl k_X9_isNodeConsistent l_X9_392 rfl rfl rfl rfl rfl (fit_of hR (by decide) (by decide) (by decide) (by decide)) (Nat.le_of_ble_eq_true rfl) (by decide) rfl rfl rfl ?_
        refine r_if_ne X 35 rfl rfl (fun c20 => ?_) (fun c20 => ?_)
        · rw [if_neg c20] at h
          refine go_l 2 X (pc2 := 7) (ls2 := [some (.ref 0), some (.int (l1 + 1))]) (st2 := []) rfl ?_
          exact AW.eq (ih _ _ _ _ h) rfl rfl rfl rfl
        · rw [if_pos c20] at h
          refine go_s 1 X (pc2 := 34) (st2 := [.int 0]) rfl ?_
          cases h
          exact r_zret X (ty := .boolean) rfl rfl rfl ⟨rfl, rfl⟩ (by decide) (by decide)
set_option maxHeartbeats 400000 in
set_option maxRecDepth 20000 in
theorem c_X9_isConsistent (v : MV) (r : Int32) (w : MV) (h : f_X9_isConsistent v = some (r, w)) : Sem z_X9_isConsistent 57 0 0 [.ref 0] (WM v) (PST (.inl (some (.int r))) (WM w)) := by
  refine Sem.of zo_X9_isConsistent (by decide +kernel) (Nat.le_of_ble_eq_true rfl) fun κ X hE hR hN => ?_
  unfold f_X9_isConsistent at h
  refine AW.eq (pc' := 0) (ls' := [some (.ref 0), none]) (st' := []) (AH' := [.inr (9, [.ref 1, .ref 2, .ref 3, .ref 4, .int (MVPc v), .int (MVIs v), .int (MVTh v), .ref 5, .int (MVSl v), .ref 6, .int (MVLn v), .int (MVEc v), .int (MVEo v), .int (MVSa v), .int (MVEn v), .int (MVTk v), .int (MVVa v), .int (MVFa v), .int (MVFo v), .ref 7, .int (MVSc v), .ref 8, .ref 9, .int (MVOl v)]), .inl (0, 500, .inl (MVSt v)), .inl (0, 500, .inl (MVAs v)), .inl (0, 500, .inl (MVSv v)), .inl (0, 4000, .inl (MVPt v)), .inl (0, 6, .inl (MVSp v)), .inl (3, 600, .inl (MVBf v)), .inl (0, 150, .inl (MVSm v)), .inl (0, 40, .inl (MVOr v)), .inl (3, 240, .inl (MVOu v))]) ?_ rfl rfl rfl rfl
  refine go 5 X (pc2 := 7) (ls2 := [some (.ref 0), some (.int 0)]) (st2 := []) (AH2 := [.inr (9, [.ref 1, .ref 2, .ref 3, .ref 4, .int (MVPc v), .int (MVIs v), .int 0, .ref 5, .int (MVSl v), .ref 6, .int (MVLn v), .int (MVEc v), .int (MVEo v), .int (MVSa v), .int (MVEn v), .int (MVTk v), .int (MVVa v), .int (MVFa v), .int (MVFo v), .ref 7, .int (MVSc v), .ref 8, .ref 9, .int (MVOl v)]), .inl (0, 500, .inl (MVSt v)), .inl (0, 500, .inl (MVAs v)), .inl (0, 500, .inl (MVSv v)), .inl (0, 4000, .inl (MVPt v)), .inl (0, 6, .inl (MVSp v)), .inl (3, 600, .inl (MVBf v)), .inl (0, 150, .inl (MVSm v)), .inl (0, 40, .inl (MVOr v)), .inl (3, 240, .inl (MVOu v))]) rfl ?_
  exact AW.eq (a_X9_isConsistent_h7 X hR FU _ _ _ _ h) rfl rfl rfl rfl
set_option maxHeartbeats 400000 in
set_option maxRecDepth 20000 in
theorem c_X9_isOwner (v : MV) (a : Int32) (r : Int32) (h : f_X9_isOwner v a = some r) : Sem z_X9_isOwner 1 0 0 [.ref 0, .int a] (WM v) (PST (.inl (some (.int r))) (WM v)) := by
  refine Sem.of zo_X9_isOwner (by decide +kernel) (Nat.le_of_ble_eq_true rfl) fun κ X hE hR hN => ?_
  unfold f_X9_isOwner at h
  refine AW.eq (pc' := 0) (ls' := [some (.ref 0), some (.int a)]) (st' := []) (AH' := [.inr (9, [.ref 1, .ref 2, .ref 3, .ref 4, .int (MVPc v), .int (MVIs v), .int (MVTh v), .ref 5, .int (MVSl v), .ref 6, .int (MVLn v), .int (MVEc v), .int (MVEo v), .int (MVSa v), .int (MVEn v), .int (MVTk v), .int (MVVa v), .int (MVFa v), .int (MVFo v), .ref 7, .int (MVSc v), .ref 8, .ref 9, .int (MVOl v)]), .inl (0, 500, .inl (MVSt v)), .inl (0, 500, .inl (MVAs v)), .inl (0, 500, .inl (MVSv v)), .inl (0, 4000, .inl (MVPt v)), .inl (0, 6, .inl (MVSp v)), .inl (3, 600, .inl (MVBf v)), .inl (0, 150, .inl (MVSm v)), .inl (0, 40, .inl (MVOr v)), .inl (3, 240, .inl (MVOu v))]) ?_ rfl rfl rfl rfl
  refine go_s 6 X (pc2 := 8) (st2 := [.int 1, .ref 1, .long 0, .long (Int32.toInt64 a)]) rfl ?_
  by_cases b1 : oob 1 500
  · rw [if_pos b1] at h; cases h
  rw [if_neg b1] at h
  refine r_iald X rfl rfl b1 ?_
  refine go_s 3 X (pc2 := 12) (st2 := [.long (Int32.toInt64 (((MVSt v) (Int32.toNatClampNeg 1)) - 1)), .long 0, .long (Int32.toInt64 a)]) rfl ?_
  obtain ⟨r3, hq2, h⟩ := obind_inv h
  refine q_callS X [] [] (AH2 := [.inr (9, [.ref 1, .ref 2, .ref 3, .ref 4, .int (MVPc v), .int (MVIs v), .int (MVTh v), .ref 5, .int (MVSl v), .ref 6, .int (MVLn v), .int (MVEc v), .int (MVEo v), .int (MVSa v), .int (MVEn v), .int (MVTk v), .int (MVVa v), .int (MVFa v), .int (MVFo v), .ref 7, .int (MVSc v), .ref 8, .ref 9, .int (MVOl v)]), .inl (0, 500, .inl (MVSt v)), .inl (0, 500, .inl (MVAs v)), .inl (0, 500, .inl (MVSv v)), .inl (0, 4000, .inl (MVPt v)), .inl (0, 6, .inl (MVSp v)), .inl (3, 600, .inl (MVBf v)), .inl (0, 150, .inl (MVSm v)), .inl (0, 40, .inl (MVOr v)), .inl (3, 240, .inl (MVOu v))]) (st2 := [.int r3]) (c_X9_isWithin _ _ _ _ hq2) ⟨rfl, rfl⟩ rfl k_X9_isWithin l_X9_152 rfl rfl (fit_of hR (by decide) (by decide) (by decide) (by decide)) (Nat.le_of_ble_eq_true rfl) (by decide) rfl rfl rfl ?_
  by_cases b5 : ¬ (r3 = 0 ∨ r3 = 1)
  · rw [if_pos b5] at h; cases h
  rw [if_neg b5] at h
  cases h
  exact r_zret X (ty := .boolean) rfl rfl (nar_b b5) ⟨rfl, rfl⟩ (by decide) (by decide)
set_option maxHeartbeats 400000 in
set_option maxRecDepth 20000 in
theorem c_X9_isPaused (v : MV) (a : Int32) (r : Int32) (w : MV) (h : f_X9_isPaused v a = some (r, w)) : Sem z_X9_isPaused 3 0 0 [.ref 0, .int a] (WM v) (PST (.inl (some (.int r))) (WM w)) := by
  refine Sem.of zo_X9_isPaused (by decide +kernel) (Nat.le_of_ble_eq_true rfl) fun κ X hE hR hN => ?_
  unfold f_X9_isPaused at h
  refine AW.eq (pc' := 0) (ls' := [some (.ref 0), some (.int a)]) (st' := []) (AH' := [.inr (9, [.ref 1, .ref 2, .ref 3, .ref 4, .int (MVPc v), .int (MVIs v), .int (MVTh v), .ref 5, .int (MVSl v), .ref 6, .int (MVLn v), .int (MVEc v), .int (MVEo v), .int (MVSa v), .int (MVEn v), .int (MVTk v), .int (MVVa v), .int (MVFa v), .int (MVFo v), .ref 7, .int (MVSc v), .ref 8, .ref 9, .int (MVOl v)]), .inl (0, 500, .inl (MVSt v)), .inl (0, 500, .inl (MVAs v)), .inl (0, 500, .inl (MVSv v)), .inl (0, 4000, .inl (MVPt v)), .inl (0, 6, .inl (MVSp v)), .inl (3, 600, .inl (MVBf v)), .inl (0, 150, .inl (MVSm v)), .inl (0, 40, .inl (MVOr v)), .inl (3, 240, .inl (MVOu v))]) ?_ rfl rfl rfl rfl
  refine go_s 2 X (pc2 := 2) (st2 := [.int a, .ref 0]) rfl ?_
  obtain ⟨r2, w3, hq1, h⟩ := bnd2_inv h
  refine q_callV X [0, 1, 2, 3, 4, 5, 6, 7, 8, 9] [] (AH2 := [.inr (9, [.ref 1, .ref 2, .ref 3, .ref 4, .int (MVPc w3), .int (MVIs w3), .int (MVTh w3), .ref 5, .int (MVSl w3), .ref 6, .int (MVLn w3), .int (MVEc w3), .int (MVEo w3), .int (MVSa w3), .int (MVEn w3), .int (MVTk w3), .int (MVVa w3), .int (MVFa w3), .int (MVFo w3), .ref 7, .int (MVSc w3), .ref 8, .ref 9, .int (MVOl w3)]), .inl (0, 500, .inl (MVSt w3)), .inl (0, 500, .inl (MVAs w3)), .inl (0, 500, .inl (MVSv w3)), .inl (0, 4000, .inl (MVPt w3)), .inl (0, 6, .inl (MVSp w3)), .inl (3, 600, .inl (MVBf w3)), .inl (0, 150, .inl (MVSm w3)), .inl (0, 40, .inl (MVOr w3)), .inl (3, 240, .inl (MVOu w3))]) (st2 := [.int r2]) (c_X9_checkQueue _ _ _ _ hq1) ⟨rfl, rfl⟩ rfl k_X9_checkQueue l_X9_342 rfl rfl rfl rfl rfl (fit_of hR (by decide) (by decide) (by decide) (by decide)) (Nat.le_of_ble_eq_true rfl) (by decide) rfl rfl rfl ?_
  refine r_if_eq X 28 rfl rfl (fun c4 => ?_) (fun c4 => ?_)
  · rw [if_pos c4] at h
    refine go_s 1 X (pc2 := 29) (st2 := [.int 0]) rfl ?_
    cases h
    exact r_zret X (ty := .boolean) rfl rfl rfl ⟨rfl, rfl⟩ (by decide) (by decide)
  · rw [if_neg c4] at h
    refine go_s 3 X (pc2 := 13) (st2 := [.int a, .ref 1]) rfl ?_
    obtain ⟨r6, hq5, h⟩ := obind_inv h
    refine q_callS X [] [] (AH2 := [.inr (9, [.ref 1, .ref 2, .ref 3, .ref 4, .int (MVPc w3), .int (MVIs w3), .int (MVTh w3), .ref 5, .int (MVSl w3), .ref 6, .int (MVLn w3), .int (MVEc w3), .int (MVEo w3), .int (MVSa w3), .int (MVEn w3), .int (MVTk w3), .int (MVVa w3), .int (MVFa w3), .int (MVFo w3), .ref 7, .int (MVSc w3), .ref 8, .ref 9, .int (MVOl w3)]), .inl (0, 500, .inl (MVSt w3)), .inl (0, 500, .inl (MVAs w3)), .inl (0, 500, .inl (MVSv w3)), .inl (0, 4000, .inl (MVPt w3)), .inl (0, 6, .inl (MVSp w3)), .inl (3, 600, .inl (MVBf w3)), .inl (0, 150, .inl (MVSm w3)), .inl (0, 40, .inl (MVOr w3)), .inl (3, 240, .inl (MVOu w3))]) (st2 := [.int r6, .ref 1]) (c_X9_q _ _ hq5) ⟨rfl, rfl⟩ rfl k_X9_q l_X9_77 rfl rfl (fit_of hR (by decide) (by decide) (by decide) (by decide)) (Nat.le_of_ble_eq_true rfl) (by decide) rfl rfl rfl ?_
    refine go_s 2 X (pc2 := 19) (st2 := [.int (r6 + 8), .ref 1]) rfl ?_
    by_cases b8 : oob (r6 + 8) 500
    · rw [if_pos b8] at h; cases h
    rw [if_neg b8] at h
    refine r_iald X rfl rfl b8 ?_
    refine go_s 1 X (pc2 := 21) (st2 := [.int 1, .int ((MVSt w3) (Int32.toNatClampNeg (r6 + 8)))]) rfl ?_
    refine r_icmp_ne X 28 rfl rfl (fun c9 => ?_) (fun c9 => ?_)
    · rw [if_neg c9] at h
      refine go_s 1 X (pc2 := 29) (st2 := [.int 0]) rfl ?_
      cases h
      exact r_zret X (ty := .boolean) rfl rfl rfl ⟨rfl, rfl⟩ (by decide) (by decide)
    · rw [if_pos c9] at h
      refine go_s 2 X (pc2 := 29) (st2 := [.int 1]) rfl ?_
      cases h
      exact r_zret X (ty := .boolean) rfl rfl rfl ⟨rfl, rfl⟩ (by decide) (by decide)
set_option maxHeartbeats 400000 in
set_option maxRecDepth 20000 in
theorem c_X9_isPrinted (v : MV) (a : Int32) (r : Int32) (w : MV) (h : f_X9_isPrinted v a = some (r, w)) : Sem z_X9_isPrinted 3 0 0 [.ref 0, .int a] (WM v) (PST (.inl (some (.int r))) (WM w)) := by
  refine Sem.of zo_X9_isPrinted (by decide +kernel) (Nat.le_of_ble_eq_true rfl) fun κ X hE hR hN => ?_
  unfold f_X9_isPrinted at h
  refine AW.eq (pc' := 0) (ls' := [some (.ref 0), some (.int a)]) (st' := []) (AH' := [.inr (9, [.ref 1, .ref 2, .ref 3, .ref 4, .int (MVPc v), .int (MVIs v), .int (MVTh v), .ref 5, .int (MVSl v), .ref 6, .int (MVLn v), .int (MVEc v), .int (MVEo v), .int (MVSa v), .int (MVEn v), .int (MVTk v), .int (MVVa v), .int (MVFa v), .int (MVFo v), .ref 7, .int (MVSc v), .ref 8, .ref 9, .int (MVOl v)]), .inl (0, 500, .inl (MVSt v)), .inl (0, 500, .inl (MVAs v)), .inl (0, 500, .inl (MVSv v)), .inl (0, 4000, .inl (MVPt v)), .inl (0, 6, .inl (MVSp v)), .inl (3, 600, .inl (MVBf v)), .inl (0, 150, .inl (MVSm v)), .inl (0, 40, .inl (MVOr v)), .inl (3, 240, .inl (MVOu v))]) ?_ rfl rfl rfl rfl
  refine go_s 2 X (pc2 := 2) (st2 := [.int a, .ref 0]) rfl ?_
  obtain ⟨r2, w3, hq1, h⟩ := bnd2_inv h
  refine q_callV X [0, 1, 2, 3, 4, 5, 6, 7, 8, 9] [] (AH2 := [.inr (9, [.ref 1, .ref 2, .ref 3, .ref 4, .int (MVPc w3), .int (MVIs w3), .int (MVTh w3), .ref 5, .int (MVSl w3), .ref 6, .int (MVLn w3), .int (MVEc w3), .int (MVEo w3), .int (MVSa w3), .int (MVEn w3), .int (MVTk w3), .int (MVVa w3), .int (MVFa w3), .int (MVFo w3), .ref 7, .int (MVSc w3), .ref 8, .ref 9, .int (MVOl w3)]), .inl (0, 500, .inl (MVSt w3)), .inl (0, 500, .inl (MVAs w3)), .inl (0, 500, .inl (MVSv w3)), .inl (0, 4000, .inl (MVPt w3)), .inl (0, 6, .inl (MVSp w3)), .inl (3, 600, .inl (MVBf w3)), .inl (0, 150, .inl (MVSm w3)), .inl (0, 40, .inl (MVOr w3)), .inl (3, 240, .inl (MVOu w3))]) (st2 := [.int r2]) (c_X9_checkJob _ _ _ _ hq1) ⟨rfl, rfl⟩ rfl k_X9_checkJob l_X9_351 rfl rfl rfl rfl rfl (fit_of hR (by decide) (by decide) (by decide) (by decide)) (Nat.le_of_ble_eq_true rfl) (by decide) rfl rfl rfl ?_
  refine r_if_eq X 22 rfl rfl (fun c4 => ?_) (fun c4 => ?_)
  · rw [if_pos c4] at h
    refine go_s 1 X (pc2 := 23) (st2 := [.int 0]) rfl ?_
    cases h
    exact r_zret X (ty := .boolean) rfl rfl rfl ⟨rfl, rfl⟩ (by decide) (by decide)
  · rw [if_neg c4] at h
    refine go_s 3 X (pc2 := 11) (st2 := [.int 3, .int a, .ref 0]) rfl ?_
    obtain ⟨r6, hq5, h⟩ := obind_inv h
    refine q_callV X [0, 1, 2, 3, 4, 5, 6, 7, 8, 9] [] (AH2 := [.inr (9, [.ref 1, .ref 2, .ref 3, .ref 4, .int (MVPc w3), .int (MVIs w3), .int (MVTh w3), .ref 5, .int (MVSl w3), .ref 6, .int (MVLn w3), .int (MVEc w3), .int (MVEo w3), .int (MVSa w3), .int (MVEn w3), .int (MVTk w3), .int (MVVa w3), .int (MVFa w3), .int (MVFo w3), .ref 7, .int (MVSc w3), .ref 8, .ref 9, .int (MVOl w3)]), .inl (0, 500, .inl (MVSt w3)), .inl (0, 500, .inl (MVAs w3)), .inl (0, 500, .inl (MVSv w3)), .inl (0, 4000, .inl (MVPt w3)), .inl (0, 6, .inl (MVSp w3)), .inl (3, 600, .inl (MVBf w3)), .inl (0, 150, .inl (MVSm w3)), .inl (0, 40, .inl (MVOr w3)), .inl (3, 240, .inl (MVOu w3))]) (st2 := [.int r6]) (c_X9_get _ _ _ _ hq5) ⟨rfl, rfl⟩ rfl k_X9_get l_X9_90 rfl rfl rfl rfl rfl (fit_of hR (by decide) (by decide) (by decide) (by decide)) (Nat.le_of_ble_eq_true rfl) (by decide) rfl rfl rfl ?_
    refine go_s 1 X (pc2 := 15) (st2 := [.int 1, .int r6]) rfl ?_
    refine r_icmp_ne X 22 rfl rfl (fun c8 => ?_) (fun c8 => ?_)
    · rw [if_neg c8] at h
      refine go_s 1 X (pc2 := 23) (st2 := [.int 0]) rfl ?_
      cases h
      exact r_zret X (ty := .boolean) rfl rfl rfl ⟨rfl, rfl⟩ (by decide) (by decide)
    · rw [if_pos c8] at h
      refine go_s 2 X (pc2 := 23) (st2 := [.int 1]) rfl ?_
      cases h
      exact r_zret X (ty := .boolean) rfl rfl rfl ⟨rfl, rfl⟩ (by decide) (by decide)
set_option maxHeartbeats 400000 in
set_option maxRecDepth 20000 in
theorem a_X9_isSpelledAt_h21 {κ : KX} (X : CX κ z_X9_isSpelledAt) (hR : κR κ = rmM 0 0 0) : ∀ (n : Nat) (l1 : Int32) (l2 : Int32) (l3 : Int32) (v : MV) (r : Int32) (h : f_X9_isSpelledAt_h21 n l1 l2 l3 v = some r), AW κ (QM κ (PST (.inl (some (.int r))) (WM v)) 0 0) 21 [some (.ref 0), some (.int l1), some (.int l2), some (.int l3)] [] (WM v) 0 0 := by
  intro n
  induction n with
  | zero =>
    intro l1 l2 l3 v r h
    unfold f_X9_isSpelledAt_h21 at h
    cases h
  | succ n ih =>
    intro l1 l2 l3 v r h
    unfold f_X9_isSpelledAt_h21 at h
    refine AW.eq (pc' := 21) (ls' := [some (.ref 0), some (.int l1), some (.int l2), some (.int l3)]) (st' := []) (AH' := [.inr (9, [.ref 1, .ref 2, .ref 3, .ref 4, .int (MVPc v), .int (MVIs v), .int (MVTh v), .ref 5, .int (MVSl v), .ref 6, .int (MVLn v), .int (MVEc v), .int (MVEo v), .int (MVSa v), .int (MVEn v), .int (MVTk v), .int (MVVa v), .int (MVFa v), .int (MVFo v), .ref 7, .int (MVSc v), .ref 8, .ref 9, .int (MVOl v)]), .inl (0, 500, .inl (MVSt v)), .inl (0, 500, .inl (MVAs v)), .inl (0, 500, .inl (MVSv v)), .inl (0, 4000, .inl (MVPt v)), .inl (0, 6, .inl (MVSp v)), .inl (3, 600, .inl (MVBf v)), .inl (0, 150, .inl (MVSm v)), .inl (0, 40, .inl (MVOr v)), .inl (3, 240, .inl (MVOu v))]) ?_ rfl rfl rfl rfl
    refine go_s 3 X (pc2 := 26) (st2 := [.int (MVSl v), .int l3]) rfl ?_
    refine r_icmp_ge X 64 rfl rfl (fun c3 => ?_) (fun c3 => ?_)
    · rw [if_pos c3] at h
      refine go_s 1 X (pc2 := 65) (st2 := [.int l2]) rfl ?_
      by_cases b4 : ¬ (l2 = 0 ∨ l2 = 1)
      · rw [if_pos b4] at h; cases h
      rw [if_neg b4] at h
      cases h
      exact r_zret X (ty := .boolean) rfl rfl (nar_b b4) ⟨rfl, rfl⟩ (by decide) (by decide)
    · rw [if_neg c3] at h
      refine go_s 1 X (pc2 := 30) (st2 := [.int l2]) rfl ?_
      refine r_if_eq X 64 rfl rfl (fun c5 => ?_) (fun c5 => ?_)
      · rw [if_pos c5] at h
        refine go_s 1 X (pc2 := 65) (st2 := [.int l2]) rfl ?_
        by_cases b6 : ¬ (l2 = 0 ∨ l2 = 1)
        · rw [if_pos b6] at h; cases h
        rw [if_neg b6] at h
        cases h
        exact r_zret X (ty := .boolean) rfl rfl (nar_b b6) ⟨rfl, rfl⟩ (by decide) (by decide)
      · rw [if_neg c5] at h
        refine go_s 7 X (pc2 := 42) (st2 := [.int ((l1 + 1) + l3), .ref 1]) rfl ?_
        by_cases b7 : oob ((l1 + 1) + l3) 500
        · rw [if_pos b7] at h; cases h
        rw [if_neg b7] at h
        refine r_iald X rfl rfl b7 ?_
        refine go_s 3 X (pc2 := 48) (st2 := [.int l3, .ref 5, .int ((MVSt v) (Int32.toNatClampNeg ((l1 + 1) + l3)))]) rfl ?_
        by_cases b8 : oob l3 6
        · rw [if_pos b8] at h; cases h
        rw [if_neg b8] at h
        refine r_iald X rfl rfl b8 ?_
        refine r_icmp_ne X 56 rfl rfl (fun c9 => ?_) (fun c9 => ?_)
        · rw [if_neg c9] at h
          refine go_l 4 X (pc2 := 21) (ls2 := [some (.ref 0), some (.int l1), some (.int 0), some (.int (l3 + 1))]) (st2 := []) rfl ?_
          exact AW.eq (ih _ _ _ _ _ h) rfl rfl rfl rfl
        · rw [if_pos c9] at h
          refine go_l 5 X (pc2 := 21) (ls2 := [some (.ref 0), some (.int l1), some (.int 1), some (.int (l3 + 1))]) (st2 := []) rfl ?_
          exact AW.eq (ih _ _ _ _ _ h) rfl rfl rfl rfl
set_option maxHeartbeats 400000 in
set_option maxRecDepth 20000 in
theorem c_X9_isSpelledAt (v : MV) (a : Int32) (r : Int32) (h : f_X9_isSpelledAt v a = some r) : Sem z_X9_isSpelledAt 0 0 0 [.ref 0, .int a] (WM v) (PST (.inl (some (.int r))) (WM v)) := by
  refine Sem.of zo_X9_isSpelledAt (by decide +kernel) (Nat.le_of_ble_eq_true rfl) fun κ X hE hR hN => ?_
  unfold f_X9_isSpelledAt at h
  refine AW.eq (pc' := 0) (ls' := [some (.ref 0), some (.int a), none, none]) (st' := []) (AH' := [.inr (9, [.ref 1, .ref 2, .ref 3, .ref 4, .int (MVPc v), .int (MVIs v), .int (MVTh v), .ref 5, .int (MVSl v), .ref 6, .int (MVLn v), .int (MVEc v), .int (MVEo v), .int (MVSa v), .int (MVEn v), .int (MVTk v), .int (MVVa v), .int (MVFa v), .int (MVFo v), .ref 7, .int (MVSc v), .ref 8, .ref 9, .int (MVOl v)]), .inl (0, 500, .inl (MVSt v)), .inl (0, 500, .inl (MVAs v)), .inl (0, 500, .inl (MVSv v)), .inl (0, 4000, .inl (MVPt v)), .inl (0, 6, .inl (MVSp v)), .inl (3, 600, .inl (MVBf v)), .inl (0, 150, .inl (MVSm v)), .inl (0, 40, .inl (MVOr v)), .inl (3, 240, .inl (MVOu v))]) ?_ rfl rfl rfl rfl
  refine go_s 3 X (pc2 := 5) (st2 := [.int a, .ref 1]) rfl ?_
  by_cases b1 : oob a 500
  · rw [if_pos b1] at h; cases h
  rw [if_neg b1] at h
  refine r_iald X rfl rfl b1 ?_
  refine go_s 2 X (pc2 := 10) (st2 := [.int (MVSl v), .int ((MVSt v) (Int32.toNatClampNeg a))]) rfl ?_
  refine r_icmp_ne X 17 rfl rfl (fun c2 => ?_) (fun c2 => ?_)
  · rw [if_neg c2] at h
    refine go_l 4 X (pc2 := 21) (ls2 := [some (.ref 0), some (.int a), some (.int 0), some (.int 0)]) (st2 := []) rfl ?_
    exact AW.eq (a_X9_isSpelledAt_h21 X hR FU _ _ _ _ _ h) rfl rfl rfl rfl
  · rw [if_pos c2] at h
    refine go_l 5 X (pc2 := 21) (ls2 := [some (.ref 0), some (.int a), some (.int 1), some (.int 0)]) (st2 := []) rfl ?_
    exact AW.eq (a_X9_isSpelledAt_h21 X hR FU _ _ _ _ _ h) rfl rfl rfl rfl
set_option maxHeartbeats 400000 in
set_option maxRecDepth 20000 in
theorem c_X9_isWaiting (v : MV) (a : Int32) (r : Int32) (w : MV) (h : f_X9_isWaiting v a = some (r, w)) : Sem z_X9_isWaiting 3 0 0 [.ref 0, .int a] (WM v) (PST (.inl (some (.int r))) (WM w)) := by
  refine Sem.of zo_X9_isWaiting (by decide +kernel) (Nat.le_of_ble_eq_true rfl) fun κ X hE hR hN => ?_
  unfold f_X9_isWaiting at h
  refine AW.eq (pc' := 0) (ls' := [some (.ref 0), some (.int a)]) (st' := []) (AH' := [.inr (9, [.ref 1, .ref 2, .ref 3, .ref 4, .int (MVPc v), .int (MVIs v), .int (MVTh v), .ref 5, .int (MVSl v), .ref 6, .int (MVLn v), .int (MVEc v), .int (MVEo v), .int (MVSa v), .int (MVEn v), .int (MVTk v), .int (MVVa v), .int (MVFa v), .int (MVFo v), .ref 7, .int (MVSc v), .ref 8, .ref 9, .int (MVOl v)]), .inl (0, 500, .inl (MVSt v)), .inl (0, 500, .inl (MVAs v)), .inl (0, 500, .inl (MVSv v)), .inl (0, 4000, .inl (MVPt v)), .inl (0, 6, .inl (MVSp v)), .inl (3, 600, .inl (MVBf v)), .inl (0, 150, .inl (MVSm v)), .inl (0, 40, .inl (MVOr v)), .inl (3, 240, .inl (MVOu v))]) ?_ rfl rfl rfl rfl
  refine go_s 2 X (pc2 := 2) (st2 := [.int a, .ref 0]) rfl ?_
  obtain ⟨r2, w3, hq1, h⟩ := bnd2_inv h
  refine q_callV X [0, 1, 2, 3, 4, 5, 6, 7, 8, 9] [] (AH2 := [.inr (9, [.ref 1, .ref 2, .ref 3, .ref 4, .int (MVPc w3), .int (MVIs w3), .int (MVTh w3), .ref 5, .int (MVSl w3), .ref 6, .int (MVLn w3), .int (MVEc w3), .int (MVEo w3), .int (MVSa w3), .int (MVEn w3), .int (MVTk w3), .int (MVVa w3), .int (MVFa w3), .int (MVFo w3), .ref 7, .int (MVSc w3), .ref 8, .ref 9, .int (MVOl w3)]), .inl (0, 500, .inl (MVSt w3)), .inl (0, 500, .inl (MVAs w3)), .inl (0, 500, .inl (MVSv w3)), .inl (0, 4000, .inl (MVPt w3)), .inl (0, 6, .inl (MVSp w3)), .inl (3, 600, .inl (MVBf w3)), .inl (0, 150, .inl (MVSm w3)), .inl (0, 40, .inl (MVOr w3)), .inl (3, 240, .inl (MVOu w3))]) (st2 := [.int r2]) (c_X9_checkJob _ _ _ _ hq1) ⟨rfl, rfl⟩ rfl k_X9_checkJob l_X9_351 rfl rfl rfl rfl rfl (fit_of hR (by decide) (by decide) (by decide) (by decide)) (Nat.le_of_ble_eq_true rfl) (by decide) rfl rfl rfl ?_
  refine r_if_eq X 21 rfl rfl (fun c4 => ?_) (fun c4 => ?_)
  · rw [if_pos c4] at h
    refine go_s 1 X (pc2 := 22) (st2 := [.int 0]) rfl ?_
    cases h
    exact r_zret X (ty := .boolean) rfl rfl rfl ⟨rfl, rfl⟩ (by decide) (by decide)
  · rw [if_neg c4] at h
    refine go_s 3 X (pc2 := 11) (st2 := [.int 3, .int a, .ref 0]) rfl ?_
    obtain ⟨r6, hq5, h⟩ := obind_inv h
    refine q_callV X [0, 1, 2, 3, 4, 5, 6, 7, 8, 9] [] (AH2 := [.inr (9, [.ref 1, .ref 2, .ref 3, .ref 4, .int (MVPc w3), .int (MVIs w3), .int (MVTh w3), .ref 5, .int (MVSl w3), .ref 6, .int (MVLn w3), .int (MVEc w3), .int (MVEo w3), .int (MVSa w3), .int (MVEn w3), .int (MVTk w3), .int (MVVa w3), .int (MVFa w3), .int (MVFo w3), .ref 7, .int (MVSc w3), .ref 8, .ref 9, .int (MVOl w3)]), .inl (0, 500, .inl (MVSt w3)), .inl (0, 500, .inl (MVAs w3)), .inl (0, 500, .inl (MVSv w3)), .inl (0, 4000, .inl (MVPt w3)), .inl (0, 6, .inl (MVSp w3)), .inl (3, 600, .inl (MVBf w3)), .inl (0, 150, .inl (MVSm w3)), .inl (0, 40, .inl (MVOr w3)), .inl (3, 240, .inl (MVOu w3))]) (st2 := [.int r6]) (c_X9_get _ _ _ _ hq5) ⟨rfl, rfl⟩ rfl k_X9_get l_X9_90 rfl rfl rfl rfl rfl (fit_of hR (by decide) (by decide) (by decide) (by decide)) (Nat.le_of_ble_eq_true rfl) (by decide) rfl rfl rfl ?_
    refine r_if_ne X 21 rfl rfl (fun c8 => ?_) (fun c8 => ?_)
    · rw [if_neg c8] at h
      refine go_s 1 X (pc2 := 22) (st2 := [.int 0]) rfl ?_
      cases h
      exact r_zret X (ty := .boolean) rfl rfl rfl ⟨rfl, rfl⟩ (by decide) (by decide)
    · rw [if_pos c8] at h
      refine go_s 2 X (pc2 := 22) (st2 := [.int 1]) rfl ?_
      cases h
      exact r_zret X (ty := .boolean) rfl rfl rfl ⟨rfl, rfl⟩ (by decide) (by decide)
set_option maxHeartbeats 400000 in
set_option maxRecDepth 20000 in
theorem a_X9_isWord_h35 {κ : KX} (X : CX κ z_X9_isWord) (hR : κR κ = rmM 7 0 0) (a : Nat) (hs_a : a < nStr) : ∀ (n : Nat) (l2 : Int32) (v : MV) (r : Int32) (h : f_X9_isWord_h35 a n l2 v = some r), AW κ (QM κ (PST (.inl (some (.int r))) (WM v)) 0 0) 35 [some (.ref 0), some (.ref (SB + a)), some (.int l2)] [] (WM v) 0 0 := by
  intro n
  induction n with
  | zero =>
    intro l2 v r h
    unfold f_X9_isWord_h35 at h
    cases h
  | succ n ih =>
    intro l2 v r h
    unfold f_X9_isWord_h35 at h
    refine AW.eq (pc' := 35) (ls' := [some (.ref 0), some (.ref (SB + a)), some (.int l2)]) (st' := []) (AH' := [.inr (9, [.ref 1, .ref 2, .ref 3, .ref 4, .int (MVPc v), .int (MVIs v), .int (MVTh v), .ref 5, .int (MVSl v), .ref 6, .int (MVLn v), .int (MVEc v), .int (MVEo v), .int (MVSa v), .int (MVEn v), .int (MVTk v), .int (MVVa v), .int (MVFa v), .int (MVFo v), .ref 7, .int (MVSc v), .ref 8, .ref 9, .int (MVOl v)]), .inl (0, 500, .inl (MVSt v)), .inl (0, 500, .inl (MVAs v)), .inl (0, 500, .inl (MVSv v)), .inl (0, 4000, .inl (MVPt v)), .inl (0, 6, .inl (MVSp v)), .inl (3, 600, .inl (MVBf v)), .inl (0, 150, .inl (MVSm v)), .inl (0, 40, .inl (MVOr v)), .inl (3, 240, .inl (MVOu v))]) ?_ rfl rfl rfl rfl
    refine go_s 2 X (pc2 := 37) (st2 := [.ref (SB + a), .int l2]) rfl ?_
    refine r_slen X (i := a) rfl (by decide +kernel) hs_a hR (by decide) (by decide) (by decide) (Nat.le_of_ble_eq_true rfl) ?_
    refine r_icmp_ge X 70 rfl rfl (fun c4 => ?_) (fun c4 => ?_)
    · rw [if_pos c4] at h
      refine go_s 1 X (pc2 := 71) (st2 := [.int 1]) rfl ?_
      cases h
      exact r_zret X (ty := .boolean) rfl rfl rfl ⟨rfl, rfl⟩ (by decide) (by decide)
    · rw [if_neg c4] at h
      refine go_s 6 X (pc2 := 53) (st2 := [.int ((MVSa v) + l2), .ref 6]) rfl ?_
      by_cases b5 : oob ((MVSa v) + l2) 600
      · rw [if_pos b5] at h; cases h
      rw [if_neg b5] at h
      refine r_bald X rfl rfl b5 ?_
      refine go_s 2 X (pc2 := 56) (st2 := [.int l2, .ref (SB + a), .int ((MVBf v) (Int32.toNatClampNeg ((MVSa v) + l2)))]) rfl ?_
      by_cases b6 : oob l2 (lenS.getD a 0)
      · rw [if_pos b6] at h; cases h
      rw [if_neg b6] at h
      refine r_schar X (i := a) rfl (by decide +kernel) hs_a hR (by decide) (by decide) (by decide) (Nat.le_of_ble_eq_true rfl) b6 ?_
      refine r_icmp_eq X 64 rfl rfl (fun c7 => ?_) (fun c7 => ?_)
      · rw [if_pos c7] at h
        refine go_l 2 X (pc2 := 35) (ls2 := [some (.ref 0), some (.ref (SB + a)), some (.int (l2 + 1))]) (st2 := []) rfl ?_
        exact AW.eq (ih _ _ _ h) rfl rfl rfl rfl
      · rw [if_neg c7] at h
        refine go_s 1 X (pc2 := 63) (st2 := [.int 0]) rfl ?_
        cases h
        exact r_zret X (ty := .boolean) rfl rfl rfl ⟨rfl, rfl⟩ (by decide) (by decide)
set_option maxHeartbeats 400000 in
set_option maxRecDepth 20000 in
theorem c_X9_isWord (v : MV) (a : Nat) (r : Int32) (h : f_X9_isWord v a = some r) (hs_a : a < nStr) : Sem z_X9_isWord 7 0 0 [.ref 0, .ref (SB + a)] (WM v) (PST (.inl (some (.int r))) (WM v)) := by
  refine Sem.of zo_X9_isWord (by decide +kernel) (Nat.le_of_ble_eq_true rfl) fun κ X hE hR hN => ?_
  unfold f_X9_isWord at h
  refine AW.eq (pc' := 0) (ls' := [some (.ref 0), some (.ref (SB + a)), none]) (st' := []) (AH' := [.inr (9, [.ref 1, .ref 2, .ref 3, .ref 4, .int (MVPc v), .int (MVIs v), .int (MVTh v), .ref 5, .int (MVSl v), .ref 6, .int (MVLn v), .int (MVEc v), .int (MVEo v), .int (MVSa v), .int (MVEn v), .int (MVTk v), .int (MVVa v), .int (MVFa v), .int (MVFo v), .ref 7, .int (MVSc v), .ref 8, .ref 9, .int (MVOl v)]), .inl (0, 500, .inl (MVSt v)), .inl (0, 500, .inl (MVAs v)), .inl (0, 500, .inl (MVSv v)), .inl (0, 4000, .inl (MVPt v)), .inl (0, 6, .inl (MVSp v)), .inl (3, 600, .inl (MVBf v)), .inl (0, 150, .inl (MVSm v)), .inl (0, 40, .inl (MVOr v)), .inl (3, 240, .inl (MVOu v))]) ?_ rfl rfl rfl rfl
  refine go_s 2 X (pc2 := 4) (st2 := [.int (MVFa v)]) rfl ?_
  refine r_if_gt X 31 rfl rfl (fun c1 => ?_) (fun c1 => ?_)
  · rw [if_pos c1] at h
    refine go_s 1 X (pc2 := 32) (st2 := [.int 0]) rfl ?_
    cases h
    exact r_zret X (ty := .boolean) rfl rfl rfl ⟨rfl, rfl⟩ (by decide) (by decide)
  · rw [if_neg c1] at h
    refine go_s 3 X (pc2 := 12) (st2 := [.int 1, .int (MVTk v)]) rfl ?_
    refine r_icmp_ne X 31 rfl rfl (fun c2 => ?_) (fun c2 => ?_)
    · rw [if_neg c2] at h
      refine go_s 1 X (pc2 := 32) (st2 := [.int 0]) rfl ?_
      cases h
      exact r_zret X (ty := .boolean) rfl rfl rfl ⟨rfl, rfl⟩ (by decide) (by decide)
    · rw [if_pos c2] at h
      refine go_s 6 X (pc2 := 25) (st2 := [.ref (SB + a), .int ((MVEn v) - (MVSa v))]) rfl ?_
      refine r_slen X (i := a) rfl (by decide +kernel) hs_a hR (by decide) (by decide) (by decide) (Nat.le_of_ble_eq_true rfl) ?_
      refine r_icmp_eq X 33 rfl rfl (fun c3 => ?_) (fun c3 => ?_)
      · rw [if_pos c3] at h
        refine go_l 2 X (pc2 := 35) (ls2 := [some (.ref 0), some (.ref (SB + a)), some (.int 0)]) (st2 := []) rfl ?_
        exact AW.eq (a_X9_isWord_h35 X hR a hs_a FU _ _ _ h) rfl rfl rfl rfl
      · rw [if_neg c3] at h
        refine go_s 1 X (pc2 := 32) (st2 := [.int 0]) rfl ?_
        cases h
        exact r_zret X (ty := .boolean) rfl rfl rfl ⟨rfl, rfl⟩ (by decide) (by decide)
set_option maxHeartbeats 400000 in
set_option maxRecDepth 20000 in
theorem c_X9_jobAt (v : MV) (a : Int32) (b : Int32) (r : Int32) (w : MV) (h : f_X9_jobAt v a b = some (r, w)) : Sem z_X9_jobAt 6 0 0 [.ref 0, .int a, .int b] (WM v) (PST (.inl (some (.int r))) (WM w)) := by
  refine Sem.of zo_X9_jobAt (by decide +kernel) (Nat.le_of_ble_eq_true rfl) fun κ X hE hR hN => ?_
  unfold f_X9_jobAt at h
  refine AW.eq (pc' := 0) (ls' := [some (.ref 0), some (.int a), some (.int b)]) (st' := []) (AH' := [.inr (9, [.ref 1, .ref 2, .ref 3, .ref 4, .int (MVPc v), .int (MVIs v), .int (MVTh v), .ref 5, .int (MVSl v), .ref 6, .int (MVLn v), .int (MVEc v), .int (MVEo v), .int (MVSa v), .int (MVEn v), .int (MVTk v), .int (MVVa v), .int (MVFa v), .int (MVFo v), .ref 7, .int (MVSc v), .ref 8, .ref 9, .int (MVOl v)]), .inl (0, 500, .inl (MVSt v)), .inl (0, 500, .inl (MVAs v)), .inl (0, 500, .inl (MVSv v)), .inl (0, 4000, .inl (MVPt v)), .inl (0, 6, .inl (MVSp v)), .inl (3, 600, .inl (MVBf v)), .inl (0, 150, .inl (MVSm v)), .inl (0, 40, .inl (MVOr v)), .inl (3, 240, .inl (MVOu v))]) ?_ rfl rfl rfl rfl
  refine go_s 2 X (pc2 := 2) (st2 := [.int a, .ref 0]) rfl ?_
  obtain ⟨r2, w3, hq1, h⟩ := bnd2_inv h
  refine q_callV X [0, 1, 2, 3, 4, 5, 6, 7, 8, 9] [] (AH2 := [.inr (9, [.ref 1, .ref 2, .ref 3, .ref 4, .int (MVPc w3), .int (MVIs w3), .int (MVTh w3), .ref 5, .int (MVSl w3), .ref 6, .int (MVLn w3), .int (MVEc w3), .int (MVEo w3), .int (MVSa w3), .int (MVEn w3), .int (MVTk w3), .int (MVVa w3), .int (MVFa w3), .int (MVFo w3), .ref 7, .int (MVSc w3), .ref 8, .ref 9, .int (MVOl w3)]), .inl (0, 500, .inl (MVSt w3)), .inl (0, 500, .inl (MVAs w3)), .inl (0, 500, .inl (MVSv w3)), .inl (0, 4000, .inl (MVPt w3)), .inl (0, 6, .inl (MVSp w3)), .inl (3, 600, .inl (MVBf w3)), .inl (0, 150, .inl (MVSm w3)), .inl (0, 40, .inl (MVOr w3)), .inl (3, 240, .inl (MVOu w3))]) (st2 := [.int r2]) (c_X9_checkQueue _ _ _ _ hq1) ⟨rfl, rfl⟩ rfl k_X9_checkQueue l_X9_342 rfl rfl rfl rfl rfl (fit_of hR (by decide) (by decide) (by decide) (by decide)) (Nat.le_of_ble_eq_true rfl) (by decide) rfl rfl rfl ?_
  refine r_if_eq X 17 rfl rfl (fun c4 => ?_) (fun c4 => ?_)
  · rw [if_pos c4] at h
    refine go_s 1 X (pc2 := 18) (st2 := [.int 0]) rfl ?_
    cases h
    exact r_iret X rfl rfl ⟨rfl, rfl⟩ (by decide) (by decide)
  · rw [if_neg c4] at h
    refine go_s 3 X (pc2 := 11) (st2 := [.int b, .int a, .ref 0]) rfl ?_
    obtain ⟨r6, hq5, h⟩ := obind_inv h
    refine q_callV X [0, 1, 2, 3, 4, 5, 6, 7, 8, 9] [] (AH2 := [.inr (9, [.ref 1, .ref 2, .ref 3, .ref 4, .int (MVPc w3), .int (MVIs w3), .int (MVTh w3), .ref 5, .int (MVSl w3), .ref 6, .int (MVLn w3), .int (MVEc w3), .int (MVEo w3), .int (MVSa w3), .int (MVEn w3), .int (MVTk w3), .int (MVVa w3), .int (MVFa w3), .int (MVFo w3), .ref 7, .int (MVSc w3), .ref 8, .ref 9, .int (MVOl w3)]), .inl (0, 500, .inl (MVSt w3)), .inl (0, 500, .inl (MVAs w3)), .inl (0, 500, .inl (MVSv w3)), .inl (0, 4000, .inl (MVPt w3)), .inl (0, 6, .inl (MVSp w3)), .inl (3, 600, .inl (MVBf w3)), .inl (0, 150, .inl (MVSm w3)), .inl (0, 40, .inl (MVOr w3)), .inl (3, 240, .inl (MVOu w3))]) (st2 := [.int r6]) (c_X9_jobIn _ _ _ _ hq5) ⟨rfl, rfl⟩ rfl k_X9_jobIn l_X9_363 rfl rfl rfl rfl rfl (fit_of hR (by decide) (by decide) (by decide) (by decide)) (Nat.le_of_ble_eq_true rfl) (by decide) rfl rfl rfl ?_
    refine go_s 1 X (pc2 := 18) (st2 := [.int r6]) rfl ?_
    cases h
    exact r_iret X rfl rfl ⟨rfl, rfl⟩ (by decide) (by decide)
set_option maxHeartbeats 400000 in
set_option maxRecDepth 20000 in
theorem c_X9_jobCount (v : MV) (r : Int32) (w : MV) (h : f_X9_jobCount v = some (r, w)) : Sem z_X9_jobCount 1 0 0 [.ref 0] (WM v) (PST (.inl (some (.int r))) (WM w)) := by
  refine Sem.of zo_X9_jobCount (by decide +kernel) (Nat.le_of_ble_eq_true rfl) fun κ X hE hR hN => ?_
  unfold f_X9_jobCount at h
  refine AW.eq (pc' := 0) (ls' := [some (.ref 0)]) (st' := []) (AH' := [.inr (9, [.ref 1, .ref 2, .ref 3, .ref 4, .int (MVPc v), .int (MVIs v), .int (MVTh v), .ref 5, .int (MVSl v), .ref 6, .int (MVLn v), .int (MVEc v), .int (MVEo v), .int (MVSa v), .int (MVEn v), .int (MVTk v), .int (MVVa v), .int (MVFa v), .int (MVFo v), .ref 7, .int (MVSc v), .ref 8, .ref 9, .int (MVOl v)]), .inl (0, 500, .inl (MVSt v)), .inl (0, 500, .inl (MVAs v)), .inl (0, 500, .inl (MVSv v)), .inl (0, 4000, .inl (MVPt v)), .inl (0, 6, .inl (MVSp v)), .inl (3, 600, .inl (MVBf v)), .inl (0, 150, .inl (MVSm v)), .inl (0, 40, .inl (MVOr v)), .inl (3, 240, .inl (MVOu v))]) ?_ rfl rfl rfl rfl
  refine go_s 2 X (pc2 := 2) (st2 := [.int 2, .ref 0]) rfl ?_
  obtain ⟨r2, w3, hq1, h⟩ := bnd2_inv h
  refine q_callV X [0, 1, 2, 3, 4, 5, 6, 7, 8, 9] [] (AH2 := [.inr (9, [.ref 1, .ref 2, .ref 3, .ref 4, .int (MVPc w3), .int (MVIs w3), .int (MVTh w3), .ref 5, .int (MVSl w3), .ref 6, .int (MVLn w3), .int (MVEc w3), .int (MVEo w3), .int (MVSa w3), .int (MVEn w3), .int (MVTk w3), .int (MVVa w3), .int (MVFa w3), .int (MVFo w3), .ref 7, .int (MVSc w3), .ref 8, .ref 9, .int (MVOl w3)]), .inl (0, 500, .inl (MVSt w3)), .inl (0, 500, .inl (MVAs w3)), .inl (0, 500, .inl (MVSv w3)), .inl (0, 4000, .inl (MVPt w3)), .inl (0, 6, .inl (MVSp w3)), .inl (3, 600, .inl (MVBf w3)), .inl (0, 150, .inl (MVSm w3)), .inl (0, 40, .inl (MVOr w3)), .inl (3, 240, .inl (MVOu w3))]) (st2 := [.int r2]) (c_X9_numberOf _ _ _ _ hq1) ⟨rfl, rfl⟩ rfl k_X9_numberOf l_X9_339 rfl rfl rfl rfl rfl (fit_of hR (by decide) (by decide) (by decide) (by decide)) (Nat.le_of_ble_eq_true rfl) (by decide) rfl rfl rfl ?_
  cases h
  exact r_iret X rfl rfl ⟨rfl, rfl⟩ (by decide) (by decide)
set_option maxHeartbeats 400000 in
set_option maxRecDepth 20000 in
theorem a_X9_pagesIn_h4 {κ : KX} (X : CX κ z_X9_pagesIn) (hR : κR κ = rmM 4 0 0) : ∀ (n : Nat) (l1 : Int32) (l2 : Int32) (l3 : Int32) (v : MV) (r : Int32) (h : f_X9_pagesIn_h4 n l1 l2 l3 v = some r), AW κ (QM κ (PST (.inl (some (.int r))) (WM v)) 0 0) 4 [some (.ref 0), some (.int l1), some (.int l2), some (.int l3)] [] (WM v) 0 0 := by
  intro n
  induction n with
  | zero =>
    intro l1 l2 l3 v r h
    unfold f_X9_pagesIn_h4 at h
    cases h
  | succ n ih =>
    intro l1 l2 l3 v r h
    unfold f_X9_pagesIn_h4 at h
    refine AW.eq (pc' := 4) (ls' := [some (.ref 0), some (.int l1), some (.int l2), some (.int l3)]) (st' := []) (AH' := [.inr (9, [.ref 1, .ref 2, .ref 3, .ref 4, .int (MVPc v), .int (MVIs v), .int (MVTh v), .ref 5, .int (MVSl v), .ref 6, .int (MVLn v), .int (MVEc v), .int (MVEo v), .int (MVSa v), .int (MVEn v), .int (MVTk v), .int (MVVa v), .int (MVFa v), .int (MVFo v), .ref 7, .int (MVSc v), .ref 8, .ref 9, .int (MVOl v)]), .inl (0, 500, .inl (MVSt v)), .inl (0, 500, .inl (MVAs v)), .inl (0, 500, .inl (MVSv v)), .inl (0, 4000, .inl (MVPt v)), .inl (0, 6, .inl (MVSp v)), .inl (3, 600, .inl (MVBf v)), .inl (0, 150, .inl (MVSm v)), .inl (0, 40, .inl (MVOr v)), .inl (3, 240, .inl (MVOu v))]) ?_ rfl rfl rfl rfl
    refine go_s 4 X (pc2 := 10) (st2 := [.int 2, .ref 1, .int l3]) rfl ?_
    by_cases b1 : oob 2 500
    · rw [if_pos b1] at h; cases h
    rw [if_neg b1] at h
    refine r_iald X rfl rfl b1 ?_
    refine r_icmp_ge X 42 rfl rfl (fun c2 => ?_) (fun c2 => ?_)
    · rw [if_pos c2] at h
      refine go_s 1 X (pc2 := 43) (st2 := [.int l2]) rfl ?_
      cases h
      exact r_iret X rfl rfl ⟨rfl, rfl⟩ (by decide) (by decide)
    · rw [if_neg c2] at h
      refine go_s 4 X (pc2 := 18) (st2 := [.int l1, .int l3, .ref 0, .int l2]) rfl ?_
      obtain ⟨r4, hq3, h⟩ := obind_inv h
      refine q_callV X [0, 1, 2, 3, 4, 5, 6, 7, 8, 9] [] (AH2 := [.inr (9, [.ref 1, .ref 2, .ref 3, .ref 4, .int (MVPc v), .int (MVIs v), .int (MVTh v), .ref 5, .int (MVSl v), .ref 6, .int (MVLn v), .int (MVEc v), .int (MVEo v), .int (MVSa v), .int (MVEn v), .int (MVTk v), .int (MVVa v), .int (MVFa v), .int (MVFo v), .ref 7, .int (MVSc v), .ref 8, .ref 9, .int (MVOl v)]), .inl (0, 500, .inl (MVSt v)), .inl (0, 500, .inl (MVAs v)), .inl (0, 500, .inl (MVSv v)), .inl (0, 4000, .inl (MVPt v)), .inl (0, 6, .inl (MVSp v)), .inl (3, 600, .inl (MVBf v)), .inl (0, 150, .inl (MVSm v)), .inl (0, 40, .inl (MVOr v)), .inl (3, 240, .inl (MVOu v))]) (st2 := [.int r4, .int l2]) (c_X9_isIn _ _ _ _ hq3) ⟨rfl, rfl⟩ rfl k_X9_isIn l_X9_133 rfl rfl rfl rfl rfl (fit_of hR (by decide) (by decide) (by decide) (by decide)) (Nat.le_of_ble_eq_true rfl) (by decide) rfl rfl rfl ?_
      refine r_if_eq X 33 rfl rfl (fun c6 => ?_) (fun c6 => ?_)
      · rw [if_pos c6] at h
        refine go_l 5 X (pc2 := 4) (ls2 := [some (.ref 0), some (.int l1), some (.int (l2 + 0)), some (.int (l3 + 1))]) (st2 := []) rfl ?_
        exact AW.eq (ih _ _ _ _ _ h) rfl rfl rfl rfl
      · rw [if_neg c6] at h
        refine go_s 3 X (pc2 := 27) (st2 := [.int 2, .int l3, .ref 0, .int l2]) rfl ?_
        obtain ⟨r8, hq7, h⟩ := obind_inv h
        refine q_callV X [0, 1, 2, 3, 4, 5, 6, 7, 8, 9] [] (AH2 := [.inr (9, [.ref 1, .ref 2, .ref 3, .ref 4, .int (MVPc v), .int (MVIs v), .int (MVTh v), .ref 5, .int (MVSl v), .ref 6, .int (MVLn v), .int (MVEc v), .int (MVEo v), .int (MVSa v), .int (MVEn v), .int (MVTk v), .int (MVVa v), .int (MVFa v), .int (MVFo v), .ref 7, .int (MVSc v), .ref 8, .ref 9, .int (MVOl v)]), .inl (0, 500, .inl (MVSt v)), .inl (0, 500, .inl (MVAs v)), .inl (0, 500, .inl (MVSv v)), .inl (0, 4000, .inl (MVPt v)), .inl (0, 6, .inl (MVSp v)), .inl (3, 600, .inl (MVBf v)), .inl (0, 150, .inl (MVSm v)), .inl (0, 40, .inl (MVOr v)), .inl (3, 240, .inl (MVOu v))]) (st2 := [.int r8, .int l2]) (c_X9_get _ _ _ _ hq7) ⟨rfl, rfl⟩ rfl k_X9_get l_X9_90 rfl rfl rfl rfl rfl (fit_of hR (by decide) (by decide) (by decide) (by decide)) (Nat.le_of_ble_eq_true rfl) (by decide) rfl rfl rfl ?_
        refine go_l 5 X (pc2 := 4) (ls2 := [some (.ref 0), some (.int l1), some (.int (l2 + r8)), some (.int (l3 + 1))]) (st2 := []) rfl ?_
        exact AW.eq (ih _ _ _ _ _ h) rfl rfl rfl rfl
set_option maxHeartbeats 400000 in
set_option maxRecDepth 20000 in
theorem c_X9_pagesIn (v : MV) (a : Int32) (r : Int32) (h : f_X9_pagesIn v a = some r) : Sem z_X9_pagesIn 4 0 0 [.ref 0, .int a] (WM v) (PST (.inl (some (.int r))) (WM v)) := by
  refine Sem.of zo_X9_pagesIn (by decide +kernel) (Nat.le_of_ble_eq_true rfl) fun κ X hE hR hN => ?_
  unfold f_X9_pagesIn at h
  refine AW.eq (pc' := 0) (ls' := [some (.ref 0), some (.int a), none, none]) (st' := []) (AH' := [.inr (9, [.ref 1, .ref 2, .ref 3, .ref 4, .int (MVPc v), .int (MVIs v), .int (MVTh v), .ref 5, .int (MVSl v), .ref 6, .int (MVLn v), .int (MVEc v), .int (MVEo v), .int (MVSa v), .int (MVEn v), .int (MVTk v), .int (MVVa v), .int (MVFa v), .int (MVFo v), .ref 7, .int (MVSc v), .ref 8, .ref 9, .int (MVOl v)]), .inl (0, 500, .inl (MVSt v)), .inl (0, 500, .inl (MVAs v)), .inl (0, 500, .inl (MVSv v)), .inl (0, 4000, .inl (MVPt v)), .inl (0, 6, .inl (MVSp v)), .inl (3, 600, .inl (MVBf v)), .inl (0, 150, .inl (MVSm v)), .inl (0, 40, .inl (MVOr v)), .inl (3, 240, .inl (MVOu v))]) ?_ rfl rfl rfl rfl
  refine go_l 4 X (pc2 := 4) (ls2 := [some (.ref 0), some (.int a), some (.int 0), some (.int 0)]) (st2 := []) rfl ?_
  exact AW.eq (a_X9_pagesIn_h4 X hR FU _ _ _ _ _ h) rfl rfl rfl rfl
set_option maxHeartbeats 400000 in
set_option maxRecDepth 20000 in
theorem c_X9_minutes (v : MV) (a : Int32) (b : Int32) (r : Int32) (h : f_X9_minutes v a b = some r) : Sem z_X9_minutes 1 0 0 [.ref 0, .int a, .int b] (WM v) (PST (.inl (some (.int r))) (WM v)) := by
  refine Sem.of zo_X9_minutes (by decide +kernel) (Nat.le_of_ble_eq_true rfl) fun κ X hE hR hN => ?_
  unfold f_X9_minutes at h
  refine AW.eq (pc' := 0) (ls' := [some (.ref 0), some (.int a), some (.int b), none]) (st' := []) (AH' := [.inr (9, [.ref 1, .ref 2, .ref 3, .ref 4, .int (MVPc v), .int (MVIs v), .int (MVTh v), .ref 5, .int (MVSl v), .ref 6, .int (MVLn v), .int (MVEc v), .int (MVEo v), .int (MVSa v), .int (MVEn v), .int (MVTk v), .int (MVVa v), .int (MVFa v), .int (MVFo v), .ref 7, .int (MVSc v), .ref 8, .ref 9, .int (MVOl v)]), .inl (0, 500, .inl (MVSt v)), .inl (0, 500, .inl (MVAs v)), .inl (0, 500, .inl (MVSv v)), .inl (0, 4000, .inl (MVPt v)), .inl (0, 6, .inl (MVSp v)), .inl (3, 600, .inl (MVBf v)), .inl (0, 150, .inl (MVSm v)), .inl (0, 40, .inl (MVOr v)), .inl (3, 240, .inl (MVOu v))]) ?_ rfl rfl rfl rfl
  refine go_s 3 X (pc2 := 5) (st2 := [.int b, .ref 1]) rfl ?_
  obtain ⟨r2, hq1, h⟩ := obind_inv h
  refine q_callS X [] [] (AH2 := [.inr (9, [.ref 1, .ref 2, .ref 3, .ref 4, .int (MVPc v), .int (MVIs v), .int (MVTh v), .ref 5, .int (MVSl v), .ref 6, .int (MVLn v), .int (MVEc v), .int (MVEo v), .int (MVSa v), .int (MVEn v), .int (MVTk v), .int (MVVa v), .int (MVFa v), .int (MVFo v), .ref 7, .int (MVSc v), .ref 8, .ref 9, .int (MVOl v)]), .inl (0, 500, .inl (MVSt v)), .inl (0, 500, .inl (MVAs v)), .inl (0, 500, .inl (MVSv v)), .inl (0, 4000, .inl (MVPt v)), .inl (0, 6, .inl (MVSp v)), .inl (3, 600, .inl (MVBf v)), .inl (0, 150, .inl (MVSm v)), .inl (0, 40, .inl (MVOr v)), .inl (3, 240, .inl (MVOu v))]) (st2 := [.int r2, .ref 1]) (c_X9_q _ _ hq1) ⟨rfl, rfl⟩ rfl k_X9_q l_X9_77 rfl rfl (fit_of hR (by decide) (by decide) (by decide) (by decide)) (Nat.le_of_ble_eq_true rfl) (by decide) rfl rfl rfl ?_
  refine go_s 2 X (pc2 := 11) (st2 := [.int (r2 + 7), .ref 1]) rfl ?_
  by_cases b4 : oob (r2 + 7) 500
  · rw [if_pos b4] at h; cases h
  rw [if_neg b4] at h
  refine r_iald X rfl rfl b4 ?_
  refine go_l 7 X (pc2 := 19) (ls2 := [some (.ref 0), some (.int a), some (.int b), some (.int ((MVSt v) (Int32.toNatClampNeg (r2 + 7))))]) (st2 := [.int ((MVSt v) (Int32.toNatClampNeg (r2 + 7))), .int ((a + ((MVSt v) (Int32.toNatClampNeg (r2 + 7)))) - 1)]) rfl ?_
  by_cases b5 : (((MVSt v) (Int32.toNatClampNeg (r2 + 7))) : Int32) = 0
  · rw [if_pos b5] at h; cases h
  rw [if_neg b5] at h
  refine r_idiv X rfl b5 ?_
  cases h
  exact r_iret X rfl rfl ⟨rfl, rfl⟩ (by decide) (by decide)
set_option maxHeartbeats 400000 in
set_option maxRecDepth 20000 in
theorem a_X9_leastLoadedQueue_h9 {κ : KX} (X : CX κ z_X9_leastLoadedQueue) (hR : κR κ = rmM 5 0 0) : ∀ (n : Nat) (l1 : Int32) (l2 : Int32) (v : MV) (r : Int32) (w : MV) (h : f_X9_leastLoadedQueue_h9 n l1 l2 v = some (r, w)), AW κ (QM κ (PST (.inl (some (.int r))) (WM w)) 0 0) 9 [some (.ref 0), some (.int l1), some (.int l2)] [] (WM v) 0 0 := by
  intro n
  induction n with
  | zero =>
    intro l1 l2 v r w h
    unfold f_X9_leastLoadedQueue_h9 at h
    cases h
  | succ n ih =>
    intro l1 l2 v r w h
    unfold f_X9_leastLoadedQueue_h9 at h
    refine AW.eq (pc' := 9) (ls' := [some (.ref 0), some (.int l1), some (.int l2)]) (st' := []) (AH' := [.inr (9, [.ref 1, .ref 2, .ref 3, .ref 4, .int (MVPc v), .int (MVIs v), .int (MVTh v), .ref 5, .int (MVSl v), .ref 6, .int (MVLn v), .int (MVEc v), .int (MVEo v), .int (MVSa v), .int (MVEn v), .int (MVTk v), .int (MVVa v), .int (MVFa v), .int (MVFo v), .ref 7, .int (MVSc v), .ref 8, .ref 9, .int (MVOl v)]), .inl (0, 500, .inl (MVSt v)), .inl (0, 500, .inl (MVAs v)), .inl (0, 500, .inl (MVSv v)), .inl (0, 4000, .inl (MVPt v)), .inl (0, 6, .inl (MVSp v)), .inl (3, 600, .inl (MVBf v)), .inl (0, 150, .inl (MVSm v)), .inl (0, 40, .inl (MVOr v)), .inl (3, 240, .inl (MVOu v))]) ?_ rfl rfl rfl rfl
    refine go_s 4 X (pc2 := 15) (st2 := [.int 0, .ref 1, .int l2]) rfl ?_
    by_cases b1 : oob 0 500
    · rw [if_pos b1] at h; cases h
    rw [if_neg b1] at h
    refine r_iald X rfl rfl b1 ?_
    refine r_icmp_ge X 50 rfl rfl (fun c2 => ?_) (fun c2 => ?_)
    · rw [if_pos c2] at h
      refine go_s 1 X (pc2 := 51) (st2 := [.int l1]) rfl ?_
      cases h
      exact r_iret X rfl rfl ⟨rfl, rfl⟩ (by decide) (by decide)
    · rw [if_neg c2] at h
      refine go_s 3 X (pc2 := 22) (st2 := [.int l2, .ref 0, .ref 0]) rfl ?_
      obtain ⟨r4, hq3, h⟩ := obind_inv h
      refine q_callV X [0, 1, 2, 3, 4, 5, 6, 7, 8, 9] [] (AH2 := [.inr (9, [.ref 1, .ref 2, .ref 3, .ref 4, .int (MVPc v), .int (MVIs v), .int (MVTh v), .ref 5, .int (MVSl v), .ref 6, .int (MVLn v), .int (MVEc v), .int (MVEo v), .int (MVSa v), .int (MVEn v), .int (MVTk v), .int (MVVa v), .int (MVFa v), .int (MVFo v), .ref 7, .int (MVSc v), .ref 8, .ref 9, .int (MVOl v)]), .inl (0, 500, .inl (MVSt v)), .inl (0, 500, .inl (MVAs v)), .inl (0, 500, .inl (MVSv v)), .inl (0, 4000, .inl (MVPt v)), .inl (0, 6, .inl (MVSp v)), .inl (3, 600, .inl (MVBf v)), .inl (0, 150, .inl (MVSm v)), .inl (0, 40, .inl (MVOr v)), .inl (3, 240, .inl (MVOu v))]) (st2 := [.int r4, .ref 0]) (c_X9_pagesIn _ _ _ hq3) ⟨rfl, rfl⟩ rfl k_X9_pagesIn l_X9_372 rfl rfl rfl rfl rfl (fit_of hR (by decide) (by decide) (by decide) (by decide)) (Nat.le_of_ble_eq_true rfl) (by decide) rfl rfl rfl ?_
      refine go_s 1 X (pc2 := 26) (st2 := [.int l2, .int r4, .ref 0]) rfl ?_
      obtain ⟨r7, hq6, h⟩ := obind_inv h
      refine q_callV X [0, 1, 2, 3, 4, 5, 6, 7, 8, 9] [] (AH2 := [.inr (9, [.ref 1, .ref 2, .ref 3, .ref 4, .int (MVPc v), .int (MVIs v), .int (MVTh v), .ref 5, .int (MVSl v), .ref 6, .int (MVLn v), .int (MVEc v), .int (MVEo v), .int (MVSa v), .int (MVEn v), .int (MVTk v), .int (MVVa v), .int (MVFa v), .int (MVFo v), .ref 7, .int (MVSc v), .ref 8, .ref 9, .int (MVOl v)]), .inl (0, 500, .inl (MVSt v)), .inl (0, 500, .inl (MVAs v)), .inl (0, 500, .inl (MVSv v)), .inl (0, 4000, .inl (MVPt v)), .inl (0, 6, .inl (MVSp v)), .inl (3, 600, .inl (MVBf v)), .inl (0, 150, .inl (MVSm v)), .inl (0, 40, .inl (MVOr v)), .inl (3, 240, .inl (MVOu v))]) (st2 := [.int r7]) (c_X9_minutes _ _ _ _ hq6) ⟨rfl, rfl⟩ rfl k_X9_minutes l_X9_369 rfl rfl rfl rfl rfl (fit_of hR (by decide) (by decide) (by decide) (by decide)) (Nat.le_of_ble_eq_true rfl) (by decide) rfl rfl rfl ?_
      refine go_s 3 X (pc2 := 32) (st2 := [.int l1, .ref 0, .ref 0, .int r7]) rfl ?_
      obtain ⟨r10, hq9, h⟩ := obind_inv h
      refine q_callV X [0, 1, 2, 3, 4, 5, 6, 7, 8, 9] [] (AH2 := [.inr (9, [.ref 1, .ref 2, .ref 3, .ref 4, .int (MVPc v), .int (MVIs v), .int (MVTh v), .ref 5, .int (MVSl v), .ref 6, .int (MVLn v), .int (MVEc v), .int (MVEo v), .int (MVSa v), .int (MVEn v), .int (MVTk v), .int (MVVa v), .int (MVFa v), .int (MVFo v), .ref 7, .int (MVSc v), .ref 8, .ref 9, .int (MVOl v)]), .inl (0, 500, .inl (MVSt v)), .inl (0, 500, .inl (MVAs v)), .inl (0, 500, .inl (MVSv v)), .inl (0, 4000, .inl (MVPt v)), .inl (0, 6, .inl (MVSp v)), .inl (3, 600, .inl (MVBf v)), .inl (0, 150, .inl (MVSm v)), .inl (0, 40, .inl (MVOr v)), .inl (3, 240, .inl (MVOu v))]) (st2 := [.int r10, .ref 0, .int r7]) (c_X9_pagesIn _ _ _ hq9) ⟨rfl, rfl⟩ rfl k_X9_pagesIn l_X9_372 rfl rfl rfl rfl rfl (fit_of hR (by decide) (by decide) (by decide) (by decide)) (Nat.le_of_ble_eq_true rfl) (by decide) rfl rfl rfl ?_
      refine go_s 1 X (pc2 := 36) (st2 := [.int l1, .int r10, .ref 0, .int r7]) rfl ?_
      obtain ⟨r13, hq12, h⟩ := obind_inv h
      refine q_callV X [0, 1, 2, 3, 4, 5, 6, 7, 8, 9] [] (AH2 := [.inr (9, [.ref 1, .ref 2, .ref 3, .ref 4, .int (MVPc v), .int (MVIs v), .int (MVTh v), .ref 5, .int (MVSl v), .ref 6, .int (MVLn v), .int (MVEc v), .int (MVEo v), .int (MVSa v), .int (MVEn v), .int (MVTk v), .int (MVVa v), .int (MVFa v), .int (MVFo v), .ref 7, .int (MVSc v), .ref 8, .ref 9, .int (MVOl v)]), .inl (0, 500, .inl (MVSt v)), .inl (0, 500, .inl (MVAs v)), .inl (0, 500, .inl (MVSv v)), .inl (0, 4000, .inl (MVPt v)), .inl (0, 6, .inl (MVSp v)), .inl (3, 600, .inl (MVBf v)), .inl (0, 150, .inl (MVSm v)), .inl (0, 40, .inl (MVOr v)), .inl (3, 240, .inl (MVOu v))]) (st2 := [.int r13, .int r7]) (c_X9_minutes _ _ _ _ hq12) ⟨rfl, rfl⟩ rfl k_X9_minutes l_X9_369 rfl rfl rfl rfl rfl (fit_of hR (by decide) (by decide) (by decide) (by decide)) (Nat.le_of_ble_eq_true rfl) (by decide) rfl rfl rfl ?_
      refine r_icmp_ge X 44 rfl rfl (fun c15 => ?_) (fun c15 => ?_)
      · rw [if_pos c15] at h
        refine go_l 2 X (pc2 := 9) (ls2 := [some (.ref 0), some (.int l1), some (.int (l2 + 1))]) (st2 := []) rfl ?_
        exact AW.eq (ih _ _ _ _ _ h) rfl rfl rfl rfl
      · rw [if_neg c15] at h
        refine go_l 4 X (pc2 := 9) (ls2 := [some (.ref 0), some (.int l2), some (.int (l2 + 1))]) (st2 := []) rfl ?_
        exact AW.eq (ih _ _ _ _ _ h) rfl rfl rfl rfl
set_option maxHeartbeats 400000 in
set_option maxRecDepth 20000 in
theorem c_X9_leastLoadedQueue (v : MV) (r : Int32) (w : MV) (h : f_X9_leastLoadedQueue v = some (r, w)) : Sem z_X9_leastLoadedQueue 5 0 0 [.ref 0] (WM v) (PST (.inl (some (.int r))) (WM w)) := by
  refine Sem.of zo_X9_leastLoadedQueue (by decide +kernel) (Nat.le_of_ble_eq_true rfl) fun κ X hE hR hN => ?_
  unfold f_X9_leastLoadedQueue at h
  refine AW.eq (pc' := 0) (ls' := [some (.ref 0), none, none]) (st' := []) (AH' := [.inr (9, [.ref 1, .ref 2, .ref 3, .ref 4, .int (MVPc v), .int (MVIs v), .int (MVTh v), .ref 5, .int (MVSl v), .ref 6, .int (MVLn v), .int (MVEc v), .int (MVEo v), .int (MVSa v), .int (MVEn v), .int (MVTk v), .int (MVVa v), .int (MVFa v), .int (MVFo v), .ref 7, .int (MVSc v), .ref 8, .ref 9, .int (MVOl v)]), .inl (0, 500, .inl (MVSt v)), .inl (0, 500, .inl (MVAs v)), .inl (0, 500, .inl (MVSv v)), .inl (0, 4000, .inl (MVPt v)), .inl (0, 6, .inl (MVSp v)), .inl (3, 600, .inl (MVBf v)), .inl (0, 150, .inl (MVSm v)), .inl (0, 40, .inl (MVOr v)), .inl (3, 240, .inl (MVOu v))]) ?_ rfl rfl rfl rfl
  refine go 7 X (pc2 := 9) (ls2 := [some (.ref 0), some (.int 0), some (.int 1)]) (st2 := []) (AH2 := [.inr (9, [.ref 1, .ref 2, .ref 3, .ref 4, .int (MVPc v), .int (MVIs v), .int 0, .ref 5, .int (MVSl v), .ref 6, .int (MVLn v), .int (MVEc v), .int (MVEo v), .int (MVSa v), .int (MVEn v), .int (MVTk v), .int (MVVa v), .int (MVFa v), .int (MVFo v), .ref 7, .int (MVSc v), .ref 8, .ref 9, .int (MVOl v)]), .inl (0, 500, .inl (MVSt v)), .inl (0, 500, .inl (MVAs v)), .inl (0, 500, .inl (MVSv v)), .inl (0, 4000, .inl (MVPt v)), .inl (0, 6, .inl (MVSp v)), .inl (3, 600, .inl (MVBf v)), .inl (0, 150, .inl (MVSm v)), .inl (0, 40, .inl (MVOr v)), .inl (3, 240, .inl (MVOu v))]) rfl ?_
  exact AW.eq (a_X9_leastLoadedQueue_h9 X hR FU _ _ _ _ _ h) rfl rfl rfl rfl
set_option maxHeartbeats 400000 in
set_option maxRecDepth 20000 in
theorem c_X9_leftChild (v : MV) (a : Int32) (r : Int32) (w : MV) (h : f_X9_leftChild v a = some (r, w)) : Sem z_X9_leftChild 3 0 0 [.ref 0, .int a] (WM v) (PST (.inl (some (.int r))) (WM w)) := by
  refine Sem.of zo_X9_leftChild (by decide +kernel) (Nat.le_of_ble_eq_true rfl) fun κ X hE hR hN => ?_
  unfold f_X9_leftChild at h
  refine AW.eq (pc' := 0) (ls' := [some (.ref 0), some (.int a)]) (st' := []) (AH' := [.inr (9, [.ref 1, .ref 2, .ref 3, .ref 4, .int (MVPc v), .int (MVIs v), .int (MVTh v), .ref 5, .int (MVSl v), .ref 6, .int (MVLn v), .int (MVEc v), .int (MVEo v), .int (MVSa v), .int (MVEn v), .int (MVTk v), .int (MVVa v), .int (MVFa v), .int (MVFo v), .ref 7, .int (MVSc v), .ref 8, .ref 9, .int (MVOl v)]), .inl (0, 500, .inl (MVSt v)), .inl (0, 500, .inl (MVAs v)), .inl (0, 500, .inl (MVSv v)), .inl (0, 4000, .inl (MVPt v)), .inl (0, 6, .inl (MVSp v)), .inl (3, 600, .inl (MVBf v)), .inl (0, 150, .inl (MVSm v)), .inl (0, 40, .inl (MVOr v)), .inl (3, 240, .inl (MVOu v))]) ?_ rfl rfl rfl rfl
  refine go_s 2 X (pc2 := 2) (st2 := [.int a, .ref 0]) rfl ?_
  obtain ⟨r2, w3, hq1, h⟩ := bnd2_inv h
  refine q_callV X [0, 1, 2, 3, 4, 5, 6, 7, 8, 9] [] (AH2 := [.inr (9, [.ref 1, .ref 2, .ref 3, .ref 4, .int (MVPc w3), .int (MVIs w3), .int (MVTh w3), .ref 5, .int (MVSl w3), .ref 6, .int (MVLn w3), .int (MVEc w3), .int (MVEo w3), .int (MVSa w3), .int (MVEn w3), .int (MVTk w3), .int (MVVa w3), .int (MVFa w3), .int (MVFo w3), .ref 7, .int (MVSc w3), .ref 8, .ref 9, .int (MVOl w3)]), .inl (0, 500, .inl (MVSt w3)), .inl (0, 500, .inl (MVAs w3)), .inl (0, 500, .inl (MVSv w3)), .inl (0, 4000, .inl (MVPt w3)), .inl (0, 6, .inl (MVSp w3)), .inl (3, 600, .inl (MVBf w3)), .inl (0, 150, .inl (MVSm w3)), .inl (0, 40, .inl (MVOr w3)), .inl (3, 240, .inl (MVOu w3))]) (st2 := [.int r2]) (c_X9_checkJob _ _ _ _ hq1) ⟨rfl, rfl⟩ rfl k_X9_checkJob l_X9_351 rfl rfl rfl rfl rfl (fit_of hR (by decide) (by decide) (by decide) (by decide)) (Nat.le_of_ble_eq_true rfl) (by decide) rfl rfl rfl ?_
  refine r_if_eq X 17 rfl rfl (fun c4 => ?_) (fun c4 => ?_)
  · rw [if_pos c4] at h
    refine go_s 1 X (pc2 := 18) (st2 := [.int 0]) rfl ?_
    cases h
    exact r_iret X rfl rfl ⟨rfl, rfl⟩ (by decide) (by decide)
  · rw [if_neg c4] at h
    refine go_s 3 X (pc2 := 11) (st2 := [.int 5, .int a, .ref 0]) rfl ?_
    obtain ⟨r6, hq5, h⟩ := obind_inv h
    refine q_callV X [0, 1, 2, 3, 4, 5, 6, 7, 8, 9] [] (AH2 := [.inr (9, [.ref 1, .ref 2, .ref 3, .ref 4, .int (MVPc w3), .int (MVIs w3), .int (MVTh w3), .ref 5, .int (MVSl w3), .ref 6, .int (MVLn w3), .int (MVEc w3), .int (MVEo w3), .int (MVSa w3), .int (MVEn w3), .int (MVTk w3), .int (MVVa w3), .int (MVFa w3), .int (MVFo w3), .ref 7, .int (MVSc w3), .ref 8, .ref 9, .int (MVOl w3)]), .inl (0, 500, .inl (MVSt w3)), .inl (0, 500, .inl (MVAs w3)), .inl (0, 500, .inl (MVSv w3)), .inl (0, 4000, .inl (MVPt w3)), .inl (0, 6, .inl (MVSp w3)), .inl (3, 600, .inl (MVBf w3)), .inl (0, 150, .inl (MVSm w3)), .inl (0, 40, .inl (MVOr w3)), .inl (3, 240, .inl (MVOu w3))]) (st2 := [.int r6]) (c_X9_get _ _ _ _ hq5) ⟨rfl, rfl⟩ rfl k_X9_get l_X9_90 rfl rfl rfl rfl rfl (fit_of hR (by decide) (by decide) (by decide) (by decide)) (Nat.le_of_ble_eq_true rfl) (by decide) rfl rfl rfl ?_
    refine go_s 1 X (pc2 := 18) (st2 := [.int r6]) rfl ?_
    cases h
    exact r_iret X rfl rfl ⟨rfl, rfl⟩ (by decide) (by decide)
set_option maxHeartbeats 400000 in
set_option maxRecDepth 20000 in
theorem c_X9_letterAt (v : MV) (a : Int32) (b : Int32) (r : Int32) (h : f_X9_letterAt v a b = some r) : Sem z_X9_letterAt 1 0 0 [.ref 0, .int a, .int b] (WM v) (PST (.inl (some (.int r))) (WM v)) := by
  refine Sem.of zo_X9_letterAt (by decide +kernel) (Nat.le_of_ble_eq_true rfl) fun κ X hE hR hN => ?_
  unfold f_X9_letterAt at h
  refine AW.eq (pc' := 0) (ls' := [some (.ref 0), some (.int a), some (.int b)]) (st' := []) (AH' := [.inr (9, [.ref 1, .ref 2, .ref 3, .ref 4, .int (MVPc v), .int (MVIs v), .int (MVTh v), .ref 5, .int (MVSl v), .ref 6, .int (MVLn v), .int (MVEc v), .int (MVEo v), .int (MVSa v), .int (MVEn v), .int (MVTk v), .int (MVVa v), .int (MVFa v), .int (MVFo v), .ref 7, .int (MVSc v), .ref 8, .ref 9, .int (MVOl v)]), .inl (0, 500, .inl (MVSt v)), .inl (0, 500, .inl (MVAs v)), .inl (0, 500, .inl (MVSv v)), .inl (0, 4000, .inl (MVPt v)), .inl (0, 6, .inl (MVSp v)), .inl (3, 600, .inl (MVBf v)), .inl (0, 150, .inl (MVSm v)), .inl (0, 40, .inl (MVOr v)), .inl (3, 240, .inl (MVOu v))]) ?_ rfl rfl rfl rfl
  refine go_s 6 X (pc2 := 8) (st2 := [.int a, .ref 1, .long 0, .long (Int32.toInt64 b)]) rfl ?_
  by_cases b1 : oob a 500
  · rw [if_pos b1] at h; cases h
  rw [if_neg b1] at h
  refine r_iald X rfl rfl b1 ?_
  refine go_s 3 X (pc2 := 12) (st2 := [.long (Int32.toInt64 (((MVSt v) (Int32.toNatClampNeg a)) - 1)), .long 0, .long (Int32.toInt64 b)]) rfl ?_
  obtain ⟨r3, hq2, h⟩ := obind_inv h
  refine q_callS X [] [] (AH2 := [.inr (9, [.ref 1, .ref 2, .ref 3, .ref 4, .int (MVPc v), .int (MVIs v), .int (MVTh v), .ref 5, .int (MVSl v), .ref 6, .int (MVLn v), .int (MVEc v), .int (MVEo v), .int (MVSa v), .int (MVEn v), .int (MVTk v), .int (MVVa v), .int (MVFa v), .int (MVFo v), .ref 7, .int (MVSc v), .ref 8, .ref 9, .int (MVOl v)]), .inl (0, 500, .inl (MVSt v)), .inl (0, 500, .inl (MVAs v)), .inl (0, 500, .inl (MVSv v)), .inl (0, 4000, .inl (MVPt v)), .inl (0, 6, .inl (MVSp v)), .inl (3, 600, .inl (MVBf v)), .inl (0, 150, .inl (MVSm v)), .inl (0, 40, .inl (MVOr v)), .inl (3, 240, .inl (MVOu v))]) (st2 := [.int r3]) (c_X9_isWithin _ _ _ _ hq2) ⟨rfl, rfl⟩ rfl k_X9_isWithin l_X9_152 rfl rfl (fit_of hR (by decide) (by decide) (by decide) (by decide)) (Nat.le_of_ble_eq_true rfl) (by decide) rfl rfl rfl ?_
  refine r_if_eq X 31 rfl rfl (fun c5 => ?_) (fun c5 => ?_)
  · rw [if_pos c5] at h
    refine go_s 1 X (pc2 := 32) (st2 := [.int (-1)]) rfl ?_
    cases h
    exact r_iret X rfl rfl ⟨rfl, rfl⟩ (by decide) (by decide)
  · rw [if_neg c5] at h
    refine go_s 7 X (pc2 := 27) (st2 := [.int ((a + 1) + b), .ref 1]) rfl ?_
    by_cases b6 : oob ((a + 1) + b) 500
    · rw [if_pos b6] at h; cases h
    rw [if_neg b6] at h
    refine r_iald X rfl rfl b6 ?_
    refine go_s 1 X (pc2 := 32) (st2 := [.int ((MVSt v) (Int32.toNatClampNeg ((a + 1) + b)))]) rfl ?_
    cases h
    exact r_iret X rfl rfl ⟨rfl, rfl⟩ (by decide) (by decide)
set_option maxHeartbeats 400000 in
set_option maxRecDepth 20000 in
theorem c_X9_parseSemicolon (v : MV) (r : Unit) (w : MV) (h : f_X9_parseSemicolon v = some (r, w)) : Sem z_X9_parseSemicolon 3 0 0 [.ref 0] (WM v) (PST (.inl none) (WM w)) := by
  refine Sem.of zo_X9_parseSemicolon (by decide +kernel) (Nat.le_of_ble_eq_true rfl) fun κ X hE hR hN => ?_
  unfold f_X9_parseSemicolon at h
  refine AW.eq (pc' := 0) (ls' := [some (.ref 0)]) (st' := []) (AH' := [.inr (9, [.ref 1, .ref 2, .ref 3, .ref 4, .int (MVPc v), .int (MVIs v), .int (MVTh v), .ref 5, .int (MVSl v), .ref 6, .int (MVLn v), .int (MVEc v), .int (MVEo v), .int (MVSa v), .int (MVEn v), .int (MVTk v), .int (MVVa v), .int (MVFa v), .int (MVFo v), .ref 7, .int (MVSc v), .ref 8, .ref 9, .int (MVOl v)]), .inl (0, 500, .inl (MVSt v)), .inl (0, 500, .inl (MVAs v)), .inl (0, 500, .inl (MVSv v)), .inl (0, 4000, .inl (MVPt v)), .inl (0, 6, .inl (MVSp v)), .inl (3, 600, .inl (MVBf v)), .inl (0, 150, .inl (MVSm v)), .inl (0, 40, .inl (MVOr v)), .inl (3, 240, .inl (MVOu v))]) ?_ rfl rfl rfl rfl
  refine go_s 4 X (pc2 := 6) (st2 := [.int 3, .int (MVTk v), .ref 0]) rfl ?_
  refine r_icmp_ne X 13 rfl rfl (fun c1 => ?_) (fun c1 => ?_)
  · rw [if_neg c1] at h
    refine go_s 2 X (pc2 := 15) (st2 := [.int 1, .int 0, .ref 0]) rfl ?_
    obtain ⟨r3, w4, hq2, h⟩ := bnd2_inv h
    refine q_callV X [0, 1, 2, 3, 4, 5, 6, 7, 8, 9] [] (AH2 := [.inr (9, [.ref 1, .ref 2, .ref 3, .ref 4, .int (MVPc w4), .int (MVIs w4), .int (MVTh w4), .ref 5, .int (MVSl w4), .ref 6, .int (MVLn w4), .int (MVEc w4), .int (MVEo w4), .int (MVSa w4), .int (MVEn w4), .int (MVTk w4), .int (MVVa w4), .int (MVFa w4), .int (MVFo w4), .ref 7, .int (MVSc w4), .ref 8, .ref 9, .int (MVOl w4)]), .inl (0, 500, .inl (MVSt w4)), .inl (0, 500, .inl (MVAs w4)), .inl (0, 500, .inl (MVSv w4)), .inl (0, 4000, .inl (MVPt w4)), .inl (0, 6, .inl (MVSp w4)), .inl (3, 600, .inl (MVBf w4)), .inl (0, 150, .inl (MVSm w4)), .inl (0, 40, .inl (MVOr w4)), .inl (3, 240, .inl (MVOu w4))]) (st2 := []) (c_X9_expect _ _ _ _ _ hq2) ⟨rfl, rfl⟩ rfl k_X9_expect l_X9_197 rfl rfl rfl rfl rfl (fit_of hR (by decide) (by decide) (by decide) (by decide)) (Nat.le_of_ble_eq_true rfl) (by decide) rfl rfl rfl ?_
    refine go_s 1 X (pc2 := 19) (st2 := [.ref 0]) rfl ?_
    obtain ⟨r6, w7, hq5, h⟩ := bnd2_inv h
    refine q_callV X [0, 1, 2, 3, 4, 5, 6, 7, 8, 9] [] (AH2 := [.inr (9, [.ref 1, .ref 2, .ref 3, .ref 4, .int (MVPc w7), .int (MVIs w7), .int (MVTh w7), .ref 5, .int (MVSl w7), .ref 6, .int (MVLn w7), .int (MVEc w7), .int (MVEo w7), .int (MVSa w7), .int (MVEn w7), .int (MVTk w7), .int (MVVa w7), .int (MVFa w7), .int (MVFo w7), .ref 7, .int (MVSc w7), .ref 8, .ref 9, .int (MVOl w7)]), .inl (0, 500, .inl (MVSt w7)), .inl (0, 500, .inl (MVAs w7)), .inl (0, 500, .inl (MVSv w7)), .inl (0, 4000, .inl (MVPt w7)), .inl (0, 6, .inl (MVSp w7)), .inl (3, 600, .inl (MVBf w7)), .inl (0, 150, .inl (MVSm w7)), .inl (0, 40, .inl (MVOr w7)), .inl (3, 240, .inl (MVOu w7))]) (st2 := []) (c_X9_advanceToken _ _ _ hq5) ⟨rfl, rfl⟩ rfl k_X9_advanceToken l_X9_191 rfl rfl rfl rfl rfl (fit_of hR (by decide) (by decide) (by decide) (by decide)) (Nat.le_of_ble_eq_true rfl) (by decide) rfl rfl rfl ?_
    cases h
    exact r_vret X rfl rfl ⟨rfl, rfl⟩ (by decide) (by decide)
  · rw [if_pos c1] at h
    refine go_s 3 X (pc2 := 15) (st2 := [.int 1, .int 1, .ref 0]) rfl ?_
    obtain ⟨r9, w10, hq8, h⟩ := bnd2_inv h
    refine q_callV X [0, 1, 2, 3, 4, 5, 6, 7, 8, 9] [] (AH2 := [.inr (9, [.ref 1, .ref 2, .ref 3, .ref 4, .int (MVPc w10), .int (MVIs w10), .int (MVTh w10), .ref 5, .int (MVSl w10), .ref 6, .int (MVLn w10), .int (MVEc w10), .int (MVEo w10), .int (MVSa w10), .int (MVEn w10), .int (MVTk w10), .int (MVVa w10), .int (MVFa w10), .int (MVFo w10), .ref 7, .int (MVSc w10), .ref 8, .ref 9, .int (MVOl w10)]), .inl (0, 500, .inl (MVSt w10)), .inl (0, 500, .inl (MVAs w10)), .inl (0, 500, .inl (MVSv w10)), .inl (0, 4000, .inl (MVPt w10)), .inl (0, 6, .inl (MVSp w10)), .inl (3, 600, .inl (MVBf w10)), .inl (0, 150, .inl (MVSm w10)), .inl (0, 40, .inl (MVOr w10)), .inl (3, 240, .inl (MVOu w10))]) (st2 := []) (c_X9_expect _ _ _ _ _ hq8) ⟨rfl, rfl⟩ rfl k_X9_expect l_X9_197 rfl rfl rfl rfl rfl (fit_of hR (by decide) (by decide) (by decide) (by decide)) (Nat.le_of_ble_eq_true rfl) (by decide) rfl rfl rfl ?_
    refine go_s 1 X (pc2 := 19) (st2 := [.ref 0]) rfl ?_
    obtain ⟨r12, w13, hq11, h⟩ := bnd2_inv h
    refine q_callV X [0, 1, 2, 3, 4, 5, 6, 7, 8, 9] [] (AH2 := [.inr (9, [.ref 1, .ref 2, .ref 3, .ref 4, .int (MVPc w13), .int (MVIs w13), .int (MVTh w13), .ref 5, .int (MVSl w13), .ref 6, .int (MVLn w13), .int (MVEc w13), .int (MVEo w13), .int (MVSa w13), .int (MVEn w13), .int (MVTk w13), .int (MVVa w13), .int (MVFa w13), .int (MVFo w13), .ref 7, .int (MVSc w13), .ref 8, .ref 9, .int (MVOl w13)]), .inl (0, 500, .inl (MVSt w13)), .inl (0, 500, .inl (MVAs w13)), .inl (0, 500, .inl (MVSv w13)), .inl (0, 4000, .inl (MVPt w13)), .inl (0, 6, .inl (MVSp w13)), .inl (3, 600, .inl (MVBf w13)), .inl (0, 150, .inl (MVSm w13)), .inl (0, 40, .inl (MVOr w13)), .inl (3, 240, .inl (MVOu w13))]) (st2 := []) (c_X9_advanceToken _ _ _ hq11) ⟨rfl, rfl⟩ rfl k_X9_advanceToken l_X9_191 rfl rfl rfl rfl rfl (fit_of hR (by decide) (by decide) (by decide) (by decide)) (Nat.le_of_ble_eq_true rfl) (by decide) rfl rfl rfl ?_
    cases h
    exact r_vret X rfl rfl ⟨rfl, rfl⟩ (by decide) (by decide)
set_option maxHeartbeats 400000 in
set_option maxRecDepth 20000 in
theorem a_X9_spellName_h58 {κ : KX} (X : CX κ z_X9_spellName) (hR : κR κ = rmM 1 0 0) : ∀ (n : Nat) (l1 : Int32) (v : MV) (r : Unit) (w : MV) (h : f_X9_spellName_h58 n l1 v = some (r, w)), AW κ (QM κ (PST (.inl none) (WM w)) 0 0) 58 [some (.ref 0), some (.int l1)] [] (WM v) 0 0 := by
  intro n
  induction n with
  | zero =>
    intro l1 v r w h
    unfold f_X9_spellName_h58 at h
    cases h
  | succ n ih =>
    intro l1 v r w h
    unfold f_X9_spellName_h58 at h
    refine AW.eq (pc' := 58) (ls' := [some (.ref 0), some (.int l1)]) (st' := []) (AH' := [.inr (9, [.ref 1, .ref 2, .ref 3, .ref 4, .int (MVPc v), .int (MVIs v), .int (MVTh v), .ref 5, .int (MVSl v), .ref 6, .int (MVLn v), .int (MVEc v), .int (MVEo v), .int (MVSa v), .int (MVEn v), .int (MVTk v), .int (MVVa v), .int (MVFa v), .int (MVFo v), .ref 7, .int (MVSc v), .ref 8, .ref 9, .int (MVOl v)]), .inl (0, 500, .inl (MVSt v)), .inl (0, 500, .inl (MVAs v)), .inl (0, 500, .inl (MVSv v)), .inl (0, 4000, .inl (MVPt v)), .inl (0, 6, .inl (MVSp v)), .inl (3, 600, .inl (MVBf v)), .inl (0, 150, .inl (MVSm v)), .inl (0, 40, .inl (MVOr v)), .inl (3, 240, .inl (MVOu v))]) ?_ rfl rfl rfl rfl
    refine go_s 3 X (pc2 := 63) (st2 := [.int (MVSl v), .int l1]) rfl ?_
    refine r_icmp_ge X 89 rfl rfl (fun c6 => ?_) (fun c6 => ?_)
    · rw [if_pos c6] at h
      cases h
      exact r_vret X rfl rfl ⟨rfl, rfl⟩ (by decide) (by decide)
    · rw [if_neg c6] at h
      refine go_s 9 X (pc2 := 81) (st2 := [.int ((MVSa v) + l1), .ref 6, .int l1, .ref 5]) rfl ?_
      by_cases b7 : oob ((MVSa v) + l1) 600
      · rw [if_pos b7] at h; cases h
      rw [if_neg b7] at h
      refine r_bald X rfl rfl b7 ?_
      by_cases b8 : oob l1 6
      · rw [if_pos b8] at h; cases h
      rw [if_neg b8] at h
      refine r_iast X rfl rfl b8 ?_
      refine go_l 2 X (pc2 := 58) (ls2 := [some (.ref 0), some (.int (l1 + 1))]) (st2 := []) rfl ?_
      exact AW.eq (ih _ _ _ _ h) rfl rfl rfl rfl
set_option maxHeartbeats 400000 in
set_option maxRecDepth 20000 in
theorem a_X9_spellName_j28 {κ : KX} (X : CX κ z_X9_spellName) (hR : κR κ = rmM 1 0 0) : ∀ (s0 : Int32) (v : MV) (r : Unit) (w : MV) (h : f_X9_spellName_j28 s0 v = some (r, w)), AW κ (QM κ (PST (.inl none) (WM w)) 0 0) 28 [some (.ref 0), none] [.int s0, .ref 0] (WM v) 0 0 := by
  intro s0 v r w h
  unfold f_X9_spellName_j28 at h
  refine AW.eq (pc' := 28) (ls' := [some (.ref 0), none]) (st' := [.int s0, .ref 0]) (AH' := [.inr (9, [.ref 1, .ref 2, .ref 3, .ref 4, .int (MVPc v), .int (MVIs v), .int (MVTh v), .ref 5, .int (MVSl v), .ref 6, .int (MVLn v), .int (MVEc v), .int (MVEo v), .int (MVSa v), .int (MVEn v), .int (MVTk v), .int (MVVa v), .int (MVFa v), .int (MVFo v), .ref 7, .int (MVSc v), .ref 8, .ref 9, .int (MVOl v)]), .inl (0, 500, .inl (MVSt v)), .inl (0, 500, .inl (MVAs v)), .inl (0, 500, .inl (MVSv v)), .inl (0, 4000, .inl (MVPt v)), .inl (0, 6, .inl (MVSp v)), .inl (3, 600, .inl (MVBf v)), .inl (0, 150, .inl (MVSm v)), .inl (0, 40, .inl (MVOr v)), .inl (3, 240, .inl (MVOu v))]) ?_ rfl rfl rfl rfl
  refine go_s 1 X (pc2 := 29) (st2 := [.int 1, .int s0, .ref 0]) rfl ?_
  obtain ⟨r3, w4, hq2, h⟩ := bnd2_inv h
  refine q_callV X [0, 1, 2, 3, 4, 5, 6, 7, 8, 9] [] (AH2 := [.inr (9, [.ref 1, .ref 2, .ref 3, .ref 4, .int (MVPc w4), .int (MVIs w4), .int (MVTh w4), .ref 5, .int (MVSl w4), .ref 6, .int (MVLn w4), .int (MVEc w4), .int (MVEo w4), .int (MVSa w4), .int (MVEn w4), .int (MVTk w4), .int (MVVa w4), .int (MVFa w4), .int (MVFo w4), .ref 7, .int (MVSc w4), .ref 8, .ref 9, .int (MVOl w4)]), .inl (0, 500, .inl (MVSt w4)), .inl (0, 500, .inl (MVAs w4)), .inl (0, 500, .inl (MVSv w4)), .inl (0, 4000, .inl (MVPt w4)), .inl (0, 6, .inl (MVSp w4)), .inl (3, 600, .inl (MVBf w4)), .inl (0, 150, .inl (MVSm w4)), .inl (0, 40, .inl (MVOr w4)), .inl (3, 240, .inl (MVOu w4))]) (st2 := []) (c_X9_expect _ _ _ _ _ hq2) ⟨rfl, rfl⟩ rfl k_X9_expect l_X9_197 rfl rfl rfl rfl rfl (fit_of hR (by decide) (by decide) (by decide) (by decide)) (Nat.le_of_ble_eq_true rfl) (by decide) rfl rfl rfl ?_
  refine go_s 3 X (pc2 := 37) (st2 := [.int (MVFa w4), .ref 0]) rfl ?_
  refine r_if_ne X 52 rfl rfl (fun c5 => ?_) (fun c5 => ?_)
  · rw [if_neg c5] at h
    refine go 4 X (pc2 := 58) (ls2 := [some (.ref 0), some (.int 0)]) (st2 := []) (AH2 := [.inr (9, [.ref 1, .ref 2, .ref 3, .ref 4, .int (MVPc w4), .int (MVIs w4), .int (MVTh w4), .ref 5, .int 0, .ref 6, .int (MVLn w4), .int (MVEc w4), .int (MVEo w4), .int (MVSa w4), .int (MVEn w4), .int (MVTk w4), .int (MVVa w4), .int (MVFa w4), .int (MVFo w4), .ref 7, .int (MVSc w4), .ref 8, .ref 9, .int (MVOl w4)]), .inl (0, 500, .inl (MVSt w4)), .inl (0, 500, .inl (MVAs w4)), .inl (0, 500, .inl (MVSv w4)), .inl (0, 4000, .inl (MVPt w4)), .inl (0, 6, .inl (MVSp w4)), .inl (3, 600, .inl (MVBf w4)), .inl (0, 150, .inl (MVSm w4)), .inl (0, 40, .inl (MVOr w4)), .inl (3, 240, .inl (MVOu w4))]) rfl ?_
    exact AW.eq (a_X9_spellName_h58 X hR FU _ _ _ _ h) rfl rfl rfl rfl
  · rw [if_pos c5] at h
    refine go 9 X (pc2 := 58) (ls2 := [some (.ref 0), some (.int 0)]) (st2 := []) (AH2 := [.inr (9, [.ref 1, .ref 2, .ref 3, .ref 4, .int (MVPc w4), .int (MVIs w4), .int (MVTh w4), .ref 5, .int ((MVEn w4) - (MVSa w4)), .ref 6, .int (MVLn w4), .int (MVEc w4), .int (MVEo w4), .int (MVSa w4), .int (MVEn w4), .int (MVTk w4), .int (MVVa w4), .int (MVFa w4), .int (MVFo w4), .ref 7, .int (MVSc w4), .ref 8, .ref 9, .int (MVOl w4)]), .inl (0, 500, .inl (MVSt w4)), .inl (0, 500, .inl (MVAs w4)), .inl (0, 500, .inl (MVSv w4)), .inl (0, 4000, .inl (MVPt w4)), .inl (0, 6, .inl (MVSp w4)), .inl (3, 600, .inl (MVBf w4)), .inl (0, 150, .inl (MVSm w4)), .inl (0, 40, .inl (MVOr w4)), .inl (3, 240, .inl (MVOu w4))]) rfl ?_
    exact AW.eq (a_X9_spellName_h58 X hR FU _ _ _ _ h) rfl rfl rfl rfl
set_option maxHeartbeats 400000 in
set_option maxRecDepth 20000 in
theorem a_X9_spellName_j27 {κ : KX} (X : CX κ z_X9_spellName) (hR : κR κ = rmM 1 0 0) : ∀ (v : MV) (r : Unit) (w : MV) (h : f_X9_spellName_j27 v = some (r, w)), AW κ (QM κ (PST (.inl none) (WM w)) 0 0) 27 [some (.ref 0), none] [.ref 0] (WM v) 0 0 := by
  intro v r w h
  unfold f_X9_spellName_j27 at h
  refine AW.eq (pc' := 27) (ls' := [some (.ref 0), none]) (st' := [.ref 0]) (AH' := [.inr (9, [.ref 1, .ref 2, .ref 3, .ref 4, .int (MVPc v), .int (MVIs v), .int (MVTh v), .ref 5, .int (MVSl v), .ref 6, .int (MVLn v), .int (MVEc v), .int (MVEo v), .int (MVSa v), .int (MVEn v), .int (MVTk v), .int (MVVa v), .int (MVFa v), .int (MVFo v), .ref 7, .int (MVSc v), .ref 8, .ref 9, .int (MVOl v)]), .inl (0, 500, .inl (MVSt v)), .inl (0, 500, .inl (MVAs v)), .inl (0, 500, .inl (MVSv v)), .inl (0, 4000, .inl (MVPt v)), .inl (0, 6, .inl (MVSp v)), .inl (3, 600, .inl (MVBf v)), .inl (0, 150, .inl (MVSm v)), .inl (0, 40, .inl (MVOr v)), .inl (3, 240, .inl (MVOu v))]) ?_ rfl rfl rfl rfl
  refine go_s 1 X (pc2 := 28) (st2 := [.int 0, .ref 0]) rfl ?_
  exact AW.eq (a_X9_spellName_j28 X hR _ _ _ _ h) rfl rfl rfl rfl
set_option maxHeartbeats 400000 in
set_option maxRecDepth 20000 in
theorem c_X9_spellName (v : MV) (r : Unit) (w : MV) (h : f_X9_spellName v = some (r, w)) : Sem z_X9_spellName 1 0 0 [.ref 0] (WM v) (PST (.inl none) (WM w)) := by
  refine Sem.of zo_X9_spellName (by decide +kernel) (Nat.le_of_ble_eq_true rfl) fun κ X hE hR hN => ?_
  unfold f_X9_spellName at h
  refine AW.eq (pc' := 0) (ls' := [some (.ref 0), none]) (st' := []) (AH' := [.inr (9, [.ref 1, .ref 2, .ref 3, .ref 4, .int (MVPc v), .int (MVIs v), .int (MVTh v), .ref 5, .int (MVSl v), .ref 6, .int (MVLn v), .int (MVEc v), .int (MVEo v), .int (MVSa v), .int (MVEn v), .int (MVTk v), .int (MVVa v), .int (MVFa v), .int (MVFo v), .ref 7, .int (MVSc v), .ref 8, .ref 9, .int (MVOl v)]), .inl (0, 500, .inl (MVSt v)), .inl (0, 500, .inl (MVAs v)), .inl (0, 500, .inl (MVSv v)), .inl (0, 4000, .inl (MVPt v)), .inl (0, 6, .inl (MVSp v)), .inl (3, 600, .inl (MVBf v)), .inl (0, 150, .inl (MVSm v)), .inl (0, 40, .inl (MVOr v)), .inl (3, 240, .inl (MVOu v))]) ?_ rfl rfl rfl rfl
  refine go_s 4 X (pc2 := 6) (st2 := [.int 1, .int (MVTk v), .ref 0]) rfl ?_
  refine r_icmp_ne X 27 rfl rfl (fun c1 => ?_) (fun c1 => ?_)
  · rw [if_neg c1] at h
    exact AW.eq (a_X9_spellName_j27 X hR _ _ _ h) rfl rfl rfl rfl
  · rw [if_pos c1] at h
    refine go_s 6 X (pc2 := 20) (st2 := [.int 6, .int ((MVEn v) - (MVSa v)), .ref 0]) rfl ?_
    refine r_icmp_gt X 27 rfl rfl (fun c9 => ?_) (fun c9 => ?_)
    · rw [if_pos c9] at h
      exact AW.eq (a_X9_spellName_j27 X hR _ _ _ h) rfl rfl rfl rfl
    · rw [if_neg c9] at h
      refine go_s 2 X (pc2 := 28) (st2 := [.int 1, .ref 0]) rfl ?_
      exact AW.eq (a_X9_spellName_j28 X hR _ _ _ _ h) rfl rfl rfl rfl
set_option maxHeartbeats 400000 in
set_option maxRecDepth 20000 in
theorem a_X9_spelledQueue_h2 {κ : KX} (X : CX κ z_X9_spelledQueue) (hR : κR κ = rmM 1 0 0) : ∀ (n : Nat) (l1 : Int32) (v : MV) (r : Int32) (h : f_X9_spelledQueue_h2 n l1 v = some r), AW κ (QM κ (PST (.inl (some (.int r))) (WM v)) 0 0) 2 [some (.ref 0), some (.int l1)] [] (WM v) 0 0 := by
  intro n
  induction n with
  | zero =>
    intro l1 v r h
    unfold f_X9_spelledQueue_h2 at h
    cases h
  | succ n ih =>
    intro l1 v r h
    unfold f_X9_spelledQueue_h2 at h
    refine AW.eq (pc' := 2) (ls' := [some (.ref 0), some (.int l1)]) (st' := []) (AH' := [.inr (9, [.ref 1, .ref 2, .ref 3, .ref 4, .int (MVPc v), .int (MVIs v), .int (MVTh v), .ref 5, .int (MVSl v), .ref 6, .int (MVLn v), .int (MVEc v), .int (MVEo v), .int (MVSa v), .int (MVEn v), .int (MVTk v), .int (MVVa v), .int (MVFa v), .int (MVFo v), .ref 7, .int (MVSc v), .ref 8, .ref 9, .int (MVOl v)]), .inl (0, 500, .inl (MVSt v)), .inl (0, 500, .inl (MVAs v)), .inl (0, 500, .inl (MVSv v)), .inl (0, 4000, .inl (MVPt v)), .inl (0, 6, .inl (MVSp v)), .inl (3, 600, .inl (MVBf v)), .inl (0, 150, .inl (MVSm v)), .inl (0, 40, .inl (MVOr v)), .inl (3, 240, .inl (MVOu v))]) ?_ rfl rfl rfl rfl
    refine go_s 4 X (pc2 := 8) (st2 := [.int 0, .ref 1, .int l1]) rfl ?_
    by_cases b1 : oob 0 500
    · rw [if_pos b1] at h; cases h
    rw [if_neg b1] at h
    refine r_iald X rfl rfl b1 ?_
    refine r_icmp_ge X 31 rfl rfl (fun c2 => ?_) (fun c2 => ?_)
    · rw [if_pos c2] at h
      refine go_s 1 X (pc2 := 32) (st2 := [.int (-1)]) rfl ?_
      cases h
      exact r_iret X rfl rfl ⟨rfl, rfl⟩ (by decide) (by decide)
    · rw [if_neg c2] at h
      refine go_s 2 X (pc2 := 14) (st2 := [.int l1, .ref 0]) rfl ?_
      obtain ⟨r4, hq3, h⟩ := obind_inv h
      refine q_callS X [] [] (AH2 := [.inr (9, [.ref 1, .ref 2, .ref 3, .ref 4, .int (MVPc v), .int (MVIs v), .int (MVTh v), .ref 5, .int (MVSl v), .ref 6, .int (MVLn v), .int (MVEc v), .int (MVEo v), .int (MVSa v), .int (MVEn v), .int (MVTk v), .int (MVVa v), .int (MVFa v), .int (MVFo v), .ref 7, .int (MVSc v), .ref 8, .ref 9, .int (MVOl v)]), .inl (0, 500, .inl (MVSt v)), .inl (0, 500, .inl (MVAs v)), .inl (0, 500, .inl (MVSv v)), .inl (0, 4000, .inl (MVPt v)), .inl (0, 6, .inl (MVSp v)), .inl (3, 600, .inl (MVBf v)), .inl (0, 150, .inl (MVSm v)), .inl (0, 40, .inl (MVOr v)), .inl (3, 240, .inl (MVOu v))]) (st2 := [.int r4, .ref 0]) (c_X9_q _ _ hq3) ⟨rfl, rfl⟩ rfl k_X9_q l_X9_77 rfl rfl (fit_of hR (by decide) (by decide) (by decide) (by decide)) (Nat.le_of_ble_eq_true rfl) (by decide) rfl rfl rfl ?_
      obtain ⟨r7, hq6, h⟩ := obind_inv h
      refine q_callV X [0, 1, 2, 3, 4, 5, 6, 7, 8, 9] [] (AH2 := [.inr (9, [.ref 1, .ref 2, .ref 3, .ref 4, .int (MVPc v), .int (MVIs v), .int (MVTh v), .ref 5, .int (MVSl v), .ref 6, .int (MVLn v), .int (MVEc v), .int (MVEo v), .int (MVSa v), .int (MVEn v), .int (MVTk v), .int (MVVa v), .int (MVFa v), .int (MVFo v), .ref 7, .int (MVSc v), .ref 8, .ref 9, .int (MVOl v)]), .inl (0, 500, .inl (MVSt v)), .inl (0, 500, .inl (MVAs v)), .inl (0, 500, .inl (MVSv v)), .inl (0, 4000, .inl (MVPt v)), .inl (0, 6, .inl (MVSp v)), .inl (3, 600, .inl (MVBf v)), .inl (0, 150, .inl (MVSm v)), .inl (0, 40, .inl (MVOr v)), .inl (3, 240, .inl (MVOu v))]) (st2 := [.int r7]) (c_X9_isSpelledAt _ _ _ hq6) ⟨rfl, rfl⟩ rfl k_X9_isSpelledAt l_X9_80 rfl rfl rfl rfl rfl (fit_of hR (by decide) (by decide) (by decide) (by decide)) (Nat.le_of_ble_eq_true rfl) (by decide) rfl rfl rfl ?_
      refine r_if_eq X 25 rfl rfl (fun c9 => ?_) (fun c9 => ?_)
      · rw [if_pos c9] at h
        refine go_l 2 X (pc2 := 2) (ls2 := [some (.ref 0), some (.int (l1 + 1))]) (st2 := []) rfl ?_
        exact AW.eq (ih _ _ _ h) rfl rfl rfl rfl
      · rw [if_neg c9] at h
        refine go_s 1 X (pc2 := 24) (st2 := [.int l1]) rfl ?_
        cases h
        exact r_iret X rfl rfl ⟨rfl, rfl⟩ (by decide) (by decide)
set_option maxHeartbeats 400000 in
set_option maxRecDepth 20000 in
theorem c_X9_spelledQueue (v : MV) (r : Int32) (h : f_X9_spelledQueue v = some r) : Sem z_X9_spelledQueue 1 0 0 [.ref 0] (WM v) (PST (.inl (some (.int r))) (WM v)) := by
  refine Sem.of zo_X9_spelledQueue (by decide +kernel) (Nat.le_of_ble_eq_true rfl) fun κ X hE hR hN => ?_
  unfold f_X9_spelledQueue at h
  refine AW.eq (pc' := 0) (ls' := [some (.ref 0), none]) (st' := []) (AH' := [.inr (9, [.ref 1, .ref 2, .ref 3, .ref 4, .int (MVPc v), .int (MVIs v), .int (MVTh v), .ref 5, .int (MVSl v), .ref 6, .int (MVLn v), .int (MVEc v), .int (MVEo v), .int (MVSa v), .int (MVEn v), .int (MVTk v), .int (MVVa v), .int (MVFa v), .int (MVFo v), .ref 7, .int (MVSc v), .ref 8, .ref 9, .int (MVOl v)]), .inl (0, 500, .inl (MVSt v)), .inl (0, 500, .inl (MVAs v)), .inl (0, 500, .inl (MVSv v)), .inl (0, 4000, .inl (MVPt v)), .inl (0, 6, .inl (MVSp v)), .inl (3, 600, .inl (MVBf v)), .inl (0, 150, .inl (MVSm v)), .inl (0, 40, .inl (MVOr v)), .inl (3, 240, .inl (MVOu v))]) ?_ rfl rfl rfl rfl
  refine go_l 2 X (pc2 := 2) (ls2 := [some (.ref 0), some (.int 0)]) (st2 := []) rfl ?_
  exact AW.eq (a_X9_spelledQueue_h2 X hR FU _ _ _ h) rfl rfl rfl rfl
set_option maxHeartbeats 400000 in
set_option maxRecDepth 20000 in
theorem a_X9_parseKnownQueue_j43 {κ : KX} (X : CX κ z_X9_parseKnownQueue) (hR : κR κ = rmM 3 0 0) : ∀ (l2 : Int32) (s0 : Int32) (v : MV) (r : Int32) (w : MV) (h : f_X9_parseKnownQueue_j43 l2 s0 v = some (r, w)), AW κ (QM κ (PST (.inl (some (.int r))) (WM w)) 0 0) 43 [some (.ref 0), none, some (.int l2)] [.int s0, .ref 0] (WM v) 0 0 := by
  intro l2 s0 v r w h
  unfold f_X9_parseKnownQueue_j43 at h
  refine AW.eq (pc' := 43) (ls' := [some (.ref 0), none, some (.int l2)]) (st' := [.int s0, .ref 0]) (AH' := [.inr (9, [.ref 1, .ref 2, .ref 3, .ref 4, .int (MVPc v), .int (MVIs v), .int (MVTh v), .ref 5, .int (MVSl v), .ref 6, .int (MVLn v), .int (MVEc v), .int (MVEo v), .int (MVSa v), .int (MVEn v), .int (MVTk v), .int (MVVa v), .int (MVFa v), .int (MVFo v), .ref 7, .int (MVSc v), .ref 8, .ref 9, .int (MVOl v)]), .inl (0, 500, .inl (MVSt v)), .inl (0, 500, .inl (MVAs v)), .inl (0, 500, .inl (MVSv v)), .inl (0, 4000, .inl (MVPt v)), .inl (0, 6, .inl (MVSp v)), .inl (3, 600, .inl (MVBf v)), .inl (0, 150, .inl (MVSm v)), .inl (0, 40, .inl (MVOr v)), .inl (3, 240, .inl (MVOu v))]) ?_ rfl rfl rfl rfl
  refine go_s 1 X (pc2 := 44) (st2 := [.int 3, .int s0, .ref 0]) rfl ?_
  obtain ⟨r7, w8, hq6, h⟩ := bnd2_inv h
  refine q_callV X [0, 1, 2, 3, 4, 5, 6, 7, 8, 9] [] (AH2 := [.inr (9, [.ref 1, .ref 2, .ref 3, .ref 4, .int (MVPc w8), .int (MVIs w8), .int (MVTh w8), .ref 5, .int (MVSl w8), .ref 6, .int (MVLn w8), .int (MVEc w8), .int (MVEo w8), .int (MVSa w8), .int (MVEn w8), .int (MVTk w8), .int (MVVa w8), .int (MVFa w8), .int (MVFo w8), .ref 7, .int (MVSc w8), .ref 8, .ref 9, .int (MVOl w8)]), .inl (0, 500, .inl (MVSt w8)), .inl (0, 500, .inl (MVAs w8)), .inl (0, 500, .inl (MVSv w8)), .inl (0, 4000, .inl (MVPt w8)), .inl (0, 6, .inl (MVSp w8)), .inl (3, 600, .inl (MVBf w8)), .inl (0, 150, .inl (MVSm w8)), .inl (0, 40, .inl (MVOr w8)), .inl (3, 240, .inl (MVOu w8))]) (st2 := []) (c_X9_expect _ _ _ _ _ hq6) ⟨rfl, rfl⟩ rfl k_X9_expect l_X9_197 rfl rfl rfl rfl rfl (fit_of hR (by decide) (by decide) (by decide) (by decide)) (Nat.le_of_ble_eq_true rfl) (by decide) rfl rfl rfl ?_
  refine go_s 1 X (pc2 := 48) (st2 := [.ref 0]) rfl ?_
  obtain ⟨r10, w11, hq9, h⟩ := bnd2_inv h
  refine q_callV X [0, 1, 2, 3, 4, 5, 6, 7, 8, 9] [] (AH2 := [.inr (9, [.ref 1, .ref 2, .ref 3, .ref 4, .int (MVPc w11), .int (MVIs w11), .int (MVTh w11), .ref 5, .int (MVSl w11), .ref 6, .int (MVLn w11), .int (MVEc w11), .int (MVEo w11), .int (MVSa w11), .int (MVEn w11), .int (MVTk w11), .int (MVVa w11), .int (MVFa w11), .int (MVFo w11), .ref 7, .int (MVSc w11), .ref 8, .ref 9, .int (MVOl w11)]), .inl (0, 500, .inl (MVSt w11)), .inl (0, 500, .inl (MVAs w11)), .inl (0, 500, .inl (MVSv w11)), .inl (0, 4000, .inl (MVPt w11)), .inl (0, 6, .inl (MVSp w11)), .inl (3, 600, .inl (MVBf w11)), .inl (0, 150, .inl (MVSm w11)), .inl (0, 40, .inl (MVOr w11)), .inl (3, 240, .inl (MVOu w11))]) (st2 := []) (c_X9_advanceToken _ _ _ hq9) ⟨rfl, rfl⟩ rfl k_X9_advanceToken l_X9_191 rfl rfl rfl rfl rfl (fit_of hR (by decide) (by decide) (by decide) (by decide)) (Nat.le_of_ble_eq_true rfl) (by decide) rfl rfl rfl ?_
  refine go_s 2 X (pc2 := 53) (st2 := [.int l2, .int 0]) rfl ?_
  refine r_mmax X (d := 0) rfl (by decide +kernel) (by rw [hR]; exact ⟨by simp [rmM], by simp [rmM, csum, Value.category], by decide, by decide⟩) mm_smax mm_i mm_cmax ?_
  cases h
  exact r_iret X rfl rfl ⟨rfl, rfl⟩ (by decide) (by decide)
set_option maxHeartbeats 400000 in
set_option maxRecDepth 20000 in
theorem a_X9_parseKnownQueue_j38 {κ : KX} (X : CX κ z_X9_parseKnownQueue) (hR : κR κ = rmM 3 0 0) : ∀ (l2 : Int32) (v : MV) (r : Int32) (w : MV) (h : f_X9_parseKnownQueue_j38 l2 v = some (r, w)), AW κ (QM κ (PST (.inl (some (.int r))) (WM w)) 0 0) 38 [some (.ref 0), none, some (.int l2)] [.ref 0] (WM v) 0 0 := by
  intro l2 v r w h
  unfold f_X9_parseKnownQueue_j38 at h
  refine AW.eq (pc' := 38) (ls' := [some (.ref 0), none, some (.int l2)]) (st' := [.ref 0]) (AH' := [.inr (9, [.ref 1, .ref 2, .ref 3, .ref 4, .int (MVPc v), .int (MVIs v), .int (MVTh v), .ref 5, .int (MVSl v), .ref 6, .int (MVLn v), .int (MVEc v), .int (MVEo v), .int (MVSa v), .int (MVEn v), .int (MVTk v), .int (MVVa v), .int (MVFa v), .int (MVFo v), .ref 7, .int (MVSc v), .ref 8, .ref 9, .int (MVOl v)]), .inl (0, 500, .inl (MVSt v)), .inl (0, 500, .inl (MVAs v)), .inl (0, 500, .inl (MVSv v)), .inl (0, 4000, .inl (MVPt v)), .inl (0, 6, .inl (MVSp v)), .inl (3, 600, .inl (MVBf v)), .inl (0, 150, .inl (MVSm v)), .inl (0, 40, .inl (MVOr v)), .inl (3, 240, .inl (MVOu v))]) ?_ rfl rfl rfl rfl
  refine go_s 2 X (pc2 := 43) (st2 := [.int 1, .ref 0]) rfl ?_
  exact AW.eq (a_X9_parseKnownQueue_j43 X hR _ _ _ _ _ h) rfl rfl rfl rfl
set_option maxHeartbeats 400000 in
set_option maxRecDepth 20000 in
theorem a_X9_parseKnownQueue_j42 {κ : KX} (X : CX κ z_X9_parseKnownQueue) (hR : κR κ = rmM 3 0 0) : ∀ (l2 : Int32) (v : MV) (r : Int32) (w : MV) (h : f_X9_parseKnownQueue_j42 l2 v = some (r, w)), AW κ (QM κ (PST (.inl (some (.int r))) (WM w)) 0 0) 42 [some (.ref 0), none, some (.int l2)] [.ref 0] (WM v) 0 0 := by
  intro l2 v r w h
  unfold f_X9_parseKnownQueue_j42 at h
  refine AW.eq (pc' := 42) (ls' := [some (.ref 0), none, some (.int l2)]) (st' := [.ref 0]) (AH' := [.inr (9, [.ref 1, .ref 2, .ref 3, .ref 4, .int (MVPc v), .int (MVIs v), .int (MVTh v), .ref 5, .int (MVSl v), .ref 6, .int (MVLn v), .int (MVEc v), .int (MVEo v), .int (MVSa v), .int (MVEn v), .int (MVTk v), .int (MVVa v), .int (MVFa v), .int (MVFo v), .ref 7, .int (MVSc v), .ref 8, .ref 9, .int (MVOl v)]), .inl (0, 500, .inl (MVSt v)), .inl (0, 500, .inl (MVAs v)), .inl (0, 500, .inl (MVSv v)), .inl (0, 4000, .inl (MVPt v)), .inl (0, 6, .inl (MVSp v)), .inl (3, 600, .inl (MVBf v)), .inl (0, 150, .inl (MVSm v)), .inl (0, 40, .inl (MVOr v)), .inl (3, 240, .inl (MVOu v))]) ?_ rfl rfl rfl rfl
  refine go_s 1 X (pc2 := 43) (st2 := [.int 0, .ref 0]) rfl ?_
  exact AW.eq (a_X9_parseKnownQueue_j43 X hR _ _ _ _ _ h) rfl rfl rfl rfl
set_option maxHeartbeats 400000 in
set_option maxRecDepth 20000 in
theorem a_X9_parseKnownQueue_j19 {κ : KX} (X : CX κ z_X9_parseKnownQueue) (hR : κR κ = rmM 3 0 0) : ∀ (l1 : Int32) (s0 : Int32) (v : MV) (r : Int32) (w : MV) (h : f_X9_parseKnownQueue_j19 l1 s0 v = some (r, w)), AW κ (QM κ (PST (.inl (some (.int r))) (WM w)) 0 0) 19 [some (.ref 0), some (.int l1), none] [.int s0] (WM v) 0 0 := by
  intro l1 s0 v r w h
  unfold f_X9_parseKnownQueue_j19 at h
  refine AW.eq (pc' := 19) (ls' := [some (.ref 0), some (.int l1), none]) (st' := [.int s0]) (AH' := [.inr (9, [.ref 1, .ref 2, .ref 3, .ref 4, .int (MVPc v), .int (MVIs v), .int (MVTh v), .ref 5, .int (MVSl v), .ref 6, .int (MVLn v), .int (MVEc v), .int (MVEo v), .int (MVSa v), .int (MVEn v), .int (MVTk v), .int (MVVa v), .int (MVFa v), .int (MVFo v), .ref 7, .int (MVSc v), .ref 8, .ref 9, .int (MVOl v)]), .inl (0, 500, .inl (MVSt v)), .inl (0, 500, .inl (MVAs v)), .inl (0, 500, .inl (MVSv v)), .inl (0, 4000, .inl (MVPt v)), .inl (0, 6, .inl (MVSp v)), .inl (3, 600, .inl (MVBf v)), .inl (0, 150, .inl (MVSm v)), .inl (0, 40, .inl (MVOr v)), .inl (3, 240, .inl (MVOu v))]) ?_ rfl rfl rfl rfl
  refine go_l 4 X (pc2 := 25) (ls2 := [some (.ref 0), some (.int l1), some (.int s0)]) (st2 := [.int (MVFa v), .ref 0]) rfl ?_
  refine r_if_gt X 38 rfl rfl (fun c5 => ?_) (fun c5 => ?_)
  · rw [if_pos c5] at h
    refine AW.forget (ls' := [some (.ref 0), none, some (.int s0)]) rfl (subL_of ⟨rfl, ⟨rfl, trivial⟩⟩) ?_
    exact AW.eq (a_X9_parseKnownQueue_j38 X hR _ _ _ _ h) rfl rfl rfl rfl
  · rw [if_neg c5] at h
    refine go_s 2 X (pc2 := 30) (st2 := [.int (-1), .int s0, .ref 0]) rfl ?_
    refine r_icmp_eq X 42 rfl rfl (fun c12 => ?_) (fun c12 => ?_)
    · rw [if_pos c12] at h
      refine AW.forget (ls' := [some (.ref 0), none, some (.int s0)]) rfl (subL_of ⟨rfl, ⟨rfl, trivial⟩⟩) ?_
      exact AW.eq (a_X9_parseKnownQueue_j42 X hR _ _ _ _ h) rfl rfl rfl rfl
    · rw [if_neg c12] at h
      refine go_s 2 X (pc2 := 35) (st2 := [.int l1, .int s0, .ref 0]) rfl ?_
      refine r_icmp_eq X 42 rfl rfl (fun c13 => ?_) (fun c13 => ?_)
      · rw [if_pos c13] at h
        refine AW.forget (ls' := [some (.ref 0), none, some (.int s0)]) rfl (subL_of ⟨rfl, ⟨rfl, trivial⟩⟩) ?_
        exact AW.eq (a_X9_parseKnownQueue_j42 X hR _ _ _ _ h) rfl rfl rfl rfl
      · rw [if_neg c13] at h
        refine AW.forget (ls' := [some (.ref 0), none, some (.int s0)]) rfl (subL_of ⟨rfl, ⟨rfl, trivial⟩⟩) ?_
        exact AW.eq (a_X9_parseKnownQueue_j38 X hR _ _ _ _ h) rfl rfl rfl rfl
set_option maxHeartbeats 400000 in
set_option maxRecDepth 20000 in
theorem c_X9_parseKnownQueue (v : MV) (a : Int32) (r : Int32) (w : MV) (h : f_X9_parseKnownQueue v a = some (r, w)) : Sem z_X9_parseKnownQueue 3 0 0 [.ref 0, .int a] (WM v) (PST (.inl (some (.int r))) (WM w)) := by
  refine Sem.of zo_X9_parseKnownQueue (by decide +kernel) (Nat.le_of_ble_eq_true rfl) fun κ X hE hR hN => ?_
  unfold f_X9_parseKnownQueue at h
  refine AW.eq (pc' := 0) (ls' := [some (.ref 0), some (.int a), none]) (st' := []) (AH' := [.inr (9, [.ref 1, .ref 2, .ref 3, .ref 4, .int (MVPc v), .int (MVIs v), .int (MVTh v), .ref 5, .int (MVSl v), .ref 6, .int (MVLn v), .int (MVEc v), .int (MVEo v), .int (MVSa v), .int (MVEn v), .int (MVTk v), .int (MVVa v), .int (MVFa v), .int (MVFo v), .ref 7, .int (MVSc v), .ref 8, .ref 9, .int (MVOl v)]), .inl (0, 500, .inl (MVSt v)), .inl (0, 500, .inl (MVAs v)), .inl (0, 500, .inl (MVSv v)), .inl (0, 4000, .inl (MVPt v)), .inl (0, 6, .inl (MVSp v)), .inl (3, 600, .inl (MVBf v)), .inl (0, 150, .inl (MVSm v)), .inl (0, 40, .inl (MVOr v)), .inl (3, 240, .inl (MVOu v))]) ?_ rfl rfl rfl rfl
  refine go_s 1 X (pc2 := 1) (st2 := [.ref 0]) rfl ?_
  obtain ⟨r2, w3, hq1, h⟩ := bnd2_inv h
  refine q_callV X [0, 1, 2, 3, 4, 5, 6, 7, 8, 9] [] (AH2 := [.inr (9, [.ref 1, .ref 2, .ref 3, .ref 4, .int (MVPc w3), .int (MVIs w3), .int (MVTh w3), .ref 5, .int (MVSl w3), .ref 6, .int (MVLn w3), .int (MVEc w3), .int (MVEo w3), .int (MVSa w3), .int (MVEn w3), .int (MVTk w3), .int (MVVa w3), .int (MVFa w3), .int (MVFo w3), .ref 7, .int (MVSc w3), .ref 8, .ref 9, .int (MVOl w3)]), .inl (0, 500, .inl (MVSt w3)), .inl (0, 500, .inl (MVAs w3)), .inl (0, 500, .inl (MVSv w3)), .inl (0, 4000, .inl (MVPt w3)), .inl (0, 6, .inl (MVSp w3)), .inl (3, 600, .inl (MVBf w3)), .inl (0, 150, .inl (MVSm w3)), .inl (0, 40, .inl (MVOr w3)), .inl (3, 240, .inl (MVOu w3))]) (st2 := []) (c_X9_spellName _ _ _ hq1) ⟨rfl, rfl⟩ rfl k_X9_spellName l_X9_201 rfl rfl rfl rfl rfl (fit_of hR (by decide) (by decide) (by decide) (by decide)) (Nat.le_of_ble_eq_true rfl) (by decide) rfl rfl rfl ?_
  refine go_s 2 X (pc2 := 8) (st2 := [.int (MVFa w3)]) rfl ?_
  refine r_if_ne X 18 rfl rfl (fun c4 => ?_) (fun c4 => ?_)
  · rw [if_neg c4] at h
    refine go_s 1 X (pc2 := 19) (st2 := [.int 0]) rfl ?_
    exact AW.eq (a_X9_parseKnownQueue_j19 X hR _ _ _ _ _ h) rfl rfl rfl rfl
  · rw [if_pos c4] at h
    refine go_s 1 X (pc2 := 12) (st2 := [.ref 0]) rfl ?_
    obtain ⟨r15, hq14, h⟩ := obind_inv h
    refine q_callV X [0, 1, 2, 3, 4, 5, 6, 7, 8, 9] [] (AH2 := [.inr (9, [.ref 1, .ref 2, .ref 3, .ref 4, .int (MVPc w3), .int (MVIs w3), .int (MVTh w3), .ref 5, .int (MVSl w3), .ref 6, .int (MVLn w3), .int (MVEc w3), .int (MVEo w3), .int (MVSa w3), .int (MVEn w3), .int (MVTk w3), .int (MVVa w3), .int (MVFa w3), .int (MVFo w3), .ref 7, .int (MVSc w3), .ref 8, .ref 9, .int (MVOl w3)]), .inl (0, 500, .inl (MVSt w3)), .inl (0, 500, .inl (MVAs w3)), .inl (0, 500, .inl (MVSv w3)), .inl (0, 4000, .inl (MVPt w3)), .inl (0, 6, .inl (MVSp w3)), .inl (3, 600, .inl (MVBf w3)), .inl (0, 150, .inl (MVSm w3)), .inl (0, 40, .inl (MVOr w3)), .inl (3, 240, .inl (MVOu w3))]) (st2 := [.int r15]) (c_X9_spelledQueue _ _ hq14) ⟨rfl, rfl⟩ rfl k_X9_spelledQueue l_X9_204 rfl rfl rfl rfl rfl (fit_of hR (by decide) (by decide) (by decide) (by decide)) (Nat.le_of_ble_eq_true rfl) (by decide) rfl rfl rfl ?_
    refine go_s 1 X (pc2 := 19) (st2 := [.int r15]) rfl ?_
    exact AW.eq (a_X9_parseKnownQueue_j19 X hR _ _ _ _ _ h) rfl rfl rfl rfl
set_option maxHeartbeats 400000 in
set_option maxRecDepth 20000 in
theorem a_X9_spelledOwner_h2 {κ : KX} (X : CX κ z_X9_spelledOwner) (hR : κR κ = rmM 1 0 0) : ∀ (n : Nat) (l1 : Int32) (v : MV) (r : Int32) (h : f_X9_spelledOwner_h2 n l1 v = some r), AW κ (QM κ (PST (.inl (some (.int r))) (WM v)) 0 0) 2 [some (.ref 0), some (.int l1)] [] (WM v) 0 0 := by
  intro n
  induction n with
  | zero =>
    intro l1 v r h
    unfold f_X9_spelledOwner_h2 at h
    cases h
  | succ n ih =>
    intro l1 v r h
    unfold f_X9_spelledOwner_h2 at h
    refine AW.eq (pc' := 2) (ls' := [some (.ref 0), some (.int l1)]) (st' := []) (AH' := [.inr (9, [.ref 1, .ref 2, .ref 3, .ref 4, .int (MVPc v), .int (MVIs v), .int (MVTh v), .ref 5, .int (MVSl v), .ref 6, .int (MVLn v), .int (MVEc v), .int (MVEo v), .int (MVSa v), .int (MVEn v), .int (MVTk v), .int (MVVa v), .int (MVFa v), .int (MVFo v), .ref 7, .int (MVSc v), .ref 8, .ref 9, .int (MVOl v)]), .inl (0, 500, .inl (MVSt v)), .inl (0, 500, .inl (MVAs v)), .inl (0, 500, .inl (MVSv v)), .inl (0, 4000, .inl (MVPt v)), .inl (0, 6, .inl (MVSp v)), .inl (3, 600, .inl (MVBf v)), .inl (0, 150, .inl (MVSm v)), .inl (0, 40, .inl (MVOr v)), .inl (3, 240, .inl (MVOu v))]) ?_ rfl rfl rfl rfl
    refine go_s 4 X (pc2 := 8) (st2 := [.int 1, .ref 1, .int l1]) rfl ?_
    by_cases b1 : oob 1 500
    · rw [if_pos b1] at h; cases h
    rw [if_neg b1] at h
    refine r_iald X rfl rfl b1 ?_
    refine r_icmp_ge X 31 rfl rfl (fun c2 => ?_) (fun c2 => ?_)
    · rw [if_pos c2] at h
      refine go_s 1 X (pc2 := 32) (st2 := [.int (-1)]) rfl ?_
      cases h
      exact r_iret X rfl rfl ⟨rfl, rfl⟩ (by decide) (by decide)
    · rw [if_neg c2] at h
      refine go_s 2 X (pc2 := 14) (st2 := [.int l1, .ref 0]) rfl ?_
      obtain ⟨r4, hq3, h⟩ := obind_inv h
      refine q_callS X [] [] (AH2 := [.inr (9, [.ref 1, .ref 2, .ref 3, .ref 4, .int (MVPc v), .int (MVIs v), .int (MVTh v), .ref 5, .int (MVSl v), .ref 6, .int (MVLn v), .int (MVEc v), .int (MVEo v), .int (MVSa v), .int (MVEn v), .int (MVTk v), .int (MVVa v), .int (MVFa v), .int (MVFo v), .ref 7, .int (MVSc v), .ref 8, .ref 9, .int (MVOl v)]), .inl (0, 500, .inl (MVSt v)), .inl (0, 500, .inl (MVAs v)), .inl (0, 500, .inl (MVSv v)), .inl (0, 4000, .inl (MVPt v)), .inl (0, 6, .inl (MVSp v)), .inl (3, 600, .inl (MVBf v)), .inl (0, 150, .inl (MVSm v)), .inl (0, 40, .inl (MVOr v)), .inl (3, 240, .inl (MVOu v))]) (st2 := [.int r4, .ref 0]) (c_X9_o _ _ hq3) ⟨rfl, rfl⟩ rfl k_X9_o l_X9_84 rfl rfl (fit_of hR (by decide) (by decide) (by decide) (by decide)) (Nat.le_of_ble_eq_true rfl) (by decide) rfl rfl rfl ?_
      obtain ⟨r7, hq6, h⟩ := obind_inv h
      refine q_callV X [0, 1, 2, 3, 4, 5, 6, 7, 8, 9] [] (AH2 := [.inr (9, [.ref 1, .ref 2, .ref 3, .ref 4, .int (MVPc v), .int (MVIs v), .int (MVTh v), .ref 5, .int (MVSl v), .ref 6, .int (MVLn v), .int (MVEc v), .int (MVEo v), .int (MVSa v), .int (MVEn v), .int (MVTk v), .int (MVVa v), .int (MVFa v), .int (MVFo v), .ref 7, .int (MVSc v), .ref 8, .ref 9, .int (MVOl v)]), .inl (0, 500, .inl (MVSt v)), .inl (0, 500, .inl (MVAs v)), .inl (0, 500, .inl (MVSv v)), .inl (0, 4000, .inl (MVPt v)), .inl (0, 6, .inl (MVSp v)), .inl (3, 600, .inl (MVBf v)), .inl (0, 150, .inl (MVSm v)), .inl (0, 40, .inl (MVOr v)), .inl (3, 240, .inl (MVOu v))]) (st2 := [.int r7]) (c_X9_isSpelledAt _ _ _ hq6) ⟨rfl, rfl⟩ rfl k_X9_isSpelledAt l_X9_80 rfl rfl rfl rfl rfl (fit_of hR (by decide) (by decide) (by decide) (by decide)) (Nat.le_of_ble_eq_true rfl) (by decide) rfl rfl rfl ?_
      refine r_if_eq X 25 rfl rfl (fun c9 => ?_) (fun c9 => ?_)
      · rw [if_pos c9] at h
        refine go_l 2 X (pc2 := 2) (ls2 := [some (.ref 0), some (.int (l1 + 1))]) (st2 := []) rfl ?_
        exact AW.eq (ih _ _ _ h) rfl rfl rfl rfl
      · rw [if_neg c9] at h
        refine go_s 1 X (pc2 := 24) (st2 := [.int l1]) rfl ?_
        cases h
        exact r_iret X rfl rfl ⟨rfl, rfl⟩ (by decide) (by decide)
set_option maxHeartbeats 400000 in
set_option maxRecDepth 20000 in
theorem c_X9_spelledOwner (v : MV) (r : Int32) (h : f_X9_spelledOwner v = some r) : Sem z_X9_spelledOwner 1 0 0 [.ref 0] (WM v) (PST (.inl (some (.int r))) (WM v)) := by
  refine Sem.of zo_X9_spelledOwner (by decide +kernel) (Nat.le_of_ble_eq_true rfl) fun κ X hE hR hN => ?_
  unfold f_X9_spelledOwner at h
  refine AW.eq (pc' := 0) (ls' := [some (.ref 0), none]) (st' := []) (AH' := [.inr (9, [.ref 1, .ref 2, .ref 3, .ref 4, .int (MVPc v), .int (MVIs v), .int (MVTh v), .ref 5, .int (MVSl v), .ref 6, .int (MVLn v), .int (MVEc v), .int (MVEo v), .int (MVSa v), .int (MVEn v), .int (MVTk v), .int (MVVa v), .int (MVFa v), .int (MVFo v), .ref 7, .int (MVSc v), .ref 8, .ref 9, .int (MVOl v)]), .inl (0, 500, .inl (MVSt v)), .inl (0, 500, .inl (MVAs v)), .inl (0, 500, .inl (MVSv v)), .inl (0, 4000, .inl (MVPt v)), .inl (0, 6, .inl (MVSp v)), .inl (3, 600, .inl (MVBf v)), .inl (0, 150, .inl (MVSm v)), .inl (0, 40, .inl (MVOr v)), .inl (3, 240, .inl (MVOu v))]) ?_ rfl rfl rfl rfl
  refine go_l 2 X (pc2 := 2) (ls2 := [some (.ref 0), some (.int 0)]) (st2 := []) rfl ?_
  exact AW.eq (a_X9_spelledOwner_h2 X hR FU _ _ _ h) rfl rfl rfl rfl
set_option maxHeartbeats 400000 in
set_option maxRecDepth 20000 in
theorem a_X9_parseKnownOwner_j31 {κ : KX} (X : CX κ z_X9_parseKnownOwner) (hR : κR κ = rmM 3 0 0) : ∀ (l1 : Int32) (s0 : Int32) (v : MV) (r : Int32) (w : MV) (h : f_X9_parseKnownOwner_j31 l1 s0 v = some (r, w)), AW κ (QM κ (PST (.inl (some (.int r))) (WM w)) 0 0) 31 [some (.ref 0), some (.int l1)] [.int s0, .ref 0] (WM v) 0 0 := by
  intro l1 s0 v r w h
  unfold f_X9_parseKnownOwner_j31 at h
  refine AW.eq (pc' := 31) (ls' := [some (.ref 0), some (.int l1)]) (st' := [.int s0, .ref 0]) (AH' := [.inr (9, [.ref 1, .ref 2, .ref 3, .ref 4, .int (MVPc v), .int (MVIs v), .int (MVTh v), .ref 5, .int (MVSl v), .ref 6, .int (MVLn v), .int (MVEc v), .int (MVEo v), .int (MVSa v), .int (MVEn v), .int (MVTk v), .int (MVVa v), .int (MVFa v), .int (MVFo v), .ref 7, .int (MVSc v), .ref 8, .ref 9, .int (MVOl v)]), .inl (0, 500, .inl (MVSt v)), .inl (0, 500, .inl (MVAs v)), .inl (0, 500, .inl (MVSv v)), .inl (0, 4000, .inl (MVPt v)), .inl (0, 6, .inl (MVSp v)), .inl (3, 600, .inl (MVBf v)), .inl (0, 150, .inl (MVSm v)), .inl (0, 40, .inl (MVOr v)), .inl (3, 240, .inl (MVOu v))]) ?_ rfl rfl rfl rfl
  refine go_s 1 X (pc2 := 32) (st2 := [.int 3, .int s0, .ref 0]) rfl ?_
  obtain ⟨r7, w8, hq6, h⟩ := bnd2_inv h
  refine q_callV X [0, 1, 2, 3, 4, 5, 6, 7, 8, 9] [] (AH2 := [.inr (9, [.ref 1, .ref 2, .ref 3, .ref 4, .int (MVPc w8), .int (MVIs w8), .int (MVTh w8), .ref 5, .int (MVSl w8), .ref 6, .int (MVLn w8), .int (MVEc w8), .int (MVEo w8), .int (MVSa w8), .int (MVEn w8), .int (MVTk w8), .int (MVVa w8), .int (MVFa w8), .int (MVFo w8), .ref 7, .int (MVSc w8), .ref 8, .ref 9, .int (MVOl w8)]), .inl (0, 500, .inl (MVSt w8)), .inl (0, 500, .inl (MVAs w8)), .inl (0, 500, .inl (MVSv w8)), .inl (0, 4000, .inl (MVPt w8)), .inl (0, 6, .inl (MVSp w8)), .inl (3, 600, .inl (MVBf w8)), .inl (0, 150, .inl (MVSm w8)), .inl (0, 40, .inl (MVOr w8)), .inl (3, 240, .inl (MVOu w8))]) (st2 := []) (c_X9_expect _ _ _ _ _ hq6) ⟨rfl, rfl⟩ rfl k_X9_expect l_X9_197 rfl rfl rfl rfl rfl (fit_of hR (by decide) (by decide) (by decide) (by decide)) (Nat.le_of_ble_eq_true rfl) (by decide) rfl rfl rfl ?_
  refine go_s 1 X (pc2 := 36) (st2 := [.ref 0]) rfl ?_
  obtain ⟨r10, w11, hq9, h⟩ := bnd2_inv h
  refine q_callV X [0, 1, 2, 3, 4, 5, 6, 7, 8, 9] [] (AH2 := [.inr (9, [.ref 1, .ref 2, .ref 3, .ref 4, .int (MVPc w11), .int (MVIs w11), .int (MVTh w11), .ref 5, .int (MVSl w11), .ref 6, .int (MVLn w11), .int (MVEc w11), .int (MVEo w11), .int (MVSa w11), .int (MVEn w11), .int (MVTk w11), .int (MVVa w11), .int (MVFa w11), .int (MVFo w11), .ref 7, .int (MVSc w11), .ref 8, .ref 9, .int (MVOl w11)]), .inl (0, 500, .inl (MVSt w11)), .inl (0, 500, .inl (MVAs w11)), .inl (0, 500, .inl (MVSv w11)), .inl (0, 4000, .inl (MVPt w11)), .inl (0, 6, .inl (MVSp w11)), .inl (3, 600, .inl (MVBf w11)), .inl (0, 150, .inl (MVSm w11)), .inl (0, 40, .inl (MVOr w11)), .inl (3, 240, .inl (MVOu w11))]) (st2 := []) (c_X9_advanceToken _ _ _ hq9) ⟨rfl, rfl⟩ rfl k_X9_advanceToken l_X9_191 rfl rfl rfl rfl rfl (fit_of hR (by decide) (by decide) (by decide) (by decide)) (Nat.le_of_ble_eq_true rfl) (by decide) rfl rfl rfl ?_
  refine go_s 2 X (pc2 := 41) (st2 := [.int l1, .int 0]) rfl ?_
  refine r_mmax X (d := 0) rfl (by decide +kernel) (by rw [hR]; exact ⟨by simp [rmM], by simp [rmM, csum, Value.category], by decide, by decide⟩) mm_smax mm_i mm_cmax ?_
  cases h
  exact r_iret X rfl rfl ⟨rfl, rfl⟩ (by decide) (by decide)
set_option maxHeartbeats 400000 in
set_option maxRecDepth 20000 in
theorem a_X9_parseKnownOwner_j19 {κ : KX} (X : CX κ z_X9_parseKnownOwner) (hR : κR κ = rmM 3 0 0) : ∀ (s0 : Int32) (v : MV) (r : Int32) (w : MV) (h : f_X9_parseKnownOwner_j19 s0 v = some (r, w)), AW κ (QM κ (PST (.inl (some (.int r))) (WM w)) 0 0) 19 [some (.ref 0), none] [.int s0] (WM v) 0 0 := by
  intro s0 v r w h
  unfold f_X9_parseKnownOwner_j19 at h
  refine AW.eq (pc' := 19) (ls' := [some (.ref 0), none]) (st' := [.int s0]) (AH' := [.inr (9, [.ref 1, .ref 2, .ref 3, .ref 4, .int (MVPc v), .int (MVIs v), .int (MVTh v), .ref 5, .int (MVSl v), .ref 6, .int (MVLn v), .int (MVEc v), .int (MVEo v), .int (MVSa v), .int (MVEn v), .int (MVTk v), .int (MVVa v), .int (MVFa v), .int (MVFo v), .ref 7, .int (MVSc v), .ref 8, .ref 9, .int (MVOl v)]), .inl (0, 500, .inl (MVSt v)), .inl (0, 500, .inl (MVAs v)), .inl (0, 500, .inl (MVSv v)), .inl (0, 4000, .inl (MVPt v)), .inl (0, 6, .inl (MVSp v)), .inl (3, 600, .inl (MVBf v)), .inl (0, 150, .inl (MVSm v)), .inl (0, 40, .inl (MVOr v)), .inl (3, 240, .inl (MVOu v))]) ?_ rfl rfl rfl rfl
  refine go_l 4 X (pc2 := 23) (ls2 := [some (.ref 0), some (.int s0)]) (st2 := [.int (-1), .int s0, .ref 0]) rfl ?_
  refine r_icmp_eq X 30 rfl rfl (fun c5 => ?_) (fun c5 => ?_)
  · rw [if_pos c5] at h
    refine go_s 1 X (pc2 := 31) (st2 := [.int 0, .ref 0]) rfl ?_
    exact AW.eq (a_X9_parseKnownOwner_j31 X hR _ _ _ _ _ h) rfl rfl rfl rfl
  · rw [if_neg c5] at h
    refine go_s 2 X (pc2 := 31) (st2 := [.int 1, .ref 0]) rfl ?_
    exact AW.eq (a_X9_parseKnownOwner_j31 X hR _ _ _ _ _ h) rfl rfl rfl rfl
set_option maxHeartbeats 400000 in
set_option maxRecDepth 20000 in
theorem c_X9_parseKnownOwner (v : MV) (r : Int32) (w : MV) (h : f_X9_parseKnownOwner v = some (r, w)) : Sem z_X9_parseKnownOwner 3 0 0 [.ref 0] (WM v) (PST (.inl (some (.int r))) (WM w)) := by
  refine Sem.of zo_X9_parseKnownOwner (by decide +kernel) (Nat.le_of_ble_eq_true rfl) fun κ X hE hR hN => ?_
  unfold f_X9_parseKnownOwner at h
  refine AW.eq (pc' := 0) (ls' := [some (.ref 0), none]) (st' := []) (AH' := [.inr (9, [.ref 1, .ref 2, .ref 3, .ref 4, .int (MVPc v), .int (MVIs v), .int (MVTh v), .ref 5, .int (MVSl v), .ref 6, .int (MVLn v), .int (MVEc v), .int (MVEo v), .int (MVSa v), .int (MVEn v), .int (MVTk v), .int (MVVa v), .int (MVFa v), .int (MVFo v), .ref 7, .int (MVSc v), .ref 8, .ref 9, .int (MVOl v)]), .inl (0, 500, .inl (MVSt v)), .inl (0, 500, .inl (MVAs v)), .inl (0, 500, .inl (MVSv v)), .inl (0, 4000, .inl (MVPt v)), .inl (0, 6, .inl (MVSp v)), .inl (3, 600, .inl (MVBf v)), .inl (0, 150, .inl (MVSm v)), .inl (0, 40, .inl (MVOr v)), .inl (3, 240, .inl (MVOu v))]) ?_ rfl rfl rfl rfl
  refine go_s 1 X (pc2 := 1) (st2 := [.ref 0]) rfl ?_
  obtain ⟨r2, w3, hq1, h⟩ := bnd2_inv h
  refine q_callV X [0, 1, 2, 3, 4, 5, 6, 7, 8, 9] [] (AH2 := [.inr (9, [.ref 1, .ref 2, .ref 3, .ref 4, .int (MVPc w3), .int (MVIs w3), .int (MVTh w3), .ref 5, .int (MVSl w3), .ref 6, .int (MVLn w3), .int (MVEc w3), .int (MVEo w3), .int (MVSa w3), .int (MVEn w3), .int (MVTk w3), .int (MVVa w3), .int (MVFa w3), .int (MVFo w3), .ref 7, .int (MVSc w3), .ref 8, .ref 9, .int (MVOl w3)]), .inl (0, 500, .inl (MVSt w3)), .inl (0, 500, .inl (MVAs w3)), .inl (0, 500, .inl (MVSv w3)), .inl (0, 4000, .inl (MVPt w3)), .inl (0, 6, .inl (MVSp w3)), .inl (3, 600, .inl (MVBf w3)), .inl (0, 150, .inl (MVSm w3)), .inl (0, 40, .inl (MVOr w3)), .inl (3, 240, .inl (MVOu w3))]) (st2 := []) (c_X9_spellName _ _ _ hq1) ⟨rfl, rfl⟩ rfl k_X9_spellName l_X9_201 rfl rfl rfl rfl rfl (fit_of hR (by decide) (by decide) (by decide) (by decide)) (Nat.le_of_ble_eq_true rfl) (by decide) rfl rfl rfl ?_
  refine go_s 2 X (pc2 := 8) (st2 := [.int (MVFa w3)]) rfl ?_
  refine r_if_ne X 18 rfl rfl (fun c4 => ?_) (fun c4 => ?_)
  · rw [if_neg c4] at h
    refine go_s 1 X (pc2 := 19) (st2 := [.int 0]) rfl ?_
    exact AW.eq (a_X9_parseKnownOwner_j19 X hR _ _ _ _ h) rfl rfl rfl rfl
  · rw [if_pos c4] at h
    refine go_s 1 X (pc2 := 12) (st2 := [.ref 0]) rfl ?_
    obtain ⟨r13, hq12, h⟩ := obind_inv h
    refine q_callV X [0, 1, 2, 3, 4, 5, 6, 7, 8, 9] [] (AH2 := [.inr (9, [.ref 1, .ref 2, .ref 3, .ref 4, .int (MVPc w3), .int (MVIs w3), .int (MVTh w3), .ref 5, .int (MVSl w3), .ref 6, .int (MVLn w3), .int (MVEc w3), .int (MVEo w3), .int (MVSa w3), .int (MVEn w3), .int (MVTk w3), .int (MVVa w3), .int (MVFa w3), .int (MVFo w3), .ref 7, .int (MVSc w3), .ref 8, .ref 9, .int (MVOl w3)]), .inl (0, 500, .inl (MVSt w3)), .inl (0, 500, .inl (MVAs w3)), .inl (0, 500, .inl (MVSv w3)), .inl (0, 4000, .inl (MVPt w3)), .inl (0, 6, .inl (MVSp w3)), .inl (3, 600, .inl (MVBf w3)), .inl (0, 150, .inl (MVSm w3)), .inl (0, 40, .inl (MVOr w3)), .inl (3, 240, .inl (MVOu w3))]) (st2 := [.int r13]) (c_X9_spelledOwner _ _ hq12) ⟨rfl, rfl⟩ rfl k_X9_spelledOwner l_X9_212 rfl rfl rfl rfl rfl (fit_of hR (by decide) (by decide) (by decide) (by decide)) (Nat.le_of_ble_eq_true rfl) (by decide) rfl rfl rfl ?_
    refine go_s 1 X (pc2 := 19) (st2 := [.int r13]) rfl ?_
    exact AW.eq (a_X9_parseKnownOwner_j19 X hR _ _ _ _ h) rfl rfl rfl rfl
set_option maxHeartbeats 400000 in
set_option maxRecDepth 20000 in
theorem a_X9_parseNumber_j50 {κ : KX} (X : CX κ z_X9_parseNumber) (hR : κR κ = rmM 3 0 0) : ∀ (s0 : Int32) (v : MV) (r : Int32) (w : MV) (h : f_X9_parseNumber_j50 s0 v = some (r, w)), AW κ (QM κ (PST (.inl (some (.int r))) (WM w)) 0 0) 50 [some (.ref 0), none, none, none] [.int s0] (WM v) 0 0 := by
  intro s0 v r w h
  unfold f_X9_parseNumber_j50 at h
  refine AW.eq (pc' := 50) (ls' := [some (.ref 0), none, none, none]) (st' := [.int s0]) (AH' := [.inr (9, [.ref 1, .ref 2, .ref 3, .ref 4, .int (MVPc v), .int (MVIs v), .int (MVTh v), .ref 5, .int (MVSl v), .ref 6, .int (MVLn v), .int (MVEc v), .int (MVEo v), .int (MVSa v), .int (MVEn v), .int (MVTk v), .int (MVVa v), .int (MVFa v), .int (MVFo v), .ref 7, .int (MVSc v), .ref 8, .ref 9, .int (MVOl v)]), .inl (0, 500, .inl (MVSt v)), .inl (0, 500, .inl (MVAs v)), .inl (0, 500, .inl (MVSv v)), .inl (0, 4000, .inl (MVPt v)), .inl (0, 6, .inl (MVSp v)), .inl (3, 600, .inl (MVBf v)), .inl (0, 150, .inl (MVSm v)), .inl (0, 40, .inl (MVOr v)), .inl (3, 240, .inl (MVOu v))]) ?_ rfl rfl rfl rfl
  refine go_l 2 X (pc2 := 52) (ls2 := [some (.ref 0), none, none, some (.int s0)]) (st2 := [.ref 0]) rfl ?_
  obtain ⟨r13, w14, hq12, h⟩ := bnd2_inv h
  refine q_callV X [0, 1, 2, 3, 4, 5, 6, 7, 8, 9] [] (AH2 := [.inr (9, [.ref 1, .ref 2, .ref 3, .ref 4, .int (MVPc w14), .int (MVIs w14), .int (MVTh w14), .ref 5, .int (MVSl w14), .ref 6, .int (MVLn w14), .int (MVEc w14), .int (MVEo w14), .int (MVSa w14), .int (MVEn w14), .int (MVTk w14), .int (MVVa w14), .int (MVFa w14), .int (MVFo w14), .ref 7, .int (MVSc w14), .ref 8, .ref 9, .int (MVOl w14)]), .inl (0, 500, .inl (MVSt w14)), .inl (0, 500, .inl (MVAs w14)), .inl (0, 500, .inl (MVSv w14)), .inl (0, 4000, .inl (MVPt w14)), .inl (0, 6, .inl (MVSp w14)), .inl (3, 600, .inl (MVBf w14)), .inl (0, 150, .inl (MVSm w14)), .inl (0, 40, .inl (MVOr w14)), .inl (3, 240, .inl (MVOu w14))]) (st2 := []) (c_X9_advanceToken _ _ _ hq12) ⟨rfl, rfl⟩ rfl k_X9_advanceToken l_X9_191 rfl rfl rfl rfl rfl (fit_of hR (by decide) (by decide) (by decide) (by decide)) (Nat.le_of_ble_eq_true rfl) (by decide) rfl rfl rfl ?_
  refine go_s 1 X (pc2 := 56) (st2 := [.int s0]) rfl ?_
  cases h
  exact r_iret X rfl rfl ⟨rfl, rfl⟩ (by decide) (by decide)
