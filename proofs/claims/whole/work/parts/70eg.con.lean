/-! ===== 15eg: contracts, by program ===== -/
set_option maxHeartbeats 400000 in
set_option maxRecDepth 20000 in
theorem a_X9_moveJob_j50 {κ : KX} (X : CX κ z_X9_moveJob) (hR : κR κ = rmM 57 0 0) : ∀ (l1 : Int32) (l2 : Int32) (s0 : Int32) (s1 : Int32) (v : MV) (r : Int32) (w : MV) (h : f_X9_moveJob_j50 l1 l2 s0 s1 v = some (r, w)), AW κ (QM κ (PST (.inl (some (.int r))) (WM w)) 0 0) 50 [some (.ref 0), some (.int l1), some (.int l2), none] [.int s0, .int s1, .ref 0] (WM v) 0 0 := by
  intro l1 l2 s0 s1 v r w h
  unfold f_X9_moveJob_j50 at h
  refine AW.eq (pc' := 50) (ls' := [some (.ref 0), some (.int l1), some (.int l2), none]) (st' := [.int s0, .int s1, .ref 0]) (AH' := [.inr (9, [.ref 1, .ref 2, .ref 3, .ref 4, .int (MVPc v), .int (MVIs v), .int (MVTh v), .ref 5, .int (MVSl v), .ref 6, .int (MVLn v), .int (MVEc v), .int (MVEo v), .int (MVSa v), .int (MVEn v), .int (MVTk v), .int (MVVa v), .int (MVFa v), .int (MVFo v), .ref 7, .int (MVSc v), .ref 8, .ref 9, .int (MVOl v)]), .inl (0, 500, .inl (MVSt v)), .inl (0, 500, .inl (MVAs v)), .inl (0, 500, .inl (MVSv v)), .inl (0, 4000, .inl (MVPt v)), .inl (0, 6, .inl (MVSp v)), .inl (3, 600, .inl (MVBf v)), .inl (0, 150, .inl (MVSm v)), .inl (0, 40, .inl (MVOr v)), .inl (3, 240, .inl (MVOu v))]) ?_ rfl rfl rfl rfl
  refine go_s 1 X (pc2 := 51) (st2 := [.int 1, .int s0, .int s1, .ref 0]) rfl ?_
  obtain ⟨r7, w8, hq6, h⟩ := bnd2_inv h
  refine q_callV X [0, 1, 2, 3, 4, 5, 6, 7, 8, 9] [] (AH2 := [.inr (9, [.ref 1, .ref 2, .ref 3, .ref 4, .int (MVPc w8), .int (MVIs w8), .int (MVTh w8), .ref 5, .int (MVSl w8), .ref 6, .int (MVLn w8), .int (MVEc w8), .int (MVEo w8), .int (MVSa w8), .int (MVEn w8), .int (MVTk w8), .int (MVVa w8), .int (MVFa w8), .int (MVFo w8), .ref 7, .int (MVSc w8), .ref 8, .ref 9, .int (MVOl w8)]), .inl (0, 500, .inl (MVSt w8)), .inl (0, 500, .inl (MVAs w8)), .inl (0, 500, .inl (MVSv w8)), .inl (0, 4000, .inl (MVPt w8)), .inl (0, 6, .inl (MVSp w8)), .inl (3, 600, .inl (MVBf w8)), .inl (0, 150, .inl (MVSm w8)), .inl (0, 40, .inl (MVOr w8)), .inl (3, 240, .inl (MVOu w8))]) (st2 := [.int r7]) (c_X9_check _ _ _ _ _ _ hq6) ⟨rfl, rfl⟩ rfl k_X9_check l_X9_335 rfl rfl rfl rfl rfl (fit_of hR (by decide) (by decide) (by decide) (by decide)) (Nat.le_of_ble_eq_true rfl) (by decide) rfl rfl rfl ?_
  refine r_if_ne X 59 rfl rfl (fun c9 => ?_) (fun c9 => ?_)
  · rw [if_neg c9] at h
    refine go_s 1 X (pc2 := 60) (st2 := [.ref 0]) rfl ?_
    obtain ⟨r11, w12, hq10, h⟩ := bnd2_inv h
    refine q_callV X [0, 1, 2, 3, 4, 5, 6, 7, 8, 9] [] (AH2 := [.inr (9, [.ref 1, .ref 2, .ref 3, .ref 4, .int (MVPc w12), .int (MVIs w12), .int (MVTh w12), .ref 5, .int (MVSl w12), .ref 6, .int (MVLn w12), .int (MVEc w12), .int (MVEo w12), .int (MVSa w12), .int (MVEn w12), .int (MVTk w12), .int (MVVa w12), .int (MVFa w12), .int (MVFo w12), .ref 7, .int (MVSc w12), .ref 8, .ref 9, .int (MVOl w12)]), .inl (0, 500, .inl (MVSt w12)), .inl (0, 500, .inl (MVAs w12)), .inl (0, 500, .inl (MVSv w12)), .inl (0, 4000, .inl (MVPt w12)), .inl (0, 6, .inl (MVSp w12)), .inl (3, 600, .inl (MVBf w12)), .inl (0, 150, .inl (MVSm w12)), .inl (0, 40, .inl (MVOr w12)), .inl (3, 240, .inl (MVOu w12))]) (st2 := []) (c_X9_remember _ _ _ hq10) ⟨rfl, rfl⟩ rfl k_X9_remember l_X9_326 rfl rfl rfl rfl rfl (fit_of hR (by decide) (by decide) (by decide) (by decide)) (Nat.le_of_ble_eq_true rfl) (by decide) rfl rfl rfl ?_
    refine go_s 3 X (pc2 := 66) (st2 := [.int l2, .int l1, .ref 0]) rfl ?_
    obtain ⟨r14, w15, hq13, h⟩ := bnd2_inv h
    refine q_callV X [0, 1, 2, 3, 4, 5, 6, 7, 8, 9] [] (AH2 := [.inr (9, [.ref 1, .ref 2, .ref 3, .ref 4, .int (MVPc w15), .int (MVIs w15), .int (MVTh w15), .ref 5, .int (MVSl w15), .ref 6, .int (MVLn w15), .int (MVEc w15), .int (MVEo w15), .int (MVSa w15), .int (MVEn w15), .int (MVTk w15), .int (MVVa w15), .int (MVFa w15), .int (MVFo w15), .ref 7, .int (MVSc w15), .ref 8, .ref 9, .int (MVOl w15)]), .inl (0, 500, .inl (MVSt w15)), .inl (0, 500, .inl (MVAs w15)), .inl (0, 500, .inl (MVSv w15)), .inl (0, 4000, .inl (MVPt w15)), .inl (0, 6, .inl (MVSp w15)), .inl (3, 600, .inl (MVBf w15)), .inl (0, 150, .inl (MVSm w15)), .inl (0, 40, .inl (MVOr w15)), .inl (3, 240, .inl (MVOu w15))]) (st2 := [.int r14]) (c_X9_moveTo _ _ _ _ _ hq13) ⟨rfl, rfl⟩ rfl k_X9_moveTo l_X9_314 rfl rfl rfl rfl rfl (fit_of hR (by decide) (by decide) (by decide) (by decide)) (Nat.le_of_ble_eq_true rfl) (by decide) rfl rfl rfl ?_
    cases h
    exact r_iret X rfl rfl ⟨rfl, rfl⟩ (by decide) (by decide)
  · rw [if_pos c9] at h
    refine go_s 1 X (pc2 := 58) (st2 := [.int 0]) rfl ?_
    cases h
    exact r_iret X rfl rfl ⟨rfl, rfl⟩ (by decide) (by decide)
set_option maxHeartbeats 400000 in
set_option maxRecDepth 20000 in
theorem a_X9_moveJob_j49 {κ : KX} (X : CX κ z_X9_moveJob) (hR : κR κ = rmM 57 0 0) : ∀ (l1 : Int32) (l2 : Int32) (s0 : Int32) (v : MV) (r : Int32) (w : MV) (h : f_X9_moveJob_j49 l1 l2 s0 v = some (r, w)), AW κ (QM κ (PST (.inl (some (.int r))) (WM w)) 0 0) 49 [some (.ref 0), some (.int l1), some (.int l2), none] [.int s0, .ref 0] (WM v) 0 0 := by
  intro l1 l2 s0 v r w h
  unfold f_X9_moveJob_j49 at h
  refine AW.eq (pc' := 49) (ls' := [some (.ref 0), some (.int l1), some (.int l2), none]) (st' := [.int s0, .ref 0]) (AH' := [.inr (9, [.ref 1, .ref 2, .ref 3, .ref 4, .int (MVPc v), .int (MVIs v), .int (MVTh v), .ref 5, .int (MVSl v), .ref 6, .int (MVLn v), .int (MVEc v), .int (MVEo v), .int (MVSa v), .int (MVEn v), .int (MVTk v), .int (MVVa v), .int (MVFa v), .int (MVFo v), .ref 7, .int (MVSc v), .ref 8, .ref 9, .int (MVOl v)]), .inl (0, 500, .inl (MVSt v)), .inl (0, 500, .inl (MVAs v)), .inl (0, 500, .inl (MVSv v)), .inl (0, 4000, .inl (MVPt v)), .inl (0, 6, .inl (MVSp v)), .inl (3, 600, .inl (MVBf v)), .inl (0, 150, .inl (MVSm v)), .inl (0, 40, .inl (MVOr v)), .inl (3, 240, .inl (MVOu v))]) ?_ rfl rfl rfl rfl
  refine go_s 1 X (pc2 := 50) (st2 := [.int 0, .int s0, .ref 0]) rfl ?_
  exact AW.eq (a_X9_moveJob_j50 X hR _ _ _ _ _ _ _ h) rfl rfl rfl rfl
set_option maxHeartbeats 400000 in
set_option maxRecDepth 20000 in
theorem a_X9_moveJob_j21 {κ : KX} (X : CX κ z_X9_moveJob) (hR : κR κ = rmM 57 0 0) : ∀ (l1 : Int32) (l2 : Int32) (s0 : Int32) (v : MV) (r : Int32) (w : MV) (h : f_X9_moveJob_j21 l1 l2 s0 v = some (r, w)), AW κ (QM κ (PST (.inl (some (.int r))) (WM w)) 0 0) 21 [some (.ref 0), some (.int l1), some (.int l2), none] [.int s0] (WM v) 0 0 := by
  intro l1 l2 s0 v r w h
  unfold f_X9_moveJob_j21 at h
  refine AW.eq (pc' := 21) (ls' := [some (.ref 0), some (.int l1), some (.int l2), none]) (st' := [.int s0]) (AH' := [.inr (9, [.ref 1, .ref 2, .ref 3, .ref 4, .int (MVPc v), .int (MVIs v), .int (MVTh v), .ref 5, .int (MVSl v), .ref 6, .int (MVLn v), .int (MVEc v), .int (MVEo v), .int (MVSa v), .int (MVEn v), .int (MVTk v), .int (MVVa v), .int (MVFa v), .int (MVFo v), .ref 7, .int (MVSc v), .ref 8, .ref 9, .int (MVOl v)]), .inl (0, 500, .inl (MVSt v)), .inl (0, 500, .inl (MVAs v)), .inl (0, 500, .inl (MVSv v)), .inl (0, 4000, .inl (MVPt v)), .inl (0, 6, .inl (MVSp v)), .inl (3, 600, .inl (MVBf v)), .inl (0, 150, .inl (MVSm v)), .inl (0, 40, .inl (MVOr v)), .inl (3, 240, .inl (MVOu v))]) ?_ rfl rfl rfl rfl
  refine go_l 4 X (pc2 := 25) (ls2 := [some (.ref 0), some (.int l1), some (.int l2), some (.int s0)]) (st2 := [.int s0, .int s0, .ref 0]) rfl ?_
  refine r_if_eq X 49 rfl rfl (fun c5 => ?_) (fun c5 => ?_)
  · rw [if_pos c5] at h
    refine AW.forget (ls' := [some (.ref 0), some (.int l1), some (.int l2), none]) rfl (subL_of ⟨rfl, ⟨rfl, ⟨rfl, trivial⟩⟩⟩) ?_
    exact AW.eq (a_X9_moveJob_j49 X hR _ _ _ _ _ _ h) rfl rfl rfl rfl
  · rw [if_neg c5] at h
    refine go_s 2 X (pc2 := 30) (st2 := [.int l1, .ref 0, .int s0, .ref 0]) rfl ?_
    obtain ⟨r17, hq16, h⟩ := obind_inv h
    refine q_callV X [0, 1, 2, 3, 4, 5, 6, 7, 8, 9] [] (AH2 := [.inr (9, [.ref 1, .ref 2, .ref 3, .ref 4, .int (MVPc v), .int (MVIs v), .int (MVTh v), .ref 5, .int (MVSl v), .ref 6, .int (MVLn v), .int (MVEc v), .int (MVEo v), .int (MVSa v), .int (MVEn v), .int (MVTk v), .int (MVVa v), .int (MVFa v), .int (MVFo v), .ref 7, .int (MVSc v), .ref 8, .ref 9, .int (MVOl v)]), .inl (0, 500, .inl (MVSt v)), .inl (0, 500, .inl (MVAs v)), .inl (0, 500, .inl (MVSv v)), .inl (0, 4000, .inl (MVPt v)), .inl (0, 6, .inl (MVSp v)), .inl (3, 600, .inl (MVBf v)), .inl (0, 150, .inl (MVSm v)), .inl (0, 40, .inl (MVOr v)), .inl (3, 240, .inl (MVOu v))]) (st2 := [.int r17, .int s0, .ref 0]) (c_X9_waits _ _ _ hq16) ⟨rfl, rfl⟩ rfl k_X9_waits l_X9_130 rfl rfl rfl rfl rfl (fit_of hR (by decide) (by decide) (by decide) (by decide)) (Nat.le_of_ble_eq_true rfl) (by decide) rfl rfl rfl ?_
    refine r_if_eq X 49 rfl rfl (fun c19 => ?_) (fun c19 => ?_)
    · rw [if_pos c19] at h
      refine AW.forget (ls' := [some (.ref 0), some (.int l1), some (.int l2), none]) rfl (subL_of ⟨rfl, ⟨rfl, ⟨rfl, trivial⟩⟩⟩) ?_
      exact AW.eq (a_X9_moveJob_j49 X hR _ _ _ _ _ _ h) rfl rfl rfl rfl
    · rw [if_neg c19] at h
      refine go_s 3 X (pc2 := 39) (st2 := [.int l2, .int l1, .ref 0, .int s0, .ref 0]) rfl ?_
      obtain ⟨r21, hq20, h⟩ := obind_inv h
      refine q_callV X [0, 1, 2, 3, 4, 5, 6, 7, 8, 9] [] (AH2 := [.inr (9, [.ref 1, .ref 2, .ref 3, .ref 4, .int (MVPc v), .int (MVIs v), .int (MVTh v), .ref 5, .int (MVSl v), .ref 6, .int (MVLn v), .int (MVEc v), .int (MVEo v), .int (MVSa v), .int (MVEn v), .int (MVTk v), .int (MVVa v), .int (MVFa v), .int (MVFo v), .ref 7, .int (MVSc v), .ref 8, .ref 9, .int (MVOl v)]), .inl (0, 500, .inl (MVSt v)), .inl (0, 500, .inl (MVAs v)), .inl (0, 500, .inl (MVSv v)), .inl (0, 4000, .inl (MVPt v)), .inl (0, 6, .inl (MVSp v)), .inl (3, 600, .inl (MVBf v)), .inl (0, 150, .inl (MVSm v)), .inl (0, 40, .inl (MVOr v)), .inl (3, 240, .inl (MVOu v))]) (st2 := [.int r21, .int s0, .ref 0]) (c_X9_isIn _ _ _ _ hq20) ⟨rfl, rfl⟩ rfl k_X9_isIn l_X9_133 rfl rfl rfl rfl rfl (fit_of hR (by decide) (by decide) (by decide) (by decide)) (Nat.le_of_ble_eq_true rfl) (by decide) rfl rfl rfl ?_
      refine r_if_ne X 49 rfl rfl (fun c23 => ?_) (fun c23 => ?_)
      · rw [if_neg c23] at h
        refine AW.forget (ls' := [some (.ref 0), some (.int l1), some (.int l2), none]) rfl (subL_of ⟨rfl, ⟨rfl, ⟨rfl, trivial⟩⟩⟩) ?_
        exact AW.eq (a_X9_moveJob_j49 X hR _ _ _ _ _ _ h) rfl rfl rfl rfl
      · rw [if_pos c23] at h
        refine go_s 2 X (pc2 := 50) (st2 := [.int 1, .int s0, .ref 0]) rfl ?_
        refine AW.forget (ls' := [some (.ref 0), some (.int l1), some (.int l2), none]) rfl (subL_of ⟨rfl, ⟨rfl, ⟨rfl, trivial⟩⟩⟩) ?_
        exact AW.eq (a_X9_moveJob_j50 X hR _ _ _ _ _ _ _ h) rfl rfl rfl rfl
set_option maxHeartbeats 400000 in
set_option maxRecDepth 20000 in
theorem a_X9_moveJob_j20 {κ : KX} (X : CX κ z_X9_moveJob) (hR : κR κ = rmM 57 0 0) : ∀ (l1 : Int32) (l2 : Int32) (v : MV) (r : Int32) (w : MV) (h : f_X9_moveJob_j20 l1 l2 v = some (r, w)), AW κ (QM κ (PST (.inl (some (.int r))) (WM w)) 0 0) 20 [some (.ref 0), some (.int l1), some (.int l2), none] [] (WM v) 0 0 := by
  intro l1 l2 v r w h
  unfold f_X9_moveJob_j20 at h
  refine AW.eq (pc' := 20) (ls' := [some (.ref 0), some (.int l1), some (.int l2), none]) (st' := []) (AH' := [.inr (9, [.ref 1, .ref 2, .ref 3, .ref 4, .int (MVPc v), .int (MVIs v), .int (MVTh v), .ref 5, .int (MVSl v), .ref 6, .int (MVLn v), .int (MVEc v), .int (MVEo v), .int (MVSa v), .int (MVEn v), .int (MVTk v), .int (MVVa v), .int (MVFa v), .int (MVFo v), .ref 7, .int (MVSc v), .ref 8, .ref 9, .int (MVOl v)]), .inl (0, 500, .inl (MVSt v)), .inl (0, 500, .inl (MVAs v)), .inl (0, 500, .inl (MVSv v)), .inl (0, 4000, .inl (MVPt v)), .inl (0, 6, .inl (MVSp v)), .inl (3, 600, .inl (MVBf v)), .inl (0, 150, .inl (MVSm v)), .inl (0, 40, .inl (MVOr v)), .inl (3, 240, .inl (MVOu v))]) ?_ rfl rfl rfl rfl
  refine go_s 1 X (pc2 := 21) (st2 := [.int 0]) rfl ?_
  exact AW.eq (a_X9_moveJob_j21 X hR _ _ _ _ _ _ h) rfl rfl rfl rfl
set_option maxHeartbeats 400000 in
set_option maxRecDepth 20000 in
theorem c_X9_moveJob (v : MV) (a : Int32) (b : Int32) (r : Int32) (w : MV) (h : f_X9_moveJob v a b = some (r, w)) : Sem z_X9_moveJob 57 0 0 [.ref 0, .int a, .int b] (WM v) (PST (.inl (some (.int r))) (WM w)) := by
  refine Sem.of zo_X9_moveJob (by decide +kernel) (Nat.le_of_ble_eq_true rfl) fun κ X hE hR hN => ?_
  unfold f_X9_moveJob at h
  refine AW.eq (pc' := 0) (ls' := [some (.ref 0), some (.int a), some (.int b), none]) (st' := []) (AH' := [.inr (9, [.ref 1, .ref 2, .ref 3, .ref 4, .int (MVPc v), .int (MVIs v), .int (MVTh v), .ref 5, .int (MVSl v), .ref 6, .int (MVLn v), .int (MVEc v), .int (MVEo v), .int (MVSa v), .int (MVEn v), .int (MVTk v), .int (MVVa v), .int (MVFa v), .int (MVFo v), .ref 7, .int (MVSc v), .ref 8, .ref 9, .int (MVOl v)]), .inl (0, 500, .inl (MVSt v)), .inl (0, 500, .inl (MVAs v)), .inl (0, 500, .inl (MVSv v)), .inl (0, 4000, .inl (MVPt v)), .inl (0, 6, .inl (MVSp v)), .inl (3, 600, .inl (MVBf v)), .inl (0, 150, .inl (MVSm v)), .inl (0, 40, .inl (MVOr v)), .inl (3, 240, .inl (MVOu v))]) ?_ rfl rfl rfl rfl
  refine go_s 2 X (pc2 := 2) (st2 := [.int a, .ref 0]) rfl ?_
  obtain ⟨r2, hq1, h⟩ := obind_inv h
  refine q_callV X [0, 1, 2, 3, 4, 5, 6, 7, 8, 9] [] (AH2 := [.inr (9, [.ref 1, .ref 2, .ref 3, .ref 4, .int (MVPc v), .int (MVIs v), .int (MVTh v), .ref 5, .int (MVSl v), .ref 6, .int (MVLn v), .int (MVEc v), .int (MVEo v), .int (MVSa v), .int (MVEn v), .int (MVTk v), .int (MVVa v), .int (MVFa v), .int (MVFo v), .ref 7, .int (MVSc v), .ref 8, .ref 9, .int (MVOl v)]), .inl (0, 500, .inl (MVSt v)), .inl (0, 500, .inl (MVAs v)), .inl (0, 500, .inl (MVSv v)), .inl (0, 4000, .inl (MVPt v)), .inl (0, 6, .inl (MVSp v)), .inl (3, 600, .inl (MVBf v)), .inl (0, 150, .inl (MVSm v)), .inl (0, 40, .inl (MVOr v)), .inl (3, 240, .inl (MVOu v))]) (st2 := [.int r2]) (c_X9_isJob _ _ _ hq1) ⟨rfl, rfl⟩ rfl k_X9_isJob l_X9_293 rfl rfl rfl rfl rfl (fit_of hR (by decide) (by decide) (by decide) (by decide)) (Nat.le_of_ble_eq_true rfl) (by decide) rfl rfl rfl ?_
  refine r_if_eq X 20 rfl rfl (fun c4 => ?_) (fun c4 => ?_)
  · rw [if_pos c4] at h
    exact AW.eq (a_X9_moveJob_j20 X hR _ _ _ _ _ h) rfl rfl rfl rfl
  · rw [if_neg c4] at h
    refine go_s 2 X (pc2 := 10) (st2 := [.int b, .ref 0]) rfl ?_
    obtain ⟨r25, hq24, h⟩ := obind_inv h
    refine q_callV X [0, 1, 2, 3, 4, 5, 6, 7, 8, 9] [] (AH2 := [.inr (9, [.ref 1, .ref 2, .ref 3, .ref 4, .int (MVPc v), .int (MVIs v), .int (MVTh v), .ref 5, .int (MVSl v), .ref 6, .int (MVLn v), .int (MVEc v), .int (MVEo v), .int (MVSa v), .int (MVEn v), .int (MVTk v), .int (MVVa v), .int (MVFa v), .int (MVFo v), .ref 7, .int (MVSc v), .ref 8, .ref 9, .int (MVOl v)]), .inl (0, 500, .inl (MVSt v)), .inl (0, 500, .inl (MVAs v)), .inl (0, 500, .inl (MVSv v)), .inl (0, 4000, .inl (MVPt v)), .inl (0, 6, .inl (MVSp v)), .inl (3, 600, .inl (MVBf v)), .inl (0, 150, .inl (MVSm v)), .inl (0, 40, .inl (MVOr v)), .inl (3, 240, .inl (MVOu v))]) (st2 := [.int r25]) (c_X9_isQueue _ _ _ hq24) ⟨rfl, rfl⟩ rfl k_X9_isQueue l_X9_332 rfl rfl rfl rfl rfl (fit_of hR (by decide) (by decide) (by decide) (by decide)) (Nat.le_of_ble_eq_true rfl) (by decide) rfl rfl rfl ?_
    refine r_if_eq X 20 rfl rfl (fun c27 => ?_) (fun c27 => ?_)
    · rw [if_pos c27] at h
      exact AW.eq (a_X9_moveJob_j20 X hR _ _ _ _ _ h) rfl rfl rfl rfl
    · rw [if_neg c27] at h
      refine go_s 2 X (pc2 := 21) (st2 := [.int 1]) rfl ?_
      exact AW.eq (a_X9_moveJob_j21 X hR _ _ _ _ _ _ h) rfl rfl rfl rfl
set_option maxHeartbeats 400000 in
set_option maxRecDepth 20000 in
theorem c_X9_outputByte (v : MV) (a : Int32) (r : Int32) (w : MV) (h : f_X9_outputByte v a = some (r, w)) : Sem z_X9_outputByte 1 0 0 [.ref 0, .int a] (WM v) (PST (.inl (some (.int r))) (WM w)) := by
  refine Sem.of zo_X9_outputByte (by decide +kernel) (Nat.le_of_ble_eq_true rfl) fun κ X hE hR hN => ?_
  unfold f_X9_outputByte at h
  refine AW.eq (pc' := 0) (ls' := [some (.ref 0), some (.int a)]) (st' := []) (AH' := [.inr (9, [.ref 1, .ref 2, .ref 3, .ref 4, .int (MVPc v), .int (MVIs v), .int (MVTh v), .ref 5, .int (MVSl v), .ref 6, .int (MVLn v), .int (MVEc v), .int (MVEo v), .int (MVSa v), .int (MVEn v), .int (MVTk v), .int (MVVa v), .int (MVFa v), .int (MVFo v), .ref 7, .int (MVSc v), .ref 8, .ref 9, .int (MVOl v)]), .inl (0, 500, .inl (MVSt v)), .inl (0, 500, .inl (MVAs v)), .inl (0, 500, .inl (MVSv v)), .inl (0, 4000, .inl (MVPt v)), .inl (0, 6, .inl (MVSp v)), .inl (3, 600, .inl (MVBf v)), .inl (0, 150, .inl (MVSm v)), .inl (0, 40, .inl (MVOr v)), .inl (3, 240, .inl (MVOu v))]) ?_ rfl rfl rfl rfl
  refine go 11 X (pc2 := 15) (ls2 := [some (.ref 0), some (.int a)]) (st2 := [.long (Int32.toInt64 ((MVOl v) - 1)), .long 0, .long (Int32.toInt64 a)]) (AH2 := [.inr (9, [.ref 1, .ref 2, .ref 3, .ref 4, .int (MVPc v), .int (MVIs v), .int 0, .ref 5, .int (MVSl v), .ref 6, .int (MVLn v), .int (MVEc v), .int (MVEo v), .int (MVSa v), .int (MVEn v), .int (MVTk v), .int (MVVa v), .int (MVFa v), .int (MVFo v), .ref 7, .int (MVSc v), .ref 8, .ref 9, .int (MVOl v)]), .inl (0, 500, .inl (MVSt v)), .inl (0, 500, .inl (MVAs v)), .inl (0, 500, .inl (MVSv v)), .inl (0, 4000, .inl (MVPt v)), .inl (0, 6, .inl (MVSp v)), .inl (3, 600, .inl (MVBf v)), .inl (0, 150, .inl (MVSm v)), .inl (0, 40, .inl (MVOr v)), .inl (3, 240, .inl (MVOu v))]) rfl ?_
  obtain ⟨r2, hq1, h⟩ := obind_inv h
  refine q_callS X [] [] (AH2 := [.inr (9, [.ref 1, .ref 2, .ref 3, .ref 4, .int (MVPc v), .int (MVIs v), .int 0, .ref 5, .int (MVSl v), .ref 6, .int (MVLn v), .int (MVEc v), .int (MVEo v), .int (MVSa v), .int (MVEn v), .int (MVTk v), .int (MVVa v), .int (MVFa v), .int (MVFo v), .ref 7, .int (MVSc v), .ref 8, .ref 9, .int (MVOl v)]), .inl (0, 500, .inl (MVSt v)), .inl (0, 500, .inl (MVAs v)), .inl (0, 500, .inl (MVSv v)), .inl (0, 4000, .inl (MVPt v)), .inl (0, 6, .inl (MVSp v)), .inl (3, 600, .inl (MVBf v)), .inl (0, 150, .inl (MVSm v)), .inl (0, 40, .inl (MVOr v)), .inl (3, 240, .inl (MVOu v))]) (st2 := [.int r2]) (c_X9_isWithin _ _ _ _ hq1) ⟨rfl, rfl⟩ rfl k_X9_isWithin l_X9_152 rfl rfl (fit_of hR (by decide) (by decide) (by decide) (by decide)) (Nat.le_of_ble_eq_true rfl) (by decide) rfl rfl rfl ?_
  refine r_if_eq X 30 rfl rfl (fun c4 => ?_) (fun c4 => ?_)
  · rw [if_pos c4] at h
    refine go_s 1 X (pc2 := 31) (st2 := [.int (-1)]) rfl ?_
    cases h
    exact r_iret X rfl rfl ⟨rfl, rfl⟩ (by decide) (by decide)
  · rw [if_neg c4] at h
    refine go_s 3 X (pc2 := 26) (st2 := [.int a, .ref 9]) rfl ?_
    by_cases b5 : oob a 240
    · rw [if_pos b5] at h; cases h
    rw [if_neg b5] at h
    refine r_bald X rfl rfl b5 ?_
    refine go_s 1 X (pc2 := 31) (st2 := [.int ((MVOu v) (Int32.toNatClampNeg a))]) rfl ?_
    cases h
    exact r_iret X rfl rfl ⟨rfl, rfl⟩ (by decide) (by decide)
set_option maxHeartbeats 400000 in
set_option maxRecDepth 20000 in
theorem c_X9_ownerCount (v : MV) (r : Int32) (w : MV) (h : f_X9_ownerCount v = some (r, w)) : Sem z_X9_ownerCount 1 0 0 [.ref 0] (WM v) (PST (.inl (some (.int r))) (WM w)) := by
  refine Sem.of zo_X9_ownerCount (by decide +kernel) (Nat.le_of_ble_eq_true rfl) fun κ X hE hR hN => ?_
  unfold f_X9_ownerCount at h
  refine AW.eq (pc' := 0) (ls' := [some (.ref 0)]) (st' := []) (AH' := [.inr (9, [.ref 1, .ref 2, .ref 3, .ref 4, .int (MVPc v), .int (MVIs v), .int (MVTh v), .ref 5, .int (MVSl v), .ref 6, .int (MVLn v), .int (MVEc v), .int (MVEo v), .int (MVSa v), .int (MVEn v), .int (MVTk v), .int (MVVa v), .int (MVFa v), .int (MVFo v), .ref 7, .int (MVSc v), .ref 8, .ref 9, .int (MVOl v)]), .inl (0, 500, .inl (MVSt v)), .inl (0, 500, .inl (MVAs v)), .inl (0, 500, .inl (MVSv v)), .inl (0, 4000, .inl (MVPt v)), .inl (0, 6, .inl (MVSp v)), .inl (3, 600, .inl (MVBf v)), .inl (0, 150, .inl (MVSm v)), .inl (0, 40, .inl (MVOr v)), .inl (3, 240, .inl (MVOu v))]) ?_ rfl rfl rfl rfl
  refine go_s 2 X (pc2 := 2) (st2 := [.int 1, .ref 0]) rfl ?_
  obtain ⟨r2, w3, hq1, h⟩ := bnd2_inv h
  refine q_callV X [0, 1, 2, 3, 4, 5, 6, 7, 8, 9] [] (AH2 := [.inr (9, [.ref 1, .ref 2, .ref 3, .ref 4, .int (MVPc w3), .int (MVIs w3), .int (MVTh w3), .ref 5, .int (MVSl w3), .ref 6, .int (MVLn w3), .int (MVEc w3), .int (MVEo w3), .int (MVSa w3), .int (MVEn w3), .int (MVTk w3), .int (MVVa w3), .int (MVFa w3), .int (MVFo w3), .ref 7, .int (MVSc w3), .ref 8, .ref 9, .int (MVOl w3)]), .inl (0, 500, .inl (MVSt w3)), .inl (0, 500, .inl (MVAs w3)), .inl (0, 500, .inl (MVSv w3)), .inl (0, 4000, .inl (MVPt w3)), .inl (0, 6, .inl (MVSp w3)), .inl (3, 600, .inl (MVBf w3)), .inl (0, 150, .inl (MVSm w3)), .inl (0, 40, .inl (MVOr w3)), .inl (3, 240, .inl (MVOu w3))]) (st2 := [.int r2]) (c_X9_numberOf _ _ _ _ hq1) ⟨rfl, rfl⟩ rfl k_X9_numberOf l_X9_339 rfl rfl rfl rfl rfl (fit_of hR (by decide) (by decide) (by decide) (by decide)) (Nat.le_of_ble_eq_true rfl) (by decide) rfl rfl rfl ?_
  cases h
  exact r_iret X rfl rfl ⟨rfl, rfl⟩ (by decide) (by decide)
set_option maxHeartbeats 400000 in
set_option maxRecDepth 20000 in
theorem c_X9_ownerNameByte (v : MV) (a : Int32) (b : Int32) (r : Int32) (w : MV) (h : f_X9_ownerNameByte v a b = some (r, w)) : Sem z_X9_ownerNameByte 2 0 0 [.ref 0, .int a, .int b] (WM v) (PST (.inl (some (.int r))) (WM w)) := by
  refine Sem.of zo_X9_ownerNameByte (by decide +kernel) (Nat.le_of_ble_eq_true rfl) fun κ X hE hR hN => ?_
  unfold f_X9_ownerNameByte at h
  refine AW.eq (pc' := 0) (ls' := [some (.ref 0), some (.int a), some (.int b)]) (st' := []) (AH' := [.inr (9, [.ref 1, .ref 2, .ref 3, .ref 4, .int (MVPc v), .int (MVIs v), .int (MVTh v), .ref 5, .int (MVSl v), .ref 6, .int (MVLn v), .int (MVEc v), .int (MVEo v), .int (MVSa v), .int (MVEn v), .int (MVTk v), .int (MVVa v), .int (MVFa v), .int (MVFo v), .ref 7, .int (MVSc v), .ref 8, .ref 9, .int (MVOl v)]), .inl (0, 500, .inl (MVSt v)), .inl (0, 500, .inl (MVAs v)), .inl (0, 500, .inl (MVSv v)), .inl (0, 4000, .inl (MVPt v)), .inl (0, 6, .inl (MVSp v)), .inl (3, 600, .inl (MVBf v)), .inl (0, 150, .inl (MVSm v)), .inl (0, 40, .inl (MVOr v)), .inl (3, 240, .inl (MVOu v))]) ?_ rfl rfl rfl rfl
  refine go_s 3 X (pc2 := 3) (st2 := [.int a, .ref 0, .ref 0]) rfl ?_
  obtain ⟨r2, hq1, h⟩ := obind_inv h
  refine q_callV X [0, 1, 2, 3, 4, 5, 6, 7, 8, 9] [] (AH2 := [.inr (9, [.ref 1, .ref 2, .ref 3, .ref 4, .int (MVPc v), .int (MVIs v), .int (MVTh v), .ref 5, .int (MVSl v), .ref 6, .int (MVLn v), .int (MVEc v), .int (MVEo v), .int (MVSa v), .int (MVEn v), .int (MVTk v), .int (MVVa v), .int (MVFa v), .int (MVFo v), .ref 7, .int (MVSc v), .ref 8, .ref 9, .int (MVOl v)]), .inl (0, 500, .inl (MVSt v)), .inl (0, 500, .inl (MVAs v)), .inl (0, 500, .inl (MVSv v)), .inl (0, 4000, .inl (MVPt v)), .inl (0, 6, .inl (MVSp v)), .inl (3, 600, .inl (MVBf v)), .inl (0, 150, .inl (MVSm v)), .inl (0, 40, .inl (MVOr v)), .inl (3, 240, .inl (MVOu v))]) (st2 := [.int r2, .ref 0]) (c_X9_isOwner _ _ _ hq1) ⟨rfl, rfl⟩ rfl k_X9_isOwner l_X9_348 rfl rfl rfl rfl rfl (fit_of hR (by decide) (by decide) (by decide) (by decide)) (Nat.le_of_ble_eq_true rfl) (by decide) rfl rfl rfl ?_
  refine go_s 2 X (pc2 := 8) (st2 := [.int 1, .int 1, .int r2, .ref 0]) rfl ?_
  obtain ⟨r5, w6, hq4, h⟩ := bnd2_inv h
  refine q_callV X [0, 1, 2, 3, 4, 5, 6, 7, 8, 9] [] (AH2 := [.inr (9, [.ref 1, .ref 2, .ref 3, .ref 4, .int (MVPc w6), .int (MVIs w6), .int (MVTh w6), .ref 5, .int (MVSl w6), .ref 6, .int (MVLn w6), .int (MVEc w6), .int (MVEo w6), .int (MVSa w6), .int (MVEn w6), .int (MVTk w6), .int (MVVa w6), .int (MVFa w6), .int (MVFo w6), .ref 7, .int (MVSc w6), .ref 8, .ref 9, .int (MVOl w6)]), .inl (0, 500, .inl (MVSt w6)), .inl (0, 500, .inl (MVAs w6)), .inl (0, 500, .inl (MVSv w6)), .inl (0, 4000, .inl (MVPt w6)), .inl (0, 6, .inl (MVSp w6)), .inl (3, 600, .inl (MVBf w6)), .inl (0, 150, .inl (MVSm w6)), .inl (0, 40, .inl (MVOr w6)), .inl (3, 240, .inl (MVOu w6))]) (st2 := [.int r5]) (c_X9_check _ _ _ _ _ _ hq4) ⟨rfl, rfl⟩ rfl k_X9_check l_X9_335 rfl rfl rfl rfl rfl (fit_of hR (by decide) (by decide) (by decide) (by decide)) (Nat.le_of_ble_eq_true rfl) (by decide) rfl rfl rfl ?_
  refine r_if_eq X 26 rfl rfl (fun c7 => ?_) (fun c7 => ?_)
  · rw [if_pos c7] at h
    refine go_s 1 X (pc2 := 27) (st2 := [.int 0]) rfl ?_
    cases h
    exact r_iret X rfl rfl ⟨rfl, rfl⟩ (by decide) (by decide)
  · rw [if_neg c7] at h
    refine go_s 2 X (pc2 := 16) (st2 := [.int a, .ref 0]) rfl ?_
    obtain ⟨r9, hq8, h⟩ := obind_inv h
    refine q_callS X [] [] (AH2 := [.inr (9, [.ref 1, .ref 2, .ref 3, .ref 4, .int (MVPc w6), .int (MVIs w6), .int (MVTh w6), .ref 5, .int (MVSl w6), .ref 6, .int (MVLn w6), .int (MVEc w6), .int (MVEo w6), .int (MVSa w6), .int (MVEn w6), .int (MVTk w6), .int (MVVa w6), .int (MVFa w6), .int (MVFo w6), .ref 7, .int (MVSc w6), .ref 8, .ref 9, .int (MVOl w6)]), .inl (0, 500, .inl (MVSt w6)), .inl (0, 500, .inl (MVAs w6)), .inl (0, 500, .inl (MVSv w6)), .inl (0, 4000, .inl (MVPt w6)), .inl (0, 6, .inl (MVSp w6)), .inl (3, 600, .inl (MVBf w6)), .inl (0, 150, .inl (MVSm w6)), .inl (0, 40, .inl (MVOr w6)), .inl (3, 240, .inl (MVOu w6))]) (st2 := [.int r9, .ref 0]) (c_X9_o _ _ hq8) ⟨rfl, rfl⟩ rfl k_X9_o l_X9_84 rfl rfl (fit_of hR (by decide) (by decide) (by decide) (by decide)) (Nat.le_of_ble_eq_true rfl) (by decide) rfl rfl rfl ?_
    refine go_s 1 X (pc2 := 20) (st2 := [.int b, .int r9, .ref 0]) rfl ?_
    obtain ⟨r12, hq11, h⟩ := obind_inv h
    refine q_callV X [0, 1, 2, 3, 4, 5, 6, 7, 8, 9] [] (AH2 := [.inr (9, [.ref 1, .ref 2, .ref 3, .ref 4, .int (MVPc w6), .int (MVIs w6), .int (MVTh w6), .ref 5, .int (MVSl w6), .ref 6, .int (MVLn w6), .int (MVEc w6), .int (MVEo w6), .int (MVSa w6), .int (MVEn w6), .int (MVTk w6), .int (MVVa w6), .int (MVFa w6), .int (MVFo w6), .ref 7, .int (MVSc w6), .ref 8, .ref 9, .int (MVOl w6)]), .inl (0, 500, .inl (MVSt w6)), .inl (0, 500, .inl (MVAs w6)), .inl (0, 500, .inl (MVSv w6)), .inl (0, 4000, .inl (MVPt w6)), .inl (0, 6, .inl (MVSp w6)), .inl (3, 600, .inl (MVBf w6)), .inl (0, 150, .inl (MVSm w6)), .inl (0, 40, .inl (MVOr w6)), .inl (3, 240, .inl (MVOu w6))]) (st2 := [.int r12]) (c_X9_letterAt _ _ _ _ hq11) ⟨rfl, rfl⟩ rfl k_X9_letterAt l_X9_345 rfl rfl rfl rfl rfl (fit_of hR (by decide) (by decide) (by decide) (by decide)) (Nat.le_of_ble_eq_true rfl) (by decide) rfl rfl rfl ?_
    refine go_s 1 X (pc2 := 27) (st2 := [.int r12]) rfl ?_
    cases h
    exact r_iret X rfl rfl ⟨rfl, rfl⟩ (by decide) (by decide)
set_option maxHeartbeats 400000 in
set_option maxRecDepth 20000 in
theorem c_X9_ownerOf (v : MV) (a : Int32) (r : Int32) (w : MV) (h : f_X9_ownerOf v a = some (r, w)) : Sem z_X9_ownerOf 3 0 0 [.ref 0, .int a] (WM v) (PST (.inl (some (.int r))) (WM w)) := by
  refine Sem.of zo_X9_ownerOf (by decide +kernel) (Nat.le_of_ble_eq_true rfl) fun κ X hE hR hN => ?_
  unfold f_X9_ownerOf at h
  refine AW.eq (pc' := 0) (ls' := [some (.ref 0), some (.int a)]) (st' := []) (AH' := [.inr (9, [.ref 1, .ref 2, .ref 3, .ref 4, .int (MVPc v), .int (MVIs v), .int (MVTh v), .ref 5, .int (MVSl v), .ref 6, .int (MVLn v), .int (MVEc v), .int (MVEo v), .int (MVSa v), .int (MVEn v), .int (MVTk v), .int (MVVa v), .int (MVFa v), .int (MVFo v), .ref 7, .int (MVSc v), .ref 8, .ref 9, .int (MVOl v)]), .inl (0, 500, .inl (MVSt v)), .inl (0, 500, .inl (MVAs v)), .inl (0, 500, .inl (MVSv v)), .inl (0, 4000, .inl (MVPt v)), .inl (0, 6, .inl (MVSp v)), .inl (3, 600, .inl (MVBf v)), .inl (0, 150, .inl (MVSm v)), .inl (0, 40, .inl (MVOr v)), .inl (3, 240, .inl (MVOu v))]) ?_ rfl rfl rfl rfl
  refine go_s 2 X (pc2 := 2) (st2 := [.int a, .ref 0]) rfl ?_
  obtain ⟨r2, w3, hq1, h⟩ := bnd2_inv h
  refine q_callV X [0, 1, 2, 3, 4, 5, 6, 7, 8, 9] [] (AH2 := [.inr (9, [.ref 1, .ref 2, .ref 3, .ref 4, .int (MVPc w3), .int (MVIs w3), .int (MVTh w3), .ref 5, .int (MVSl w3), .ref 6, .int (MVLn w3), .int (MVEc w3), .int (MVEo w3), .int (MVSa w3), .int (MVEn w3), .int (MVTk w3), .int (MVVa w3), .int (MVFa w3), .int (MVFo w3), .ref 7, .int (MVSc w3), .ref 8, .ref 9, .int (MVOl w3)]), .inl (0, 500, .inl (MVSt w3)), .inl (0, 500, .inl (MVAs w3)), .inl (0, 500, .inl (MVSv w3)), .inl (0, 4000, .inl (MVPt w3)), .inl (0, 6, .inl (MVSp w3)), .inl (3, 600, .inl (MVBf w3)), .inl (0, 150, .inl (MVSm w3)), .inl (0, 40, .inl (MVOr w3)), .inl (3, 240, .inl (MVOu w3))]) (st2 := [.int r2]) (c_X9_checkJob _ _ _ _ hq1) ⟨rfl, rfl⟩ rfl k_X9_checkJob l_X9_351 rfl rfl rfl rfl rfl (fit_of hR (by decide) (by decide) (by decide) (by decide)) (Nat.le_of_ble_eq_true rfl) (by decide) rfl rfl rfl ?_
  refine r_if_eq X 17 rfl rfl (fun c4 => ?_) (fun c4 => ?_)
  · rw [if_pos c4] at h
    refine go_s 1 X (pc2 := 18) (st2 := [.int 0]) rfl ?_
    cases h
    exact r_iret X rfl rfl ⟨rfl, rfl⟩ (by decide) (by decide)
  · rw [if_neg c4] at h
    refine go_s 3 X (pc2 := 11) (st2 := [.int 0, .int a, .ref 0]) rfl ?_
    obtain ⟨r6, hq5, h⟩ := obind_inv h
    refine q_callV X [0, 1, 2, 3, 4, 5, 6, 7, 8, 9] [] (AH2 := [.inr (9, [.ref 1, .ref 2, .ref 3, .ref 4, .int (MVPc w3), .int (MVIs w3), .int (MVTh w3), .ref 5, .int (MVSl w3), .ref 6, .int (MVLn w3), .int (MVEc w3), .int (MVEo w3), .int (MVSa w3), .int (MVEn w3), .int (MVTk w3), .int (MVVa w3), .int (MVFa w3), .int (MVFo w3), .ref 7, .int (MVSc w3), .ref 8, .ref 9, .int (MVOl w3)]), .inl (0, 500, .inl (MVSt w3)), .inl (0, 500, .inl (MVAs w3)), .inl (0, 500, .inl (MVSv w3)), .inl (0, 4000, .inl (MVPt w3)), .inl (0, 6, .inl (MVSp w3)), .inl (3, 600, .inl (MVBf w3)), .inl (0, 150, .inl (MVSm w3)), .inl (0, 40, .inl (MVOr w3)), .inl (3, 240, .inl (MVOu w3))]) (st2 := [.int r6]) (c_X9_get _ _ _ _ hq5) ⟨rfl, rfl⟩ rfl k_X9_get l_X9_90 rfl rfl rfl rfl rfl (fit_of hR (by decide) (by decide) (by decide) (by decide)) (Nat.le_of_ble_eq_true rfl) (by decide) rfl rfl rfl ?_
    refine go_s 1 X (pc2 := 18) (st2 := [.int r6]) rfl ?_
    cases h
    exact r_iret X rfl rfl ⟨rfl, rfl⟩ (by decide) (by decide)
set_option maxHeartbeats 400000 in
set_option maxRecDepth 20000 in
theorem c_X9_pages (v : MV) (a : Int32) (r : Int32) (w : MV) (h : f_X9_pages v a = some (r, w)) : Sem z_X9_pages 3 0 0 [.ref 0, .int a] (WM v) (PST (.inl (some (.int r))) (WM w)) := by
  refine Sem.of zo_X9_pages (by decide +kernel) (Nat.le_of_ble_eq_true rfl) fun κ X hE hR hN => ?_
  unfold f_X9_pages at h
  refine AW.eq (pc' := 0) (ls' := [some (.ref 0), some (.int a)]) (st' := []) (AH' := [.inr (9, [.ref 1, .ref 2, .ref 3, .ref 4, .int (MVPc v), .int (MVIs v), .int (MVTh v), .ref 5, .int (MVSl v), .ref 6, .int (MVLn v), .int (MVEc v), .int (MVEo v), .int (MVSa v), .int (MVEn v), .int (MVTk v), .int (MVVa v), .int (MVFa v), .int (MVFo v), .ref 7, .int (MVSc v), .ref 8, .ref 9, .int (MVOl v)]), .inl (0, 500, .inl (MVSt v)), .inl (0, 500, .inl (MVAs v)), .inl (0, 500, .inl (MVSv v)), .inl (0, 4000, .inl (MVPt v)), .inl (0, 6, .inl (MVSp v)), .inl (3, 600, .inl (MVBf v)), .inl (0, 150, .inl (MVSm v)), .inl (0, 40, .inl (MVOr v)), .inl (3, 240, .inl (MVOu v))]) ?_ rfl rfl rfl rfl
  refine go_s 2 X (pc2 := 2) (st2 := [.int a, .ref 0]) rfl ?_
  obtain ⟨r2, w3, hq1, h⟩ := bnd2_inv h
  refine q_callV X [0, 1, 2, 3, 4, 5, 6, 7, 8, 9] [] (AH2 := [.inr (9, [.ref 1, .ref 2, .ref 3, .ref 4, .int (MVPc w3), .int (MVIs w3), .int (MVTh w3), .ref 5, .int (MVSl w3), .ref 6, .int (MVLn w3), .int (MVEc w3), .int (MVEo w3), .int (MVSa w3), .int (MVEn w3), .int (MVTk w3), .int (MVVa w3), .int (MVFa w3), .int (MVFo w3), .ref 7, .int (MVSc w3), .ref 8, .ref 9, .int (MVOl w3)]), .inl (0, 500, .inl (MVSt w3)), .inl (0, 500, .inl (MVAs w3)), .inl (0, 500, .inl (MVSv w3)), .inl (0, 4000, .inl (MVPt w3)), .inl (0, 6, .inl (MVSp w3)), .inl (3, 600, .inl (MVBf w3)), .inl (0, 150, .inl (MVSm w3)), .inl (0, 40, .inl (MVOr w3)), .inl (3, 240, .inl (MVOu w3))]) (st2 := [.int r2]) (c_X9_checkJob _ _ _ _ hq1) ⟨rfl, rfl⟩ rfl k_X9_checkJob l_X9_351 rfl rfl rfl rfl rfl (fit_of hR (by decide) (by decide) (by decide) (by decide)) (Nat.le_of_ble_eq_true rfl) (by decide) rfl rfl rfl ?_
  refine r_if_eq X 17 rfl rfl (fun c4 => ?_) (fun c4 => ?_)
  · rw [if_pos c4] at h
    refine go_s 1 X (pc2 := 18) (st2 := [.int 0]) rfl ?_
    cases h
    exact r_iret X rfl rfl ⟨rfl, rfl⟩ (by decide) (by decide)
  · rw [if_neg c4] at h
    refine go_s 3 X (pc2 := 11) (st2 := [.int 2, .int a, .ref 0]) rfl ?_
    obtain ⟨r6, hq5, h⟩ := obind_inv h
    refine q_callV X [0, 1, 2, 3, 4, 5, 6, 7, 8, 9] [] (AH2 := [.inr (9, [.ref 1, .ref 2, .ref 3, .ref 4, .int (MVPc w3), .int (MVIs w3), .int (MVTh w3), .ref 5, .int (MVSl w3), .ref 6, .int (MVLn w3), .int (MVEc w3), .int (MVEo w3), .int (MVSa w3), .int (MVEn w3), .int (MVTk w3), .int (MVVa w3), .int (MVFa w3), .int (MVFo w3), .ref 7, .int (MVSc w3), .ref 8, .ref 9, .int (MVOl w3)]), .inl (0, 500, .inl (MVSt w3)), .inl (0, 500, .inl (MVAs w3)), .inl (0, 500, .inl (MVSv w3)), .inl (0, 4000, .inl (MVPt w3)), .inl (0, 6, .inl (MVSp w3)), .inl (3, 600, .inl (MVBf w3)), .inl (0, 150, .inl (MVSm w3)), .inl (0, 40, .inl (MVOr w3)), .inl (3, 240, .inl (MVOu w3))]) (st2 := [.int r6]) (c_X9_get _ _ _ _ hq5) ⟨rfl, rfl⟩ rfl k_X9_get l_X9_90 rfl rfl rfl rfl rfl (fit_of hR (by decide) (by decide) (by decide) (by decide)) (Nat.le_of_ble_eq_true rfl) (by decide) rfl rfl rfl ?_
    refine go_s 1 X (pc2 := 18) (st2 := [.int r6]) rfl ?_
    cases h
    exact r_iret X rfl rfl ⟨rfl, rfl⟩ (by decide) (by decide)
set_option maxHeartbeats 400000 in
set_option maxRecDepth 20000 in
theorem c_X9_pagesBefore (v : MV) (a : Int32) (r : Int32) (w : MV) (h : f_X9_pagesBefore v a = some (r, w)) : Sem z_X9_pagesBefore 5 0 0 [.ref 0, .int a] (WM v) (PST (.inl (some (.int r))) (WM w)) := by
  refine Sem.of zo_X9_pagesBefore (by decide +kernel) (Nat.le_of_ble_eq_true rfl) fun κ X hE hR hN => ?_
  unfold f_X9_pagesBefore at h
  refine AW.eq (pc' := 0) (ls' := [some (.ref 0), some (.int a)]) (st' := []) (AH' := [.inr (9, [.ref 1, .ref 2, .ref 3, .ref 4, .int (MVPc v), .int (MVIs v), .int (MVTh v), .ref 5, .int (MVSl v), .ref 6, .int (MVLn v), .int (MVEc v), .int (MVEo v), .int (MVSa v), .int (MVEn v), .int (MVTk v), .int (MVVa v), .int (MVFa v), .int (MVFo v), .ref 7, .int (MVSc v), .ref 8, .ref 9, .int (MVOl v)]), .inl (0, 500, .inl (MVSt v)), .inl (0, 500, .inl (MVAs v)), .inl (0, 500, .inl (MVSv v)), .inl (0, 4000, .inl (MVPt v)), .inl (0, 6, .inl (MVSp v)), .inl (3, 600, .inl (MVBf v)), .inl (0, 150, .inl (MVSm v)), .inl (0, 40, .inl (MVOr v)), .inl (3, 240, .inl (MVOu v))]) ?_ rfl rfl rfl rfl
  refine go_s 2 X (pc2 := 2) (st2 := [.int a, .ref 0]) rfl ?_
  obtain ⟨r2, w3, hq1, h⟩ := bnd2_inv h
  refine q_callV X [0, 1, 2, 3, 4, 5, 6, 7, 8, 9] [] (AH2 := [.inr (9, [.ref 1, .ref 2, .ref 3, .ref 4, .int (MVPc w3), .int (MVIs w3), .int (MVTh w3), .ref 5, .int (MVSl w3), .ref 6, .int (MVLn w3), .int (MVEc w3), .int (MVEo w3), .int (MVSa w3), .int (MVEn w3), .int (MVTk w3), .int (MVVa w3), .int (MVFa w3), .int (MVFo w3), .ref 7, .int (MVSc w3), .ref 8, .ref 9, .int (MVOl w3)]), .inl (0, 500, .inl (MVSt w3)), .inl (0, 500, .inl (MVAs w3)), .inl (0, 500, .inl (MVSv w3)), .inl (0, 4000, .inl (MVPt w3)), .inl (0, 6, .inl (MVSp w3)), .inl (3, 600, .inl (MVBf w3)), .inl (0, 150, .inl (MVSm w3)), .inl (0, 40, .inl (MVOr w3)), .inl (3, 240, .inl (MVOu w3))]) (st2 := [.int r2]) (c_X9_checkWaiting _ _ _ _ hq1) ⟨rfl, rfl⟩ rfl k_X9_checkWaiting l_X9_354 rfl rfl rfl rfl rfl (fit_of hR (by decide) (by decide) (by decide) (by decide)) (Nat.le_of_ble_eq_true rfl) (by decide) rfl rfl rfl ?_
  refine r_if_eq X 16 rfl rfl (fun c4 => ?_) (fun c4 => ?_)
  · rw [if_pos c4] at h
    refine go_s 1 X (pc2 := 17) (st2 := [.int 0]) rfl ?_
    cases h
    exact r_iret X rfl rfl ⟨rfl, rfl⟩ (by decide) (by decide)
  · rw [if_neg c4] at h
    refine go_s 2 X (pc2 := 10) (st2 := [.int a, .ref 0]) rfl ?_
    obtain ⟨r6, hq5, h⟩ := obind_inv h
    refine q_callV X [0, 1, 2, 3, 4, 5, 6, 7, 8, 9] [] (AH2 := [.inr (9, [.ref 1, .ref 2, .ref 3, .ref 4, .int (MVPc w3), .int (MVIs w3), .int (MVTh w3), .ref 5, .int (MVSl w3), .ref 6, .int (MVLn w3), .int (MVEc w3), .int (MVEo w3), .int (MVSa w3), .int (MVEn w3), .int (MVTk w3), .int (MVVa w3), .int (MVFa w3), .int (MVFo w3), .ref 7, .int (MVSc w3), .ref 8, .ref 9, .int (MVOl w3)]), .inl (0, 500, .inl (MVSt w3)), .inl (0, 500, .inl (MVAs w3)), .inl (0, 500, .inl (MVSv w3)), .inl (0, 4000, .inl (MVPt w3)), .inl (0, 6, .inl (MVSp w3)), .inl (3, 600, .inl (MVBf w3)), .inl (0, 150, .inl (MVSm w3)), .inl (0, 40, .inl (MVOr w3)), .inl (3, 240, .inl (MVOu w3))]) (st2 := [.int r6]) (c_X9_pagesAhead _ _ _ hq5) ⟨rfl, rfl⟩ rfl k_X9_pagesAhead l_X9_366 rfl rfl rfl rfl rfl (fit_of hR (by decide) (by decide) (by decide) (by decide)) (Nat.le_of_ble_eq_true rfl) (by decide) rfl rfl rfl ?_
    refine go_s 1 X (pc2 := 17) (st2 := [.int r6]) rfl ?_
    cases h
    exact r_iret X rfl rfl ⟨rfl, rfl⟩ (by decide) (by decide)
set_option maxHeartbeats 400000 in
set_option maxRecDepth 20000 in
theorem a_X9_pagesOfOwner_h5 {κ : KX} (X : CX κ z_X9_pagesOfOwner) (hR : κR κ = rmM 2 0 0) : ∀ (n : Nat) (l1 : Int32) (l2 : Int32) (l3 : Int32) (l4 : Int32) (v : MV) (r : Int32) (h : f_X9_pagesOfOwner_h5 n l1 l2 l3 l4 v = some r), AW κ (QM κ (PST (.inl (some (.int r))) (WM v)) 0 0) 5 [some (.ref 0), some (.int l1), some (.int l2), some (.int l3), some (.int l4), none] [] (WM v) 0 0 := by
  intro n
  induction n with
  | zero =>
    intro l1 l2 l3 l4 v r h
    unfold f_X9_pagesOfOwner_h5 at h
    cases h
  | succ n ih =>
    intro l1 l2 l3 l4 v r h
    unfold f_X9_pagesOfOwner_h5 at h
    refine AW.eq (pc' := 5) (ls' := [some (.ref 0), some (.int l1), some (.int l2), some (.int l3), some (.int l4), none]) (st' := []) (AH' := [.inr (9, [.ref 1, .ref 2, .ref 3, .ref 4, .int (MVPc v), .int (MVIs v), .int (MVTh v), .ref 5, .int (MVSl v), .ref 6, .int (MVLn v), .int (MVEc v), .int (MVEo v), .int (MVSa v), .int (MVEn v), .int (MVTk v), .int (MVVa v), .int (MVFa v), .int (MVFo v), .ref 7, .int (MVSc v), .ref 8, .ref 9, .int (MVOl v)]), .inl (0, 500, .inl (MVSt v)), .inl (0, 500, .inl (MVAs v)), .inl (0, 500, .inl (MVSv v)), .inl (0, 4000, .inl (MVPt v)), .inl (0, 6, .inl (MVSp v)), .inl (3, 600, .inl (MVBf v)), .inl (0, 150, .inl (MVSm v)), .inl (0, 40, .inl (MVOr v)), .inl (3, 240, .inl (MVOu v))]) ?_ rfl rfl rfl rfl
    refine go_s 4 X (pc2 := 12) (st2 := [.int 2, .ref 1, .int l4]) rfl ?_
    by_cases b1 : oob 2 500
    · rw [if_pos b1] at h; cases h
    rw [if_neg b1] at h
    refine r_iald X rfl rfl b1 ?_
    refine r_icmp_ge X 70 rfl rfl (fun c2 => ?_) (fun c2 => ?_)
    · rw [if_pos c2] at h
      refine go_s 1 X (pc2 := 71) (st2 := [.int l3]) rfl ?_
      cases h
      exact r_iret X rfl rfl ⟨rfl, rfl⟩ (by decide) (by decide)
    · rw [if_neg c2] at h
      refine go_s 3 X (pc2 := 20) (st2 := [.int 0, .int l4, .ref 0]) rfl ?_
      obtain ⟨r4, hq3, h⟩ := obind_inv h
      refine q_callV X [0, 1, 2, 3, 4, 5, 6, 7, 8, 9] [] (AH2 := [.inr (9, [.ref 1, .ref 2, .ref 3, .ref 4, .int (MVPc v), .int (MVIs v), .int (MVTh v), .ref 5, .int (MVSl v), .ref 6, .int (MVLn v), .int (MVEc v), .int (MVEo v), .int (MVSa v), .int (MVEn v), .int (MVTk v), .int (MVVa v), .int (MVFa v), .int (MVFo v), .ref 7, .int (MVSc v), .ref 8, .ref 9, .int (MVOl v)]), .inl (0, 500, .inl (MVSt v)), .inl (0, 500, .inl (MVAs v)), .inl (0, 500, .inl (MVSv v)), .inl (0, 4000, .inl (MVPt v)), .inl (0, 6, .inl (MVSp v)), .inl (3, 600, .inl (MVBf v)), .inl (0, 150, .inl (MVSm v)), .inl (0, 40, .inl (MVOr v)), .inl (3, 240, .inl (MVOu v))]) (st2 := [.int r4]) (c_X9_get _ _ _ _ hq3) ⟨rfl, rfl⟩ rfl k_X9_get l_X9_90 rfl rfl rfl rfl rfl (fit_of hR (by decide) (by decide) (by decide) (by decide)) (Nat.le_of_ble_eq_true rfl) (by decide) rfl rfl rfl ?_
      refine go_s 1 X (pc2 := 24) (st2 := [.int l1, .int r4]) rfl ?_
      refine r_icmp_ne X 42 rfl rfl (fun c6 => ?_) (fun c6 => ?_)
      · rw [if_neg c6] at h
        refine go_l 4 X (pc2 := 48) (ls2 := [some (.ref 0), some (.int l1), some (.int l2), some (.int l3), some (.int l4), some (.int 0)]) (st2 := [.int 0, .int l3]) rfl ?_
        refine r_if_eq X 61 rfl rfl (fun c7 => ?_) (fun c7 => ?_)
        · refine go_l 5 X (pc2 := 5) (ls2 := [some (.ref 0), some (.int l1), some (.int l2), some (.int (l3 + 0)), some (.int (l4 + 1)), some (.int 0)]) (st2 := []) rfl ?_
          refine AW.forget (ls' := [some (.ref 0), some (.int l1), some (.int l2), some (.int (l3 + 0)), some (.int (l4 + 1)), none]) rfl (subL_of ⟨rfl, ⟨rfl, ⟨rfl, ⟨rfl, ⟨rfl, trivial⟩⟩⟩⟩⟩) ?_
          exact AW.eq (ih _ _ _ _ _ _ h) rfl rfl rfl rfl
        · exact absurd c7 (by decide)
      · rw [if_pos c6] at h
        refine go_s 3 X (pc2 := 31) (st2 := [.int 3, .int l4, .ref 0]) rfl ?_
        obtain ⟨r9, hq8, h⟩ := obind_inv h
        refine q_callV X [0, 1, 2, 3, 4, 5, 6, 7, 8, 9] [] (AH2 := [.inr (9, [.ref 1, .ref 2, .ref 3, .ref 4, .int (MVPc v), .int (MVIs v), .int (MVTh v), .ref 5, .int (MVSl v), .ref 6, .int (MVLn v), .int (MVEc v), .int (MVEo v), .int (MVSa v), .int (MVEn v), .int (MVTk v), .int (MVVa v), .int (MVFa v), .int (MVFo v), .ref 7, .int (MVSc v), .ref 8, .ref 9, .int (MVOl v)]), .inl (0, 500, .inl (MVSt v)), .inl (0, 500, .inl (MVAs v)), .inl (0, 500, .inl (MVSv v)), .inl (0, 4000, .inl (MVPt v)), .inl (0, 6, .inl (MVSp v)), .inl (3, 600, .inl (MVBf v)), .inl (0, 150, .inl (MVSm v)), .inl (0, 40, .inl (MVOr v)), .inl (3, 240, .inl (MVOu v))]) (st2 := [.int r9]) (c_X9_get _ _ _ _ hq8) ⟨rfl, rfl⟩ rfl k_X9_get l_X9_90 rfl rfl rfl rfl rfl (fit_of hR (by decide) (by decide) (by decide) (by decide)) (Nat.le_of_ble_eq_true rfl) (by decide) rfl rfl rfl ?_
        refine go_s 1 X (pc2 := 35) (st2 := [.int l2, .int r9]) rfl ?_
        refine r_icmp_ne X 42 rfl rfl (fun c11 => ?_) (fun c11 => ?_)
        · rw [if_neg c11] at h
          refine go_l 4 X (pc2 := 48) (ls2 := [some (.ref 0), some (.int l1), some (.int l2), some (.int l3), some (.int l4), some (.int 0)]) (st2 := [.int 0, .int l3]) rfl ?_
          refine r_if_eq X 61 rfl rfl (fun c12 => ?_) (fun c12 => ?_)
          · refine go_l 5 X (pc2 := 5) (ls2 := [some (.ref 0), some (.int l1), some (.int l2), some (.int (l3 + 0)), some (.int (l4 + 1)), some (.int 0)]) (st2 := []) rfl ?_
            refine AW.forget (ls' := [some (.ref 0), some (.int l1), some (.int l2), some (.int (l3 + 0)), some (.int (l4 + 1)), none]) rfl (subL_of ⟨rfl, ⟨rfl, ⟨rfl, ⟨rfl, ⟨rfl, trivial⟩⟩⟩⟩⟩) ?_
            exact AW.eq (ih _ _ _ _ _ _ h) rfl rfl rfl rfl
          · exact absurd c12 (by decide)
        · rw [if_pos c11] at h
          refine go_l 5 X (pc2 := 48) (ls2 := [some (.ref 0), some (.int l1), some (.int l2), some (.int l3), some (.int l4), some (.int 1)]) (st2 := [.int 1, .int l3]) rfl ?_
          refine r_if_eq X 61 rfl rfl (fun c13 => ?_) (fun c13 => ?_)
          · exact absurd c13 (by decide)
          · refine go_s 3 X (pc2 := 55) (st2 := [.int 2, .int l4, .ref 0, .int l3]) rfl ?_
            obtain ⟨r15, hq14, h⟩ := obind_inv h
            refine q_callV X [0, 1, 2, 3, 4, 5, 6, 7, 8, 9] [] (AH2 := [.inr (9, [.ref 1, .ref 2, .ref 3, .ref 4, .int (MVPc v), .int (MVIs v), .int (MVTh v), .ref 5, .int (MVSl v), .ref 6, .int (MVLn v), .int (MVEc v), .int (MVEo v), .int (MVSa v), .int (MVEn v), .int (MVTk v), .int (MVVa v), .int (MVFa v), .int (MVFo v), .ref 7, .int (MVSc v), .ref 8, .ref 9, .int (MVOl v)]), .inl (0, 500, .inl (MVSt v)), .inl (0, 500, .inl (MVAs v)), .inl (0, 500, .inl (MVSv v)), .inl (0, 4000, .inl (MVPt v)), .inl (0, 6, .inl (MVSp v)), .inl (3, 600, .inl (MVBf v)), .inl (0, 150, .inl (MVSm v)), .inl (0, 40, .inl (MVOr v)), .inl (3, 240, .inl (MVOu v))]) (st2 := [.int r15, .int l3]) (c_X9_get _ _ _ _ hq14) ⟨rfl, rfl⟩ rfl k_X9_get l_X9_90 rfl rfl rfl rfl rfl (fit_of hR (by decide) (by decide) (by decide) (by decide)) (Nat.le_of_ble_eq_true rfl) (by decide) rfl rfl rfl ?_
            refine go_l 5 X (pc2 := 5) (ls2 := [some (.ref 0), some (.int l1), some (.int l2), some (.int (l3 + r15)), some (.int (l4 + 1)), some (.int 1)]) (st2 := []) rfl ?_
            refine AW.forget (ls' := [some (.ref 0), some (.int l1), some (.int l2), some (.int (l3 + r15)), some (.int (l4 + 1)), none]) rfl (subL_of ⟨rfl, ⟨rfl, ⟨rfl, ⟨rfl, ⟨rfl, trivial⟩⟩⟩⟩⟩) ?_
            exact AW.eq (ih _ _ _ _ _ _ h) rfl rfl rfl rfl
set_option maxHeartbeats 400000 in
set_option maxRecDepth 20000 in
theorem c_X9_pagesOfOwner (v : MV) (a : Int32) (b : Int32) (r : Int32) (h : f_X9_pagesOfOwner v a b = some r) : Sem z_X9_pagesOfOwner 2 0 0 [.ref 0, .int a, .int b] (WM v) (PST (.inl (some (.int r))) (WM v)) := by
  refine Sem.of zo_X9_pagesOfOwner (by decide +kernel) (Nat.le_of_ble_eq_true rfl) fun κ X hE hR hN => ?_
  unfold f_X9_pagesOfOwner at h
  refine AW.eq (pc' := 0) (ls' := [some (.ref 0), some (.int a), some (.int b), none, none, none]) (st' := []) (AH' := [.inr (9, [.ref 1, .ref 2, .ref 3, .ref 4, .int (MVPc v), .int (MVIs v), .int (MVTh v), .ref 5, .int (MVSl v), .ref 6, .int (MVLn v), .int (MVEc v), .int (MVEo v), .int (MVSa v), .int (MVEn v), .int (MVTk v), .int (MVVa v), .int (MVFa v), .int (MVFo v), .ref 7, .int (MVSc v), .ref 8, .ref 9, .int (MVOl v)]), .inl (0, 500, .inl (MVSt v)), .inl (0, 500, .inl (MVAs v)), .inl (0, 500, .inl (MVSv v)), .inl (0, 4000, .inl (MVPt v)), .inl (0, 6, .inl (MVSp v)), .inl (3, 600, .inl (MVBf v)), .inl (0, 150, .inl (MVSm v)), .inl (0, 40, .inl (MVOr v)), .inl (3, 240, .inl (MVOu v))]) ?_ rfl rfl rfl rfl
  refine go_l 4 X (pc2 := 5) (ls2 := [some (.ref 0), some (.int a), some (.int b), some (.int 0), some (.int 0), none]) (st2 := []) rfl ?_
  exact AW.eq (a_X9_pagesOfOwner_h5 X hR FU _ _ _ _ _ _ h) rfl rfl rfl rfl
set_option maxHeartbeats 400000 in
set_option maxRecDepth 20000 in
theorem c_X9_parent (v : MV) (a : Int32) (r : Int32) (w : MV) (h : f_X9_parent v a = some (r, w)) : Sem z_X9_parent 3 0 0 [.ref 0, .int a] (WM v) (PST (.inl (some (.int r))) (WM w)) := by
  refine Sem.of zo_X9_parent (by decide +kernel) (Nat.le_of_ble_eq_true rfl) fun κ X hE hR hN => ?_
  unfold f_X9_parent at h
  refine AW.eq (pc' := 0) (ls' := [some (.ref 0), some (.int a)]) (st' := []) (AH' := [.inr (9, [.ref 1, .ref 2, .ref 3, .ref 4, .int (MVPc v), .int (MVIs v), .int (MVTh v), .ref 5, .int (MVSl v), .ref 6, .int (MVLn v), .int (MVEc v), .int (MVEo v), .int (MVSa v), .int (MVEn v), .int (MVTk v), .int (MVVa v), .int (MVFa v), .int (MVFo v), .ref 7, .int (MVSc v), .ref 8, .ref 9, .int (MVOl v)]), .inl (0, 500, .inl (MVSt v)), .inl (0, 500, .inl (MVAs v)), .inl (0, 500, .inl (MVSv v)), .inl (0, 4000, .inl (MVPt v)), .inl (0, 6, .inl (MVSp v)), .inl (3, 600, .inl (MVBf v)), .inl (0, 150, .inl (MVSm v)), .inl (0, 40, .inl (MVOr v)), .inl (3, 240, .inl (MVOu v))]) ?_ rfl rfl rfl rfl
  refine go_s 2 X (pc2 := 2) (st2 := [.int a, .ref 0]) rfl ?_
  obtain ⟨r2, w3, hq1, h⟩ := bnd2_inv h
  refine q_callV X [0, 1, 2, 3, 4, 5, 6, 7, 8, 9] [] (AH2 := [.inr (9, [.ref 1, .ref 2, .ref 3, .ref 4, .int (MVPc w3), .int (MVIs w3), .int (MVTh w3), .ref 5, .int (MVSl w3), .ref 6, .int (MVLn w3), .int (MVEc w3), .int (MVEo w3), .int (MVSa w3), .int (MVEn w3), .int (MVTk w3), .int (MVVa w3), .int (MVFa w3), .int (MVFo w3), .ref 7, .int (MVSc w3), .ref 8, .ref 9, .int (MVOl w3)]), .inl (0, 500, .inl (MVSt w3)), .inl (0, 500, .inl (MVAs w3)), .inl (0, 500, .inl (MVSv w3)), .inl (0, 4000, .inl (MVPt w3)), .inl (0, 6, .inl (MVSp w3)), .inl (3, 600, .inl (MVBf w3)), .inl (0, 150, .inl (MVSm w3)), .inl (0, 40, .inl (MVOr w3)), .inl (3, 240, .inl (MVOu w3))]) (st2 := [.int r2]) (c_X9_checkJob _ _ _ _ hq1) ⟨rfl, rfl⟩ rfl k_X9_checkJob l_X9_351 rfl rfl rfl rfl rfl (fit_of hR (by decide) (by decide) (by decide) (by decide)) (Nat.le_of_ble_eq_true rfl) (by decide) rfl rfl rfl ?_
  refine r_if_eq X 18 rfl rfl (fun c4 => ?_) (fun c4 => ?_)
  · rw [if_pos c4] at h
    refine go_s 1 X (pc2 := 19) (st2 := [.int 0]) rfl ?_
    cases h
    exact r_iret X rfl rfl ⟨rfl, rfl⟩ (by decide) (by decide)
  · rw [if_neg c4] at h
    refine go_s 3 X (pc2 := 12) (st2 := [.int 7, .int a, .ref 0]) rfl ?_
    obtain ⟨r6, hq5, h⟩ := obind_inv h
    refine q_callV X [0, 1, 2, 3, 4, 5, 6, 7, 8, 9] [] (AH2 := [.inr (9, [.ref 1, .ref 2, .ref 3, .ref 4, .int (MVPc w3), .int (MVIs w3), .int (MVTh w3), .ref 5, .int (MVSl w3), .ref 6, .int (MVLn w3), .int (MVEc w3), .int (MVEo w3), .int (MVSa w3), .int (MVEn w3), .int (MVTk w3), .int (MVVa w3), .int (MVFa w3), .int (MVFo w3), .ref 7, .int (MVSc w3), .ref 8, .ref 9, .int (MVOl w3)]), .inl (0, 500, .inl (MVSt w3)), .inl (0, 500, .inl (MVAs w3)), .inl (0, 500, .inl (MVSv w3)), .inl (0, 4000, .inl (MVPt w3)), .inl (0, 6, .inl (MVSp w3)), .inl (3, 600, .inl (MVBf w3)), .inl (0, 150, .inl (MVSm w3)), .inl (0, 40, .inl (MVOr w3)), .inl (3, 240, .inl (MVOu w3))]) (st2 := [.int r6]) (c_X9_get _ _ _ _ hq5) ⟨rfl, rfl⟩ rfl k_X9_get l_X9_90 rfl rfl rfl rfl rfl (fit_of hR (by decide) (by decide) (by decide) (by decide)) (Nat.le_of_ble_eq_true rfl) (by decide) rfl rfl rfl ?_
    refine go_s 1 X (pc2 := 19) (st2 := [.int r6]) rfl ?_
    cases h
    exact r_iret X rfl rfl ⟨rfl, rfl⟩ (by decide) (by decide)
set_option maxHeartbeats 400000 in
set_option maxRecDepth 20000 in
theorem c_X9_parseHandle (v : MV) (r : Int32) (w : MV) (h : f_X9_parseHandle v = some (r, w)) : Sem z_X9_parseHandle 4 0 0 [.ref 0] (WM v) (PST (.inl (some (.int r))) (WM w)) := by
  refine Sem.of zo_X9_parseHandle (by decide +kernel) (Nat.le_of_ble_eq_true rfl) fun κ X hE hR hN => ?_
  unfold f_X9_parseHandle at h
  refine AW.eq (pc' := 0) (ls' := [some (.ref 0)]) (st' := []) (AH' := [.inr (9, [.ref 1, .ref 2, .ref 3, .ref 4, .int (MVPc v), .int (MVIs v), .int (MVTh v), .ref 5, .int (MVSl v), .ref 6, .int (MVLn v), .int (MVEc v), .int (MVEo v), .int (MVSa v), .int (MVEn v), .int (MVTk v), .int (MVVa v), .int (MVFa v), .int (MVFo v), .ref 7, .int (MVSc v), .ref 8, .ref 9, .int (MVOl v)]), .inl (0, 500, .inl (MVSt v)), .inl (0, 500, .inl (MVAs v)), .inl (0, 500, .inl (MVSv v)), .inl (0, 4000, .inl (MVPt v)), .inl (0, 6, .inl (MVSp v)), .inl (3, 600, .inl (MVBf v)), .inl (0, 150, .inl (MVSm v)), .inl (0, 40, .inl (MVOr v)), .inl (3, 240, .inl (MVOu v))]) ?_ rfl rfl rfl rfl
  refine go_s 3 X (pc2 := 4) (st2 := [.int 39, .int 0, .ref 0]) rfl ?_
  obtain ⟨r2, w3, hq1, h⟩ := bnd2_inv h
  refine q_callV X [0, 1, 2, 3, 4, 5, 6, 7, 8, 9] [] (AH2 := [.inr (9, [.ref 1, .ref 2, .ref 3, .ref 4, .int (MVPc w3), .int (MVIs w3), .int (MVTh w3), .ref 5, .int (MVSl w3), .ref 6, .int (MVLn w3), .int (MVEc w3), .int (MVEo w3), .int (MVSa w3), .int (MVEn w3), .int (MVTk w3), .int (MVVa w3), .int (MVFa w3), .int (MVFo w3), .ref 7, .int (MVSc w3), .ref 8, .ref 9, .int (MVOl w3)]), .inl (0, 500, .inl (MVSt w3)), .inl (0, 500, .inl (MVAs w3)), .inl (0, 500, .inl (MVSv w3)), .inl (0, 4000, .inl (MVPt w3)), .inl (0, 6, .inl (MVSp w3)), .inl (3, 600, .inl (MVBf w3)), .inl (0, 150, .inl (MVSm w3)), .inl (0, 40, .inl (MVOr w3)), .inl (3, 240, .inl (MVOu w3))]) (st2 := [.int r2]) (c_X9_parseNumber _ _ _ _ _ hq1) ⟨rfl, rfl⟩ rfl k_X9_parseNumber l_X9_215 rfl rfl rfl rfl rfl (fit_of hR (by decide) (by decide) (by decide) (by decide)) (Nat.le_of_ble_eq_true rfl) (by decide) rfl rfl rfl ?_
  cases h
  exact r_iret X rfl rfl ⟨rfl, rfl⟩ (by decide) (by decide)
set_option maxHeartbeats 400000 in
set_option maxRecDepth 20000 in
theorem c_X9_statementKind (v : MV) (r : Int32) (h : f_X9_statementKind v = some r) : Sem z_X9_statementKind 8 0 0 [.ref 0] (WM v) (PST (.inl (some (.int r))) (WM v)) := by
  refine Sem.of zo_X9_statementKind (by decide +kernel) (Nat.le_of_ble_eq_true rfl) fun κ X hE hR hN => ?_
  unfold f_X9_statementKind at h
  refine AW.eq (pc' := 0) (ls' := [some (.ref 0)]) (st' := []) (AH' := [.inr (9, [.ref 1, .ref 2, .ref 3, .ref 4, .int (MVPc v), .int (MVIs v), .int (MVTh v), .ref 5, .int (MVSl v), .ref 6, .int (MVLn v), .int (MVEc v), .int (MVEo v), .int (MVSa v), .int (MVEn v), .int (MVTk v), .int (MVVa v), .int (MVFa v), .int (MVFo v), .ref 7, .int (MVSc v), .ref 8, .ref 9, .int (MVOl v)]), .inl (0, 500, .inl (MVSt v)), .inl (0, 500, .inl (MVAs v)), .inl (0, 500, .inl (MVSv v)), .inl (0, 4000, .inl (MVPt v)), .inl (0, 6, .inl (MVSp v)), .inl (3, 600, .inl (MVBf v)), .inl (0, 150, .inl (MVSm v)), .inl (0, 40, .inl (MVOr v)), .inl (3, 240, .inl (MVOu v))]) ?_ rfl rfl rfl rfl
  refine go_s 1 X (pc2 := 1) (st2 := [.ref 0]) rfl ?_
  refine r_ldcSW X 30 rfl rfl ?_
  obtain ⟨r2, hq1, h⟩ := obind_inv h
  refine q_callV X [0, 1, 2, 3, 4, 5, 6, 7, 8, 9] [] (AH2 := [.inr (9, [.ref 1, .ref 2, .ref 3, .ref 4, .int (MVPc v), .int (MVIs v), .int (MVTh v), .ref 5, .int (MVSl v), .ref 6, .int (MVLn v), .int (MVEc v), .int (MVEo v), .int (MVSa v), .int (MVEn v), .int (MVTk v), .int (MVVa v), .int (MVFa v), .int (MVFo v), .ref 7, .int (MVSc v), .ref 8, .ref 9, .int (MVOl v)]), .inl (0, 500, .inl (MVSt v)), .inl (0, 500, .inl (MVAs v)), .inl (0, 500, .inl (MVSv v)), .inl (0, 4000, .inl (MVPt v)), .inl (0, 6, .inl (MVSp v)), .inl (3, 600, .inl (MVBf v)), .inl (0, 150, .inl (MVSm v)), .inl (0, 40, .inl (MVOr v)), .inl (3, 240, .inl (MVOu v))]) (st2 := [.int r2]) (c_X9_isWord _ _ _ hq1 (by decide)) ⟨rfl, rfl⟩ rfl k_X9_isWord l_X9_226 rfl rfl rfl rfl rfl (fit_of hR (by decide) (by decide) (by decide) (by decide)) (Nat.le_of_ble_eq_true rfl) (by decide) rfl rfl rfl ?_
  refine r_if_eq X 12 rfl rfl (fun c4 => ?_) (fun c4 => ?_)
  · rw [if_pos c4] at h
    refine go_s 1 X (pc2 := 13) (st2 := [.ref 0]) rfl ?_
    refine r_ldcSW X 31 rfl rfl ?_
    obtain ⟨r6, hq5, h⟩ := obind_inv h
    refine q_callV X [0, 1, 2, 3, 4, 5, 6, 7, 8, 9] [] (AH2 := [.inr (9, [.ref 1, .ref 2, .ref 3, .ref 4, .int (MVPc v), .int (MVIs v), .int (MVTh v), .ref 5, .int (MVSl v), .ref 6, .int (MVLn v), .int (MVEc v), .int (MVEo v), .int (MVSa v), .int (MVEn v), .int (MVTk v), .int (MVVa v), .int (MVFa v), .int (MVFo v), .ref 7, .int (MVSc v), .ref 8, .ref 9, .int (MVOl v)]), .inl (0, 500, .inl (MVSt v)), .inl (0, 500, .inl (MVAs v)), .inl (0, 500, .inl (MVSv v)), .inl (0, 4000, .inl (MVPt v)), .inl (0, 6, .inl (MVSp v)), .inl (3, 600, .inl (MVBf v)), .inl (0, 150, .inl (MVSm v)), .inl (0, 40, .inl (MVOr v)), .inl (3, 240, .inl (MVOu v))]) (st2 := [.int r6]) (c_X9_isWord _ _ _ hq5 (by decide)) ⟨rfl, rfl⟩ rfl k_X9_isWord l_X9_226 rfl rfl rfl rfl rfl (fit_of hR (by decide) (by decide) (by decide) (by decide)) (Nat.le_of_ble_eq_true rfl) (by decide) rfl rfl rfl ?_
    refine r_if_eq X 24 rfl rfl (fun c8 => ?_) (fun c8 => ?_)
    · rw [if_pos c8] at h
      refine go_s 1 X (pc2 := 25) (st2 := [.ref 0]) rfl ?_
      refine r_ldcSW X 32 rfl rfl ?_
      obtain ⟨r10, hq9, h⟩ := obind_inv h
      refine q_callV X [0, 1, 2, 3, 4, 5, 6, 7, 8, 9] [] (AH2 := [.inr (9, [.ref 1, .ref 2, .ref 3, .ref 4, .int (MVPc v), .int (MVIs v), .int (MVTh v), .ref 5, .int (MVSl v), .ref 6, .int (MVLn v), .int (MVEc v), .int (MVEo v), .int (MVSa v), .int (MVEn v), .int (MVTk v), .int (MVVa v), .int (MVFa v), .int (MVFo v), .ref 7, .int (MVSc v), .ref 8, .ref 9, .int (MVOl v)]), .inl (0, 500, .inl (MVSt v)), .inl (0, 500, .inl (MVAs v)), .inl (0, 500, .inl (MVSv v)), .inl (0, 4000, .inl (MVPt v)), .inl (0, 6, .inl (MVSp v)), .inl (3, 600, .inl (MVBf v)), .inl (0, 150, .inl (MVSm v)), .inl (0, 40, .inl (MVOr v)), .inl (3, 240, .inl (MVOu v))]) (st2 := [.int r10]) (c_X9_isWord _ _ _ hq9 (by decide)) ⟨rfl, rfl⟩ rfl k_X9_isWord l_X9_226 rfl rfl rfl rfl rfl (fit_of hR (by decide) (by decide) (by decide) (by decide)) (Nat.le_of_ble_eq_true rfl) (by decide) rfl rfl rfl ?_
      refine r_if_eq X 36 rfl rfl (fun c12 => ?_) (fun c12 => ?_)
      · rw [if_pos c12] at h
        refine go_s 1 X (pc2 := 37) (st2 := [.ref 0]) rfl ?_
        refine r_ldcSW X 33 rfl rfl ?_
        obtain ⟨r14, hq13, h⟩ := obind_inv h
        refine q_callV X [0, 1, 2, 3, 4, 5, 6, 7, 8, 9] [] (AH2 := [.inr (9, [.ref 1, .ref 2, .ref 3, .ref 4, .int (MVPc v), .int (MVIs v), .int (MVTh v), .ref 5, .int (MVSl v), .ref 6, .int (MVLn v), .int (MVEc v), .int (MVEo v), .int (MVSa v), .int (MVEn v), .int (MVTk v), .int (MVVa v), .int (MVFa v), .int (MVFo v), .ref 7, .int (MVSc v), .ref 8, .ref 9, .int (MVOl v)]), .inl (0, 500, .inl (MVSt v)), .inl (0, 500, .inl (MVAs v)), .inl (0, 500, .inl (MVSv v)), .inl (0, 4000, .inl (MVPt v)), .inl (0, 6, .inl (MVSp v)), .inl (3, 600, .inl (MVBf v)), .inl (0, 150, .inl (MVSm v)), .inl (0, 40, .inl (MVOr v)), .inl (3, 240, .inl (MVOu v))]) (st2 := [.int r14]) (c_X9_isWord _ _ _ hq13 (by decide)) ⟨rfl, rfl⟩ rfl k_X9_isWord l_X9_226 rfl rfl rfl rfl rfl (fit_of hR (by decide) (by decide) (by decide) (by decide)) (Nat.le_of_ble_eq_true rfl) (by decide) rfl rfl rfl ?_
        refine r_if_eq X 48 rfl rfl (fun c16 => ?_) (fun c16 => ?_)
        · rw [if_pos c16] at h
          refine go_s 1 X (pc2 := 49) (st2 := [.ref 0]) rfl ?_
          refine r_ldcSW X 34 rfl rfl ?_
          obtain ⟨r18, hq17, h⟩ := obind_inv h
          refine q_callV X [0, 1, 2, 3, 4, 5, 6, 7, 8, 9] [] (AH2 := [.inr (9, [.ref 1, .ref 2, .ref 3, .ref 4, .int (MVPc v), .int (MVIs v), .int (MVTh v), .ref 5, .int (MVSl v), .ref 6, .int (MVLn v), .int (MVEc v), .int (MVEo v), .int (MVSa v), .int (MVEn v), .int (MVTk v), .int (MVVa v), .int (MVFa v), .int (MVFo v), .ref 7, .int (MVSc v), .ref 8, .ref 9, .int (MVOl v)]), .inl (0, 500, .inl (MVSt v)), .inl (0, 500, .inl (MVAs v)), .inl (0, 500, .inl (MVSv v)), .inl (0, 4000, .inl (MVPt v)), .inl (0, 6, .inl (MVSp v)), .inl (3, 600, .inl (MVBf v)), .inl (0, 150, .inl (MVSm v)), .inl (0, 40, .inl (MVOr v)), .inl (3, 240, .inl (MVOu v))]) (st2 := [.int r18]) (c_X9_isWord _ _ _ hq17 (by decide)) ⟨rfl, rfl⟩ rfl k_X9_isWord l_X9_226 rfl rfl rfl rfl rfl (fit_of hR (by decide) (by decide) (by decide) (by decide)) (Nat.le_of_ble_eq_true rfl) (by decide) rfl rfl rfl ?_
          refine r_if_eq X 60 rfl rfl (fun c20 => ?_) (fun c20 => ?_)
          · rw [if_pos c20] at h
            refine go_s 1 X (pc2 := 61) (st2 := [.ref 0]) rfl ?_
            refine r_ldcSW X 35 rfl rfl ?_
            obtain ⟨r22, hq21, h⟩ := obind_inv h
            refine q_callV X [0, 1, 2, 3, 4, 5, 6, 7, 8, 9] [] (AH2 := [.inr (9, [.ref 1, .ref 2, .ref 3, .ref 4, .int (MVPc v), .int (MVIs v), .int (MVTh v), .ref 5, .int (MVSl v), .ref 6, .int (MVLn v), .int (MVEc v), .int (MVEo v), .int (MVSa v), .int (MVEn v), .int (MVTk v), .int (MVVa v), .int (MVFa v), .int (MVFo v), .ref 7, .int (MVSc v), .ref 8, .ref 9, .int (MVOl v)]), .inl (0, 500, .inl (MVSt v)), .inl (0, 500, .inl (MVAs v)), .inl (0, 500, .inl (MVSv v)), .inl (0, 4000, .inl (MVPt v)), .inl (0, 6, .inl (MVSp v)), .inl (3, 600, .inl (MVBf v)), .inl (0, 150, .inl (MVSm v)), .inl (0, 40, .inl (MVOr v)), .inl (3, 240, .inl (MVOu v))]) (st2 := [.int r22]) (c_X9_isWord _ _ _ hq21 (by decide)) ⟨rfl, rfl⟩ rfl k_X9_isWord l_X9_226 rfl rfl rfl rfl rfl (fit_of hR (by decide) (by decide) (by decide) (by decide)) (Nat.le_of_ble_eq_true rfl) (by decide) rfl rfl rfl ?_
            refine r_if_eq X 72 rfl rfl (fun c24 => ?_) (fun c24 => ?_)
            · rw [if_pos c24] at h
              refine go_s 1 X (pc2 := 73) (st2 := [.ref 0]) rfl ?_
              refine r_ldcSW X 36 rfl rfl ?_
              obtain ⟨r26, hq25, h⟩ := obind_inv h
              refine q_callV X [0, 1, 2, 3, 4, 5, 6, 7, 8, 9] [] (AH2 := [.inr (9, [.ref 1, .ref 2, .ref 3, .ref 4, .int (MVPc v), .int (MVIs v), .int (MVTh v), .ref 5, .int (MVSl v), .ref 6, .int (MVLn v), .int (MVEc v), .int (MVEo v), .int (MVSa v), .int (MVEn v), .int (MVTk v), .int (MVVa v), .int (MVFa v), .int (MVFo v), .ref 7, .int (MVSc v), .ref 8, .ref 9, .int (MVOl v)]), .inl (0, 500, .inl (MVSt v)), .inl (0, 500, .inl (MVAs v)), .inl (0, 500, .inl (MVSv v)), .inl (0, 4000, .inl (MVPt v)), .inl (0, 6, .inl (MVSp v)), .inl (3, 600, .inl (MVBf v)), .inl (0, 150, .inl (MVSm v)), .inl (0, 40, .inl (MVOr v)), .inl (3, 240, .inl (MVOu v))]) (st2 := [.int r26]) (c_X9_isWord _ _ _ hq25 (by decide)) ⟨rfl, rfl⟩ rfl k_X9_isWord l_X9_226 rfl rfl rfl rfl rfl (fit_of hR (by decide) (by decide) (by decide) (by decide)) (Nat.le_of_ble_eq_true rfl) (by decide) rfl rfl rfl ?_
              refine r_if_eq X 85 rfl rfl (fun c28 => ?_) (fun c28 => ?_)
              · rw [if_pos c28] at h
                refine go_s 1 X (pc2 := 86) (st2 := [.ref 0]) rfl ?_
                refine r_ldcSW X 37 rfl rfl ?_
                obtain ⟨r30, hq29, h⟩ := obind_inv h
                refine q_callV X [0, 1, 2, 3, 4, 5, 6, 7, 8, 9] [] (AH2 := [.inr (9, [.ref 1, .ref 2, .ref 3, .ref 4, .int (MVPc v), .int (MVIs v), .int (MVTh v), .ref 5, .int (MVSl v), .ref 6, .int (MVLn v), .int (MVEc v), .int (MVEo v), .int (MVSa v), .int (MVEn v), .int (MVTk v), .int (MVVa v), .int (MVFa v), .int (MVFo v), .ref 7, .int (MVSc v), .ref 8, .ref 9, .int (MVOl v)]), .inl (0, 500, .inl (MVSt v)), .inl (0, 500, .inl (MVAs v)), .inl (0, 500, .inl (MVSv v)), .inl (0, 4000, .inl (MVPt v)), .inl (0, 6, .inl (MVSp v)), .inl (3, 600, .inl (MVBf v)), .inl (0, 150, .inl (MVSm v)), .inl (0, 40, .inl (MVOr v)), .inl (3, 240, .inl (MVOu v))]) (st2 := [.int r30]) (c_X9_isWord _ _ _ hq29 (by decide)) ⟨rfl, rfl⟩ rfl k_X9_isWord l_X9_226 rfl rfl rfl rfl rfl (fit_of hR (by decide) (by decide) (by decide) (by decide)) (Nat.le_of_ble_eq_true rfl) (by decide) rfl rfl rfl ?_
                refine r_if_eq X 100 rfl rfl (fun c32 => ?_) (fun c32 => ?_)
                · rw [if_pos c32] at h
                  refine go_s 1 X (pc2 := 101) (st2 := [.int (-1)]) rfl ?_
                  cases h
                  exact r_iret X rfl rfl ⟨rfl, rfl⟩ (by decide) (by decide)
                · rw [if_neg c32] at h
                  refine go_s 2 X (pc2 := 101) (st2 := [.int 7]) rfl ?_
                  cases h
                  exact r_iret X rfl rfl ⟨rfl, rfl⟩ (by decide) (by decide)
              · rw [if_neg c28] at h
                refine go_s 1 X (pc2 := 84) (st2 := [.int 6]) rfl ?_
                cases h
                exact r_iret X rfl rfl ⟨rfl, rfl⟩ (by decide) (by decide)
            · rw [if_neg c24] at h
              refine go_s 1 X (pc2 := 71) (st2 := [.int 5]) rfl ?_
              cases h
              exact r_iret X rfl rfl ⟨rfl, rfl⟩ (by decide) (by decide)
          · rw [if_neg c20] at h
            refine go_s 1 X (pc2 := 59) (st2 := [.int 4]) rfl ?_
            cases h
            exact r_iret X rfl rfl ⟨rfl, rfl⟩ (by decide) (by decide)
        · rw [if_neg c16] at h
          refine go_s 1 X (pc2 := 47) (st2 := [.int 3]) rfl ?_
          cases h
          exact r_iret X rfl rfl ⟨rfl, rfl⟩ (by decide) (by decide)
      · rw [if_neg c12] at h
        refine go_s 1 X (pc2 := 35) (st2 := [.int 2]) rfl ?_
        cases h
        exact r_iret X rfl rfl ⟨rfl, rfl⟩ (by decide) (by decide)
    · rw [if_neg c8] at h
      refine go_s 1 X (pc2 := 23) (st2 := [.int 1]) rfl ?_
      cases h
      exact r_iret X rfl rfl ⟨rfl, rfl⟩ (by decide) (by decide)
  · rw [if_neg c4] at h
    refine go_s 1 X (pc2 := 11) (st2 := [.int 0]) rfl ?_
    cases h
    exact r_iret X rfl rfl ⟨rfl, rfl⟩ (by decide) (by decide)
set_option maxHeartbeats 400000 in
set_option maxRecDepth 20000 in
theorem a_X9_parseStatement_j284 {κ : KX} (X : CX κ z_X9_parseStatement) (hR : κR κ = rmM 9 0 0) : ∀ (v : MV) (r : Unit) (w : MV) (h : f_X9_parseStatement_j284 v = some (r, w)), AW κ (QM κ (PST (.inl none) (WM w)) 0 0) 284 [some (.ref 0), none, none] [] (WM v) 0 0 := by
  intro v r w h
  unfold f_X9_parseStatement_j284 at h
  refine AW.eq (pc' := 284) (ls' := [some (.ref 0), none, none]) (st' := []) (AH' := [.inr (9, [.ref 1, .ref 2, .ref 3, .ref 4, .int (MVPc v), .int (MVIs v), .int (MVTh v), .ref 5, .int (MVSl v), .ref 6, .int (MVLn v), .int (MVEc v), .int (MVEo v), .int (MVSa v), .int (MVEn v), .int (MVTk v), .int (MVVa v), .int (MVFa v), .int (MVFo v), .ref 7, .int (MVSc v), .ref 8, .ref 9, .int (MVOl v)]), .inl (0, 500, .inl (MVSt v)), .inl (0, 500, .inl (MVAs v)), .inl (0, 500, .inl (MVSv v)), .inl (0, 4000, .inl (MVPt v)), .inl (0, 6, .inl (MVSp v)), .inl (3, 600, .inl (MVBf v)), .inl (0, 150, .inl (MVSm v)), .inl (0, 40, .inl (MVOr v)), .inl (3, 240, .inl (MVOu v))]) ?_ rfl rfl rfl rfl
  refine go_s 1 X (pc2 := 285) (st2 := [.ref 0]) rfl ?_
  obtain ⟨r35, w36, hq34, h⟩ := bnd2_inv h
  refine q_callV X [0, 1, 2, 3, 4, 5, 6, 7, 8, 9] [] (AH2 := [.inr (9, [.ref 1, .ref 2, .ref 3, .ref 4, .int (MVPc w36), .int (MVIs w36), .int (MVTh w36), .ref 5, .int (MVSl w36), .ref 6, .int (MVLn w36), .int (MVEc w36), .int (MVEo w36), .int (MVSa w36), .int (MVEn w36), .int (MVTk w36), .int (MVVa w36), .int (MVFa w36), .int (MVFo w36), .ref 7, .int (MVSc w36), .ref 8, .ref 9, .int (MVOl w36)]), .inl (0, 500, .inl (MVSt w36)), .inl (0, 500, .inl (MVAs w36)), .inl (0, 500, .inl (MVSv w36)), .inl (0, 4000, .inl (MVPt w36)), .inl (0, 6, .inl (MVSp w36)), .inl (3, 600, .inl (MVBf w36)), .inl (0, 150, .inl (MVSm w36)), .inl (0, 40, .inl (MVOr w36)), .inl (3, 240, .inl (MVOu w36))]) (st2 := []) (c_X9_parseSemicolon _ _ _ hq34) ⟨rfl, rfl⟩ rfl k_X9_parseSemicolon l_X9_243 rfl rfl rfl rfl rfl (fit_of hR (by decide) (by decide) (by decide) (by decide)) (Nat.le_of_ble_eq_true rfl) (by decide) rfl rfl rfl ?_
  refine go 6 X (pc2 := 298) (ls2 := [some (.ref 0), none, none]) (st2 := []) (AH2 := [.inr (9, [.ref 1, .ref 2, .ref 3, .ref 4, .int (MVPc w36), .int (MVIs w36), .int (MVTh w36), .ref 5, .int (MVSl w36), .ref 6, .int (MVLn w36), .int (MVEc w36), .int (MVEo w36), .int (MVSa w36), .int (MVEn w36), .int (MVTk w36), .int (MVVa w36), .int (MVFa w36), .int (MVFo w36), .ref 7, .int ((MVSc w36) + 1), .ref 8, .ref 9, .int (MVOl w36)]), .inl (0, 500, .inl (MVSt w36)), .inl (0, 500, .inl (MVAs w36)), .inl (0, 500, .inl (MVSv w36)), .inl (0, 4000, .inl (MVPt w36)), .inl (0, 6, .inl (MVSp w36)), .inl (3, 600, .inl (MVBf w36)), .inl (0, 150, .inl (MVSm w36)), .inl (0, 40, .inl (MVOr w36)), .inl (3, 240, .inl (MVOu w36))]) rfl ?_
  cases h
  exact r_vret X rfl rfl ⟨rfl, rfl⟩ (by decide) (by decide)
set_option maxHeartbeats 400000 in
set_option maxRecDepth 20000 in
theorem a_X9_parseStatement_j271 {κ : KX} (X : CX κ z_X9_parseStatement) (hR : κR κ = rmM 9 0 0) : ∀ (l2 : Int32) (v : MV) (r : Unit) (w : MV) (h : f_X9_parseStatement_j271 l2 v = some (r, w)), AW κ (QM κ (PST (.inl none) (WM w)) 0 0) 271 [some (.ref 0), none, some (.int l2)] [] (WM v) 0 0 := by
  intro l2 v r w h
  unfold f_X9_parseStatement_j271 at h
  refine AW.eq (pc' := 271) (ls' := [some (.ref 0), none, some (.int l2)]) (st' := []) (AH' := [.inr (9, [.ref 1, .ref 2, .ref 3, .ref 4, .int (MVPc v), .int (MVIs v), .int (MVTh v), .ref 5, .int (MVSl v), .ref 6, .int (MVLn v), .int (MVEc v), .int (MVEo v), .int (MVSa v), .int (MVEn v), .int (MVTk v), .int (MVVa v), .int (MVFa v), .int (MVFo v), .ref 7, .int (MVSc v), .ref 8, .ref 9, .int (MVOl v)]), .inl (0, 500, .inl (MVSt v)), .inl (0, 500, .inl (MVAs v)), .inl (0, 500, .inl (MVSv v)), .inl (0, 4000, .inl (MVPt v)), .inl (0, 6, .inl (MVSp v)), .inl (3, 600, .inl (MVBf v)), .inl (0, 150, .inl (MVSm v)), .inl (0, 40, .inl (MVOr v)), .inl (3, 240, .inl (MVOu v))]) ?_ rfl rfl rfl rfl
  refine go_s 7 X (pc2 := 280) (st2 := [.int (-1), .ref 0, .int (l2 + 1), .ref 7]) rfl ?_
  obtain ⟨r39, w40, hq38, h⟩ := bnd2_inv h
  refine q_callV X [0, 1, 2, 3, 4, 5, 6, 7, 8, 9] [] (AH2 := [.inr (9, [.ref 1, .ref 2, .ref 3, .ref 4, .int (MVPc w40), .int (MVIs w40), .int (MVTh w40), .ref 5, .int (MVSl w40), .ref 6, .int (MVLn w40), .int (MVEc w40), .int (MVEo w40), .int (MVSa w40), .int (MVEn w40), .int (MVTk w40), .int (MVVa w40), .int (MVFa w40), .int (MVFo w40), .ref 7, .int (MVSc w40), .ref 8, .ref 9, .int (MVOl w40)]), .inl (0, 500, .inl (MVSt w40)), .inl (0, 500, .inl (MVAs w40)), .inl (0, 500, .inl (MVSv w40)), .inl (0, 4000, .inl (MVPt w40)), .inl (0, 6, .inl (MVSp w40)), .inl (3, 600, .inl (MVBf w40)), .inl (0, 150, .inl (MVSm w40)), .inl (0, 40, .inl (MVOr w40)), .inl (3, 240, .inl (MVOu w40))]) (st2 := [.int r39, .int (l2 + 1), .ref 7]) (c_X9_parseKnownQueue _ _ _ _ hq38) ⟨rfl, rfl⟩ rfl k_X9_parseKnownQueue l_X9_218 rfl rfl rfl rfl rfl (fit_of hR (by decide) (by decide) (by decide) (by decide)) (Nat.le_of_ble_eq_true rfl) (by decide) rfl rfl rfl ?_
  by_cases b41 : oob (l2 + 1) 150
  · rw [if_pos b41] at h; cases h
  rw [if_neg b41] at h
  refine r_iast X rfl rfl b41 ?_
  refine AW.forget (ls' := [some (.ref 0), none, none]) rfl (subL_of ⟨rfl, trivial⟩) ?_
  exact AW.eq (a_X9_parseStatement_j284 X hR _ _ _ h) rfl rfl rfl rfl
set_option maxHeartbeats 3000000 in
set_option maxRecDepth 20000 in
theorem a_X9_parseStatement_j35 {κ : KX} (X : CX κ z_X9_parseStatement) (hR : κR κ = rmM 9 0 0) : ∀ (l1 : Int32) (s0 : Int32) (v : MV) (r : Unit) (w : MV) (h : f_X9_parseStatement_j35 l1 s0 v = some (r, w)), AW κ (QM κ (PST (.inl none) (WM w)) 0 0) 35 [some (.ref 0), some (.int l1), none] [.int s0, .ref 0] (WM v) 0 0 := by
  intro l1 s0 v r w h
  unfold f_X9_parseStatement_j35 at h
  refine AW.eq (pc' := 35) (ls' := [some (.ref 0), some (.int l1), none]) (st' := [.int s0, .ref 0]) (AH' := [.inr (9, [.ref 1, .ref 2, .ref 3, .ref 4, .int (MVPc v), .int (MVIs v), .int (MVTh v), .ref 5, .int (MVSl v), .ref 6, .int (MVLn v), .int (MVEc v), .int (MVEo v), .int (MVSa v), .int (MVEn v), .int (MVTk v), .int (MVVa v), .int (MVFa v), .int (MVFo v), .ref 7, .int (MVSc v), .ref 8, .ref 9, .int (MVOl v)]), .inl (0, 500, .inl (MVSt v)), .inl (0, 500, .inl (MVAs v)), .inl (0, 500, .inl (MVSv v)), .inl (0, 4000, .inl (MVPt v)), .inl (0, 6, .inl (MVSp v)), .inl (3, 600, .inl (MVBf v)), .inl (0, 150, .inl (MVSm v)), .inl (0, 40, .inl (MVOr v)), .inl (3, 240, .inl (MVOu v))]) ?_ rfl rfl rfl rfl
  refine go_s 1 X (pc2 := 36) (st2 := [.int 4, .int s0, .ref 0]) rfl ?_
  obtain ⟨r10, w11, hq9, h⟩ := bnd2_inv h
  refine q_callV X [0, 1, 2, 3, 4, 5, 6, 7, 8, 9] [] (AH2 := [.inr (9, [.ref 1, .ref 2, .ref 3, .ref 4, .int (MVPc w11), .int (MVIs w11), .int (MVTh w11), .ref 5, .int (MVSl w11), .ref 6, .int (MVLn w11), .int (MVEc w11), .int (MVEo w11), .int (MVSa w11), .int (MVEn w11), .int (MVTk w11), .int (MVVa w11), .int (MVFa w11), .int (MVFo w11), .ref 7, .int (MVSc w11), .ref 8, .ref 9, .int (MVOl w11)]), .inl (0, 500, .inl (MVSt w11)), .inl (0, 500, .inl (MVAs w11)), .inl (0, 500, .inl (MVSv w11)), .inl (0, 4000, .inl (MVPt w11)), .inl (0, 6, .inl (MVSp w11)), .inl (3, 600, .inl (MVBf w11)), .inl (0, 150, .inl (MVSm w11)), .inl (0, 40, .inl (MVOr w11)), .inl (3, 240, .inl (MVOu w11))]) (st2 := []) (c_X9_expect _ _ _ _ _ hq9) ⟨rfl, rfl⟩ rfl k_X9_expect l_X9_197 rfl rfl rfl rfl rfl (fit_of hR (by decide) (by decide) (by decide) (by decide)) (Nat.le_of_ble_eq_true rfl) (by decide) rfl rfl rfl ?_
  refine go_s 1 X (pc2 := 40) (st2 := [.ref 0]) rfl ?_
  obtain ⟨r13, w14, hq12, h⟩ := bnd2_inv h
  refine q_callV X [0, 1, 2, 3, 4, 5, 6, 7, 8, 9] [] (AH2 := [.inr (9, [.ref 1, .ref 2, .ref 3, .ref 4, .int (MVPc w14), .int (MVIs w14), .int (MVTh w14), .ref 5, .int (MVSl w14), .ref 6, .int (MVLn w14), .int (MVEc w14), .int (MVEo w14), .int (MVSa w14), .int (MVEn w14), .int (MVTk w14), .int (MVVa w14), .int (MVFa w14), .int (MVFo w14), .ref 7, .int (MVSc w14), .ref 8, .ref 9, .int (MVOl w14)]), .inl (0, 500, .inl (MVSt w14)), .inl (0, 500, .inl (MVAs w14)), .inl (0, 500, .inl (MVSv w14)), .inl (0, 4000, .inl (MVPt w14)), .inl (0, 6, .inl (MVSp w14)), .inl (3, 600, .inl (MVBf w14)), .inl (0, 150, .inl (MVSm w14)), .inl (0, 40, .inl (MVOr w14)), .inl (3, 240, .inl (MVOu w14))]) (st2 := []) (c_X9_advanceToken _ _ _ hq12) ⟨rfl, rfl⟩ rfl k_X9_advanceToken l_X9_191 rfl rfl rfl rfl rfl (fit_of hR (by decide) (by decide) (by decide) (by decide)) (Nat.le_of_ble_eq_true rfl) (by decide) rfl rfl rfl ?_
  refine go_s 2 X (pc2 := 47) (st2 := [.int (MVFa w14)]) rfl ?_
  refine r_if_le X 51 rfl rfl (fun c15 => ?_) (fun c15 => ?_)
  · rw [if_pos c15] at h
    refine go_l 9 X (pc2 := 64) (ls2 := [some (.ref 0), some (.int l1), some (.int (5 * (MVSc w14)))]) (st2 := [.int l1, .int (5 * (MVSc w14)), .ref 7]) rfl ?_
    by_cases b16 : oob (5 * (MVSc w14)) 150
    · rw [if_pos b16] at h; cases h
    rw [if_neg b16] at h
    refine r_iast X rfl rfl b16 ?_
    refine go_s 1 X (pc2 := 66) (st2 := [.int l1]) rfl ?_
    by_cases c17 : l1 = 0
    · rw [if_pos c17] at h
      refine r_tableIn X 104 rfl (by rw [c17]; decide) (by rw [c17]; decide) (by rw [c17]; rfl) (by decide) ?_
      refine go_s 7 X (pc2 := 113) (st2 := [.int (-1), .ref 0, .int ((5 * (MVSc w14)) + 1), .ref 7]) rfl ?_
      obtain ⟨r19, w20, hq18, h⟩ := bnd2_inv h
      refine q_callV X [0, 1, 2, 3, 4, 5, 6, 7, 8, 9] [] (AH2 := [.inr (9, [.ref 1, .ref 2, .ref 3, .ref 4, .int (MVPc w20), .int (MVIs w20), .int (MVTh w20), .ref 5, .int (MVSl w20), .ref 6, .int (MVLn w20), .int (MVEc w20), .int (MVEo w20), .int (MVSa w20), .int (MVEn w20), .int (MVTk w20), .int (MVVa w20), .int (MVFa w20), .int (MVFo w20), .ref 7, .int (MVSc w20), .ref 8, .ref 9, .int (MVOl w20)]), .inl (0, 500, .inl (MVSt w20)), .inl (0, 500, .inl (MVAs w20)), .inl (0, 500, .inl (MVSv w20)), .inl (0, 4000, .inl (MVPt w20)), .inl (0, 6, .inl (MVSp w20)), .inl (3, 600, .inl (MVBf w20)), .inl (0, 150, .inl (MVSm w20)), .inl (0, 40, .inl (MVOr w20)), .inl (3, 240, .inl (MVOu w20))]) (st2 := [.int r19, .int ((5 * (MVSc w14)) + 1), .ref 7]) (c_X9_parseKnownQueue _ _ _ _ hq18) ⟨rfl, rfl⟩ rfl k_X9_parseKnownQueue l_X9_218 rfl rfl rfl rfl rfl (fit_of hR (by decide) (by decide) (by decide) (by decide)) (Nat.le_of_ble_eq_true rfl) (by decide) rfl rfl rfl ?_
      by_cases b21 : oob ((5 * (MVSc w14)) + 1) 150
      · rw [if_pos b21] at h; cases h
      rw [if_neg b21] at h
      refine r_iast X rfl rfl b21 ?_
      refine go_s 6 X (pc2 := 125) (st2 := [.ref 0, .int ((5 * (MVSc w14)) + 2), .ref 7]) rfl ?_
      obtain ⟨r23, w24, hq22, h⟩ := bnd2_inv h
      refine q_callV X [0, 1, 2, 3, 4, 5, 6, 7, 8, 9] [] (AH2 := [.inr (9, [.ref 1, .ref 2, .ref 3, .ref 4, .int (MVPc w24), .int (MVIs w24), .int (MVTh w24), .ref 5, .int (MVSl w24), .ref 6, .int (MVLn w24), .int (MVEc w24), .int (MVEo w24), .int (MVSa w24), .int (MVEn w24), .int (MVTk w24), .int (MVVa w24), .int (MVFa w24), .int (MVFo w24), .ref 7, .int (MVSc w24), .ref 8, .ref 9, .int (MVOl w24)]), .inl (0, 500, .inl (MVSt w24)), .inl (0, 500, .inl (MVAs w24)), .inl (0, 500, .inl (MVSv w24)), .inl (0, 4000, .inl (MVPt w24)), .inl (0, 6, .inl (MVSp w24)), .inl (3, 600, .inl (MVBf w24)), .inl (0, 150, .inl (MVSm w24)), .inl (0, 40, .inl (MVOr w24)), .inl (3, 240, .inl (MVOu w24))]) (st2 := [.int r23, .int ((5 * (MVSc w14)) + 2), .ref 7]) (c_X9_parseKnownOwner _ _ _ hq22) ⟨rfl, rfl⟩ rfl k_X9_parseKnownOwner l_X9_221 rfl rfl rfl rfl rfl (fit_of hR (by decide) (by decide) (by decide) (by decide)) (Nat.le_of_ble_eq_true rfl) (by decide) rfl rfl rfl ?_
      by_cases b25 : oob ((5 * (MVSc w14)) + 2) 150
      · rw [if_pos b25] at h; cases h
      rw [if_neg b25] at h
      refine r_iast X rfl rfl b25 ?_
      refine go_s 8 X (pc2 := 140) (st2 := [.int 99, .int 0, .ref 0, .int ((5 * (MVSc w14)) + 3), .ref 7]) rfl ?_
      obtain ⟨r27, w28, hq26, h⟩ := bnd2_inv h
      refine q_callV X [0, 1, 2, 3, 4, 5, 6, 7, 8, 9] [] (AH2 := [.inr (9, [.ref 1, .ref 2, .ref 3, .ref 4, .int (MVPc w28), .int (MVIs w28), .int (MVTh w28), .ref 5, .int (MVSl w28), .ref 6, .int (MVLn w28), .int (MVEc w28), .int (MVEo w28), .int (MVSa w28), .int (MVEn w28), .int (MVTk w28), .int (MVVa w28), .int (MVFa w28), .int (MVFo w28), .ref 7, .int (MVSc w28), .ref 8, .ref 9, .int (MVOl w28)]), .inl (0, 500, .inl (MVSt w28)), .inl (0, 500, .inl (MVAs w28)), .inl (0, 500, .inl (MVSv w28)), .inl (0, 4000, .inl (MVPt w28)), .inl (0, 6, .inl (MVSp w28)), .inl (3, 600, .inl (MVBf w28)), .inl (0, 150, .inl (MVSm w28)), .inl (0, 40, .inl (MVOr w28)), .inl (3, 240, .inl (MVOu w28))]) (st2 := [.int r27, .int ((5 * (MVSc w14)) + 3), .ref 7]) (c_X9_parseNumber _ _ _ _ _ hq26) ⟨rfl, rfl⟩ rfl k_X9_parseNumber l_X9_215 rfl rfl rfl rfl rfl (fit_of hR (by decide) (by decide) (by decide) (by decide)) (Nat.le_of_ble_eq_true rfl) (by decide) rfl rfl rfl ?_
      by_cases b29 : oob ((5 * (MVSc w14)) + 3) 150
      · rw [if_pos b29] at h; cases h
      rw [if_neg b29] at h
      refine r_iast X rfl rfl b29 ?_
      refine go_s 8 X (pc2 := 155) (st2 := [.int 99, .int 1, .ref 0, .int ((5 * (MVSc w14)) + 4), .ref 7]) rfl ?_
      obtain ⟨r31, w32, hq30, h⟩ := bnd2_inv h
      refine q_callV X [0, 1, 2, 3, 4, 5, 6, 7, 8, 9] [] (AH2 := [.inr (9, [.ref 1, .ref 2, .ref 3, .ref 4, .int (MVPc w32), .int (MVIs w32), .int (MVTh w32), .ref 5, .int (MVSl w32), .ref 6, .int (MVLn w32), .int (MVEc w32), .int (MVEo w32), .int (MVSa w32), .int (MVEn w32), .int (MVTk w32), .int (MVVa w32), .int (MVFa w32), .int (MVFo w32), .ref 7, .int (MVSc w32), .ref 8, .ref 9, .int (MVOl w32)]), .inl (0, 500, .inl (MVSt w32)), .inl (0, 500, .inl (MVAs w32)), .inl (0, 500, .inl (MVSv w32)), .inl (0, 4000, .inl (MVPt w32)), .inl (0, 6, .inl (MVSp w32)), .inl (3, 600, .inl (MVBf w32)), .inl (0, 150, .inl (MVSm w32)), .inl (0, 40, .inl (MVOr w32)), .inl (3, 240, .inl (MVOu w32))]) (st2 := [.int r31, .int ((5 * (MVSc w14)) + 4), .ref 7]) (c_X9_parseNumber _ _ _ _ _ hq30) ⟨rfl, rfl⟩ rfl k_X9_parseNumber l_X9_215 rfl rfl rfl rfl rfl (fit_of hR (by decide) (by decide) (by decide) (by decide)) (Nat.le_of_ble_eq_true rfl) (by decide) rfl rfl rfl ?_
      by_cases b33 : oob ((5 * (MVSc w14)) + 4) 150
      · rw [if_pos b33] at h; cases h
      rw [if_neg b33] at h
      refine r_iast X rfl rfl b33 ?_
      refine go_s 1 X (pc2 := 284) (st2 := []) rfl ?_
      refine AW.forget (ls' := [some (.ref 0), none, none]) rfl (subL_of ⟨rfl, trivial⟩) ?_
      exact AW.eq (a_X9_parseStatement_j284 X hR _ _ _ h) rfl rfl rfl rfl
    rw [if_neg c17] at h
    by_cases c37 : l1 = 1
    · rw [if_pos c37] at h
      refine r_tableIn X 271 rfl (by rw [c37]; decide) (by rw [c37]; decide) (by rw [c37]; rfl) (by decide) ?_
      refine AW.forget (ls' := [some (.ref 0), none, some (.int (5 * (MVSc w14)))]) rfl (subL_of ⟨rfl, ⟨rfl, trivial⟩⟩) ?_
      exact AW.eq (a_X9_parseStatement_j271 X hR _ _ _ _ h) rfl rfl rfl rfl
    rw [if_neg c37] at h
    by_cases c42 : l1 = 2
    · rw [if_pos c42] at h
      refine r_tableIn X 162 rfl (by rw [c42]; decide) (by rw [c42]; decide) (by rw [c42]; rfl) (by decide) ?_
      refine go_s 6 X (pc2 := 170) (st2 := [.ref 0, .int ((5 * (MVSc w14)) + 1), .ref 7]) rfl ?_
      obtain ⟨r44, w45, hq43, h⟩ := bnd2_inv h
      refine q_callV X [0, 1, 2, 3, 4, 5, 6, 7, 8, 9] [] (AH2 := [.inr (9, [.ref 1, .ref 2, .ref 3, .ref 4, .int (MVPc w45), .int (MVIs w45), .int (MVTh w45), .ref 5, .int (MVSl w45), .ref 6, .int (MVLn w45), .int (MVEc w45), .int (MVEo w45), .int (MVSa w45), .int (MVEn w45), .int (MVTk w45), .int (MVVa w45), .int (MVFa w45), .int (MVFo w45), .ref 7, .int (MVSc w45), .ref 8, .ref 9, .int (MVOl w45)]), .inl (0, 500, .inl (MVSt w45)), .inl (0, 500, .inl (MVAs w45)), .inl (0, 500, .inl (MVSv w45)), .inl (0, 4000, .inl (MVPt w45)), .inl (0, 6, .inl (MVSp w45)), .inl (3, 600, .inl (MVBf w45)), .inl (0, 150, .inl (MVSm w45)), .inl (0, 40, .inl (MVOr w45)), .inl (3, 240, .inl (MVOu w45))]) (st2 := [.int r44, .int ((5 * (MVSc w14)) + 1), .ref 7]) (c_X9_parseHandle _ _ _ hq43) ⟨rfl, rfl⟩ rfl k_X9_parseHandle l_X9_290 rfl rfl rfl rfl rfl (fit_of hR (by decide) (by decide) (by decide) (by decide)) (Nat.le_of_ble_eq_true rfl) (by decide) rfl rfl rfl ?_
      by_cases b46 : oob ((5 * (MVSc w14)) + 1) 150
      · rw [if_pos b46] at h; cases h
      rw [if_neg b46] at h
      refine r_iast X rfl rfl b46 ?_
      refine go_s 1 X (pc2 := 284) (st2 := []) rfl ?_
      refine AW.forget (ls' := [some (.ref 0), none, none]) rfl (subL_of ⟨rfl, trivial⟩) ?_
      exact AW.eq (a_X9_parseStatement_j284 X hR _ _ _ h) rfl rfl rfl rfl
    rw [if_neg c42] at h
    by_cases c47 : l1 = 3
    · rw [if_pos c47] at h
      refine r_tableIn X 177 rfl (by rw [c47]; decide) (by rw [c47]; decide) (by rw [c47]; rfl) (by decide) ?_
      refine go_s 6 X (pc2 := 185) (st2 := [.ref 0, .int ((5 * (MVSc w14)) + 1), .ref 7]) rfl ?_
      obtain ⟨r49, w50, hq48, h⟩ := bnd2_inv h
      refine q_callV X [0, 1, 2, 3, 4, 5, 6, 7, 8, 9] [] (AH2 := [.inr (9, [.ref 1, .ref 2, .ref 3, .ref 4, .int (MVPc w50), .int (MVIs w50), .int (MVTh w50), .ref 5, .int (MVSl w50), .ref 6, .int (MVLn w50), .int (MVEc w50), .int (MVEo w50), .int (MVSa w50), .int (MVEn w50), .int (MVTk w50), .int (MVVa w50), .int (MVFa w50), .int (MVFo w50), .ref 7, .int (MVSc w50), .ref 8, .ref 9, .int (MVOl w50)]), .inl (0, 500, .inl (MVSt w50)), .inl (0, 500, .inl (MVAs w50)), .inl (0, 500, .inl (MVSv w50)), .inl (0, 4000, .inl (MVPt w50)), .inl (0, 6, .inl (MVSp w50)), .inl (3, 600, .inl (MVBf w50)), .inl (0, 150, .inl (MVSm w50)), .inl (0, 40, .inl (MVOr w50)), .inl (3, 240, .inl (MVOu w50))]) (st2 := [.int r49, .int ((5 * (MVSc w14)) + 1), .ref 7]) (c_X9_parseHandle _ _ _ hq48) ⟨rfl, rfl⟩ rfl k_X9_parseHandle l_X9_290 rfl rfl rfl rfl rfl (fit_of hR (by decide) (by decide) (by decide) (by decide)) (Nat.le_of_ble_eq_true rfl) (by decide) rfl rfl rfl ?_
      by_cases b51 : oob ((5 * (MVSc w14)) + 1) 150
      · rw [if_pos b51] at h; cases h
      rw [if_neg b51] at h
      refine r_iast X rfl rfl b51 ?_
      refine go_s 8 X (pc2 := 200) (st2 := [.int 99, .int 0, .ref 0, .int ((5 * (MVSc w14)) + 2), .ref 7]) rfl ?_
      obtain ⟨r53, w54, hq52, h⟩ := bnd2_inv h
      refine q_callV X [0, 1, 2, 3, 4, 5, 6, 7, 8, 9] [] (AH2 := [.inr (9, [.ref 1, .ref 2, .ref 3, .ref 4, .int (MVPc w54), .int (MVIs w54), .int (MVTh w54), .ref 5, .int (MVSl w54), .ref 6, .int (MVLn w54), .int (MVEc w54), .int (MVEo w54), .int (MVSa w54), .int (MVEn w54), .int (MVTk w54), .int (MVVa w54), .int (MVFa w54), .int (MVFo w54), .ref 7, .int (MVSc w54), .ref 8, .ref 9, .int (MVOl w54)]), .inl (0, 500, .inl (MVSt w54)), .inl (0, 500, .inl (MVAs w54)), .inl (0, 500, .inl (MVSv w54)), .inl (0, 4000, .inl (MVPt w54)), .inl (0, 6, .inl (MVSp w54)), .inl (3, 600, .inl (MVBf w54)), .inl (0, 150, .inl (MVSm w54)), .inl (0, 40, .inl (MVOr w54)), .inl (3, 240, .inl (MVOu w54))]) (st2 := [.int r53, .int ((5 * (MVSc w14)) + 2), .ref 7]) (c_X9_parseNumber _ _ _ _ _ hq52) ⟨rfl, rfl⟩ rfl k_X9_parseNumber l_X9_215 rfl rfl rfl rfl rfl (fit_of hR (by decide) (by decide) (by decide) (by decide)) (Nat.le_of_ble_eq_true rfl) (by decide) rfl rfl rfl ?_
      by_cases b55 : oob ((5 * (MVSc w14)) + 2) 150
      · rw [if_pos b55] at h; cases h
      rw [if_neg b55] at h
      refine r_iast X rfl rfl b55 ?_
      refine go_s 1 X (pc2 := 284) (st2 := []) rfl ?_
      refine AW.forget (ls' := [some (.ref 0), none, none]) rfl (subL_of ⟨rfl, trivial⟩) ?_
      exact AW.eq (a_X9_parseStatement_j284 X hR _ _ _ h) rfl rfl rfl rfl
    rw [if_neg c47] at h
    by_cases c56 : l1 = 4
    · rw [if_pos c56] at h
      refine r_tableIn X 207 rfl (by rw [c56]; decide) (by rw [c56]; decide) (by rw [c56]; rfl) (by decide) ?_
      refine go_s 6 X (pc2 := 215) (st2 := [.ref 0, .int ((5 * (MVSc w14)) + 1), .ref 7]) rfl ?_
      obtain ⟨r58, w59, hq57, h⟩ := bnd2_inv h
      refine q_callV X [0, 1, 2, 3, 4, 5, 6, 7, 8, 9] [] (AH2 := [.inr (9, [.ref 1, .ref 2, .ref 3, .ref 4, .int (MVPc w59), .int (MVIs w59), .int (MVTh w59), .ref 5, .int (MVSl w59), .ref 6, .int (MVLn w59), .int (MVEc w59), .int (MVEo w59), .int (MVSa w59), .int (MVEn w59), .int (MVTk w59), .int (MVVa w59), .int (MVFa w59), .int (MVFo w59), .ref 7, .int (MVSc w59), .ref 8, .ref 9, .int (MVOl w59)]), .inl (0, 500, .inl (MVSt w59)), .inl (0, 500, .inl (MVAs w59)), .inl (0, 500, .inl (MVSv w59)), .inl (0, 4000, .inl (MVPt w59)), .inl (0, 6, .inl (MVSp w59)), .inl (3, 600, .inl (MVBf w59)), .inl (0, 150, .inl (MVSm w59)), .inl (0, 40, .inl (MVOr w59)), .inl (3, 240, .inl (MVOu w59))]) (st2 := [.int r58, .int ((5 * (MVSc w14)) + 1), .ref 7]) (c_X9_parseHandle _ _ _ hq57) ⟨rfl, rfl⟩ rfl k_X9_parseHandle l_X9_290 rfl rfl rfl rfl rfl (fit_of hR (by decide) (by decide) (by decide) (by decide)) (Nat.le_of_ble_eq_true rfl) (by decide) rfl rfl rfl ?_
      by_cases b60 : oob ((5 * (MVSc w14)) + 1) 150
      · rw [if_pos b60] at h; cases h
      rw [if_neg b60] at h
      refine r_iast X rfl rfl b60 ?_
      refine go_s 7 X (pc2 := 228) (st2 := [.int (-1), .ref 0, .int ((5 * (MVSc w14)) + 2), .ref 7]) rfl ?_
      obtain ⟨r62, w63, hq61, h⟩ := bnd2_inv h
      refine q_callV X [0, 1, 2, 3, 4, 5, 6, 7, 8, 9] [] (AH2 := [.inr (9, [.ref 1, .ref 2, .ref 3, .ref 4, .int (MVPc w63), .int (MVIs w63), .int (MVTh w63), .ref 5, .int (MVSl w63), .ref 6, .int (MVLn w63), .int (MVEc w63), .int (MVEo w63), .int (MVSa w63), .int (MVEn w63), .int (MVTk w63), .int (MVVa w63), .int (MVFa w63), .int (MVFo w63), .ref 7, .int (MVSc w63), .ref 8, .ref 9, .int (MVOl w63)]), .inl (0, 500, .inl (MVSt w63)), .inl (0, 500, .inl (MVAs w63)), .inl (0, 500, .inl (MVSv w63)), .inl (0, 4000, .inl (MVPt w63)), .inl (0, 6, .inl (MVSp w63)), .inl (3, 600, .inl (MVBf w63)), .inl (0, 150, .inl (MVSm w63)), .inl (0, 40, .inl (MVOr w63)), .inl (3, 240, .inl (MVOu w63))]) (st2 := [.int r62, .int ((5 * (MVSc w14)) + 2), .ref 7]) (c_X9_parseKnownQueue _ _ _ _ hq61) ⟨rfl, rfl⟩ rfl k_X9_parseKnownQueue l_X9_218 rfl rfl rfl rfl rfl (fit_of hR (by decide) (by decide) (by decide) (by decide)) (Nat.le_of_ble_eq_true rfl) (by decide) rfl rfl rfl ?_
      by_cases b64 : oob ((5 * (MVSc w14)) + 2) 150
      · rw [if_pos b64] at h; cases h
      rw [if_neg b64] at h
      refine r_iast X rfl rfl b64 ?_
      refine go_s 1 X (pc2 := 284) (st2 := []) rfl ?_
      refine AW.forget (ls' := [some (.ref 0), none, none]) rfl (subL_of ⟨rfl, trivial⟩) ?_
      exact AW.eq (a_X9_parseStatement_j284 X hR _ _ _ h) rfl rfl rfl rfl
    rw [if_neg c56] at h
    by_cases c65 : l1 = 5
    · rw [if_pos c65] at h
      refine r_tableIn X 235 rfl (by rw [c65]; decide) (by rw [c65]; decide) (by rw [c65]; rfl) (by decide) ?_
      refine go_s 7 X (pc2 := 244) (st2 := [.int (-1), .ref 0, .int ((5 * (MVSc w14)) + 1), .ref 7]) rfl ?_
      obtain ⟨r67, w68, hq66, h⟩ := bnd2_inv h
      refine q_callV X [0, 1, 2, 3, 4, 5, 6, 7, 8, 9] [] (AH2 := [.inr (9, [.ref 1, .ref 2, .ref 3, .ref 4, .int (MVPc w68), .int (MVIs w68), .int (MVTh w68), .ref 5, .int (MVSl w68), .ref 6, .int (MVLn w68), .int (MVEc w68), .int (MVEo w68), .int (MVSa w68), .int (MVEn w68), .int (MVTk w68), .int (MVVa w68), .int (MVFa w68), .int (MVFo w68), .ref 7, .int (MVSc w68), .ref 8, .ref 9, .int (MVOl w68)]), .inl (0, 500, .inl (MVSt w68)), .inl (0, 500, .inl (MVAs w68)), .inl (0, 500, .inl (MVSv w68)), .inl (0, 4000, .inl (MVPt w68)), .inl (0, 6, .inl (MVSp w68)), .inl (3, 600, .inl (MVBf w68)), .inl (0, 150, .inl (MVSm w68)), .inl (0, 40, .inl (MVOr w68)), .inl (3, 240, .inl (MVOu w68))]) (st2 := [.int r67, .int ((5 * (MVSc w14)) + 1), .ref 7]) (c_X9_parseKnownQueue _ _ _ _ hq66) ⟨rfl, rfl⟩ rfl k_X9_parseKnownQueue l_X9_218 rfl rfl rfl rfl rfl (fit_of hR (by decide) (by decide) (by decide) (by decide)) (Nat.le_of_ble_eq_true rfl) (by decide) rfl rfl rfl ?_
      by_cases b69 : oob ((5 * (MVSc w14)) + 1) 150
      · rw [if_pos b69] at h; cases h
      rw [if_neg b69] at h
      refine r_iast X rfl rfl b69 ?_
      refine go_s 11 X (pc2 := 263) (st2 := [.int ((5 * (MVSc w14)) + 1), .ref 7, .ref 0, .int ((5 * (MVSc w14)) + 2), .ref 7]) rfl ?_
      by_cases b70 : oob ((5 * (MVSc w14)) + 1) 150
      · rw [if_pos b70] at h; cases h
      rw [if_neg b70] at h
      refine r_iald X rfl rfl b70 ?_
      obtain ⟨r72, w73, hq71, h⟩ := bnd2_inv h
      refine q_callV X [0, 1, 2, 3, 4, 5, 6, 7, 8, 9] [] (AH2 := [.inr (9, [.ref 1, .ref 2, .ref 3, .ref 4, .int (MVPc w73), .int (MVIs w73), .int (MVTh w73), .ref 5, .int (MVSl w73), .ref 6, .int (MVLn w73), .int (MVEc w73), .int (MVEo w73), .int (MVSa w73), .int (MVEn w73), .int (MVTk w73), .int (MVVa w73), .int (MVFa w73), .int (MVFo w73), .ref 7, .int (MVSc w73), .ref 8, .ref 9, .int (MVOl w73)]), .inl (0, 500, .inl (MVSt w73)), .inl (0, 500, .inl (MVAs w73)), .inl (0, 500, .inl (MVSv w73)), .inl (0, 4000, .inl (MVPt w73)), .inl (0, 6, .inl (MVSp w73)), .inl (3, 600, .inl (MVBf w73)), .inl (0, 150, .inl (MVSm w73)), .inl (0, 40, .inl (MVOr w73)), .inl (3, 240, .inl (MVOu w73))]) (st2 := [.int r72, .int ((5 * (MVSc w14)) + 2), .ref 7]) (c_X9_parseKnownQueue _ _ _ _ hq71) ⟨rfl, rfl⟩ rfl k_X9_parseKnownQueue l_X9_218 rfl rfl rfl rfl rfl (fit_of hR (by decide) (by decide) (by decide) (by decide)) (Nat.le_of_ble_eq_true rfl) (by decide) rfl rfl rfl ?_
      by_cases b74 : oob ((5 * (MVSc w14)) + 2) 150
      · rw [if_pos b74] at h; cases h
      rw [if_neg b74] at h
      refine r_iast X rfl rfl b74 ?_
      refine go_s 1 X (pc2 := 284) (st2 := []) rfl ?_
      refine AW.forget (ls' := [some (.ref 0), none, none]) rfl (subL_of ⟨rfl, trivial⟩) ?_
      exact AW.eq (a_X9_parseStatement_j284 X hR _ _ _ h) rfl rfl rfl rfl
    rw [if_neg c65] at h
    refine r_tableOut X 271 rfl (sw_out6 c17 c37 c42 c47 c56 c65) (by decide) ?_
    refine AW.forget (ls' := [some (.ref 0), none, some (.int (5 * (MVSc w14)))]) rfl (subL_of ⟨rfl, ⟨rfl, trivial⟩⟩) ?_
    exact AW.eq (a_X9_parseStatement_j271 X hR _ _ _ _ h) rfl rfl rfl rfl
  · rw [if_neg c15] at h
    cases h
    exact r_vret X rfl rfl ⟨rfl, rfl⟩ (by decide) (by decide)
set_option maxHeartbeats 400000 in
set_option maxRecDepth 20000 in
theorem a_X9_parseStatement_j16 {κ : KX} (X : CX κ z_X9_parseStatement) (hR : κR κ = rmM 9 0 0) : ∀ (l1 : Int32) (s0 : Int32) (v : MV) (r : Unit) (w : MV) (h : f_X9_parseStatement_j16 l1 s0 v = some (r, w)), AW κ (QM κ (PST (.inl none) (WM w)) 0 0) 16 [some (.ref 0), some (.int l1), none] [.int s0, .ref 0] (WM v) 0 0 := by
  intro l1 s0 v r w h
  unfold f_X9_parseStatement_j16 at h
  refine AW.eq (pc' := 16) (ls' := [some (.ref 0), some (.int l1), none]) (st' := [.int s0, .ref 0]) (AH' := [.inr (9, [.ref 1, .ref 2, .ref 3, .ref 4, .int (MVPc v), .int (MVIs v), .int (MVTh v), .ref 5, .int (MVSl v), .ref 6, .int (MVLn v), .int (MVEc v), .int (MVEo v), .int (MVSa v), .int (MVEn v), .int (MVTk v), .int (MVVa v), .int (MVFa v), .int (MVFo v), .ref 7, .int (MVSc v), .ref 8, .ref 9, .int (MVOl v)]), .inl (0, 500, .inl (MVSt v)), .inl (0, 500, .inl (MVAs v)), .inl (0, 500, .inl (MVSv v)), .inl (0, 4000, .inl (MVPt v)), .inl (0, 6, .inl (MVSp v)), .inl (3, 600, .inl (MVBf v)), .inl (0, 150, .inl (MVSm v)), .inl (0, 40, .inl (MVOr v)), .inl (3, 240, .inl (MVOu v))]) ?_ rfl rfl rfl rfl
  refine go_s 1 X (pc2 := 17) (st2 := [.int 1, .int s0, .ref 0]) rfl ?_
  obtain ⟨r6, w7, hq5, h⟩ := bnd2_inv h
  refine q_callV X [0, 1, 2, 3, 4, 5, 6, 7, 8, 9] [] (AH2 := [.inr (9, [.ref 1, .ref 2, .ref 3, .ref 4, .int (MVPc w7), .int (MVIs w7), .int (MVTh w7), .ref 5, .int (MVSl w7), .ref 6, .int (MVLn w7), .int (MVEc w7), .int (MVEo w7), .int (MVSa w7), .int (MVEn w7), .int (MVTk w7), .int (MVVa w7), .int (MVFa w7), .int (MVFo w7), .ref 7, .int (MVSc w7), .ref 8, .ref 9, .int (MVOl w7)]), .inl (0, 500, .inl (MVSt w7)), .inl (0, 500, .inl (MVAs w7)), .inl (0, 500, .inl (MVSv w7)), .inl (0, 4000, .inl (MVPt w7)), .inl (0, 6, .inl (MVSp w7)), .inl (3, 600, .inl (MVBf w7)), .inl (0, 150, .inl (MVSm w7)), .inl (0, 40, .inl (MVOr w7)), .inl (3, 240, .inl (MVOu w7))]) (st2 := []) (c_X9_expect _ _ _ _ _ hq5) ⟨rfl, rfl⟩ rfl k_X9_expect l_X9_197 rfl rfl rfl rfl rfl (fit_of hR (by decide) (by decide) (by decide) (by decide)) (Nat.le_of_ble_eq_true rfl) (by decide) rfl rfl rfl ?_
  refine go_s 4 X (pc2 := 27) (st2 := [.int 30, .int (MVSc w7), .ref 0]) rfl ?_
  refine r_icmp_ge X 34 rfl rfl (fun c8 => ?_) (fun c8 => ?_)
  · rw [if_pos c8] at h
    refine go_s 1 X (pc2 := 35) (st2 := [.int 0, .ref 0]) rfl ?_
    exact AW.eq (a_X9_parseStatement_j35 X hR _ _ _ _ _ h) rfl rfl rfl rfl
  · rw [if_neg c8] at h
    refine go_s 2 X (pc2 := 35) (st2 := [.int 1, .ref 0]) rfl ?_
    exact AW.eq (a_X9_parseStatement_j35 X hR _ _ _ _ _ h) rfl rfl rfl rfl
set_option maxHeartbeats 400000 in
set_option maxRecDepth 20000 in
theorem c_X9_parseStatement (v : MV) (r : Unit) (w : MV) (h : f_X9_parseStatement v = some (r, w)) : Sem z_X9_parseStatement 9 0 0 [.ref 0] (WM v) (PST (.inl none) (WM w)) := by
  refine Sem.of zo_X9_parseStatement (by decide +kernel) (Nat.le_of_ble_eq_true rfl) fun κ X hE hR hN => ?_
  unfold f_X9_parseStatement at h
  refine AW.eq (pc' := 0) (ls' := [some (.ref 0), none, none]) (st' := []) (AH' := [.inr (9, [.ref 1, .ref 2, .ref 3, .ref 4, .int (MVPc v), .int (MVIs v), .int (MVTh v), .ref 5, .int (MVSl v), .ref 6, .int (MVLn v), .int (MVEc v), .int (MVEo v), .int (MVSa v), .int (MVEn v), .int (MVTk v), .int (MVVa v), .int (MVFa v), .int (MVFo v), .ref 7, .int (MVSc v), .ref 8, .ref 9, .int (MVOl v)]), .inl (0, 500, .inl (MVSt v)), .inl (0, 500, .inl (MVAs v)), .inl (0, 500, .inl (MVSv v)), .inl (0, 4000, .inl (MVPt v)), .inl (0, 6, .inl (MVSp v)), .inl (3, 600, .inl (MVBf v)), .inl (0, 150, .inl (MVSm v)), .inl (0, 40, .inl (MVOr v)), .inl (3, 240, .inl (MVOu v))]) ?_ rfl rfl rfl rfl
  refine go_s 1 X (pc2 := 1) (st2 := [.ref 0]) rfl ?_
  obtain ⟨r2, hq1, h⟩ := obind_inv h
  refine q_callV X [0, 1, 2, 3, 4, 5, 6, 7, 8, 9] [] (AH2 := [.inr (9, [.ref 1, .ref 2, .ref 3, .ref 4, .int (MVPc v), .int (MVIs v), .int (MVTh v), .ref 5, .int (MVSl v), .ref 6, .int (MVLn v), .int (MVEc v), .int (MVEo v), .int (MVSa v), .int (MVEn v), .int (MVTk v), .int (MVVa v), .int (MVFa v), .int (MVFo v), .ref 7, .int (MVSc v), .ref 8, .ref 9, .int (MVOl v)]), .inl (0, 500, .inl (MVSt v)), .inl (0, 500, .inl (MVAs v)), .inl (0, 500, .inl (MVSv v)), .inl (0, 4000, .inl (MVPt v)), .inl (0, 6, .inl (MVSp v)), .inl (3, 600, .inl (MVBf v)), .inl (0, 150, .inl (MVSm v)), .inl (0, 40, .inl (MVOr v)), .inl (3, 240, .inl (MVOu v))]) (st2 := [.int r2]) (c_X9_statementKind _ _ hq1) ⟨rfl, rfl⟩ rfl k_X9_statementKind l_X9_284 rfl rfl rfl rfl rfl (fit_of hR (by decide) (by decide) (by decide) (by decide)) (Nat.le_of_ble_eq_true rfl) (by decide) rfl rfl rfl ?_
  refine go_l 4 X (pc2 := 8) (ls2 := [some (.ref 0), some (.int r2), none]) (st2 := [.int (-1), .int r2, .ref 0]) rfl ?_
  refine r_icmp_eq X 15 rfl rfl (fun c4 => ?_) (fun c4 => ?_)
  · rw [if_pos c4] at h
    refine go_s 1 X (pc2 := 16) (st2 := [.int 0, .ref 0]) rfl ?_
    exact AW.eq (a_X9_parseStatement_j16 X hR _ _ _ _ _ h) rfl rfl rfl rfl
  · rw [if_neg c4] at h
    refine go_s 2 X (pc2 := 16) (st2 := [.int 1, .ref 0]) rfl ?_
    exact AW.eq (a_X9_parseStatement_j16 X hR _ _ _ _ _ h) rfl rfl rfl rfl
set_option maxHeartbeats 400000 in
set_option maxRecDepth 20000 in
theorem c_X9_positionOf (v : MV) (a : Int32) (r : Int32) (w : MV) (h : f_X9_positionOf v a = some (r, w)) : Sem z_X9_positionOf 5 0 0 [.ref 0, .int a] (WM v) (PST (.inl (some (.int r))) (WM w)) := by
  refine Sem.of zo_X9_positionOf (by decide +kernel) (Nat.le_of_ble_eq_true rfl) fun κ X hE hR hN => ?_
  unfold f_X9_positionOf at h
  refine AW.eq (pc' := 0) (ls' := [some (.ref 0), some (.int a)]) (st' := []) (AH' := [.inr (9, [.ref 1, .ref 2, .ref 3, .ref 4, .int (MVPc v), .int (MVIs v), .int (MVTh v), .ref 5, .int (MVSl v), .ref 6, .int (MVLn v), .int (MVEc v), .int (MVEo v), .int (MVSa v), .int (MVEn v), .int (MVTk v), .int (MVVa v), .int (MVFa v), .int (MVFo v), .ref 7, .int (MVSc v), .ref 8, .ref 9, .int (MVOl v)]), .inl (0, 500, .inl (MVSt v)), .inl (0, 500, .inl (MVAs v)), .inl (0, 500, .inl (MVSv v)), .inl (0, 4000, .inl (MVPt v)), .inl (0, 6, .inl (MVSp v)), .inl (3, 600, .inl (MVBf v)), .inl (0, 150, .inl (MVSm v)), .inl (0, 40, .inl (MVOr v)), .inl (3, 240, .inl (MVOu v))]) ?_ rfl rfl rfl rfl
  refine go_s 2 X (pc2 := 2) (st2 := [.int a, .ref 0]) rfl ?_
  obtain ⟨r2, w3, hq1, h⟩ := bnd2_inv h
  refine q_callV X [0, 1, 2, 3, 4, 5, 6, 7, 8, 9] [] (AH2 := [.inr (9, [.ref 1, .ref 2, .ref 3, .ref 4, .int (MVPc w3), .int (MVIs w3), .int (MVTh w3), .ref 5, .int (MVSl w3), .ref 6, .int (MVLn w3), .int (MVEc w3), .int (MVEo w3), .int (MVSa w3), .int (MVEn w3), .int (MVTk w3), .int (MVVa w3), .int (MVFa w3), .int (MVFo w3), .ref 7, .int (MVSc w3), .ref 8, .ref 9, .int (MVOl w3)]), .inl (0, 500, .inl (MVSt w3)), .inl (0, 500, .inl (MVAs w3)), .inl (0, 500, .inl (MVSv w3)), .inl (0, 4000, .inl (MVPt w3)), .inl (0, 6, .inl (MVSp w3)), .inl (3, 600, .inl (MVBf w3)), .inl (0, 150, .inl (MVSm w3)), .inl (0, 40, .inl (MVOr w3)), .inl (3, 240, .inl (MVOu w3))]) (st2 := [.int r2]) (c_X9_checkWaiting _ _ _ _ hq1) ⟨rfl, rfl⟩ rfl k_X9_checkWaiting l_X9_354 rfl rfl rfl rfl rfl (fit_of hR (by decide) (by decide) (by decide) (by decide)) (Nat.le_of_ble_eq_true rfl) (by decide) rfl rfl rfl ?_
  refine r_if_eq X 16 rfl rfl (fun c4 => ?_) (fun c4 => ?_)
  · rw [if_pos c4] at h
    refine go_s 1 X (pc2 := 17) (st2 := [.int 0]) rfl ?_
    cases h
    exact r_iret X rfl rfl ⟨rfl, rfl⟩ (by decide) (by decide)
  · rw [if_neg c4] at h
    refine go_s 2 X (pc2 := 10) (st2 := [.int a, .ref 0]) rfl ?_
    obtain ⟨r6, hq5, h⟩ := obind_inv h
    refine q_callV X [0, 1, 2, 3, 4, 5, 6, 7, 8, 9] [] (AH2 := [.inr (9, [.ref 1, .ref 2, .ref 3, .ref 4, .int (MVPc w3), .int (MVIs w3), .int (MVTh w3), .ref 5, .int (MVSl w3), .ref 6, .int (MVLn w3), .int (MVEc w3), .int (MVEo w3), .int (MVSa w3), .int (MVEn w3), .int (MVTk w3), .int (MVVa w3), .int (MVFa w3), .int (MVFo w3), .ref 7, .int (MVSc w3), .ref 8, .ref 9, .int (MVOl w3)]), .inl (0, 500, .inl (MVSt w3)), .inl (0, 500, .inl (MVAs w3)), .inl (0, 500, .inl (MVSv w3)), .inl (0, 4000, .inl (MVPt w3)), .inl (0, 6, .inl (MVSp w3)), .inl (3, 600, .inl (MVBf w3)), .inl (0, 150, .inl (MVSm w3)), .inl (0, 40, .inl (MVOr w3)), .inl (3, 240, .inl (MVOu w3))]) (st2 := [.int r6]) (c_X9_positionIn _ _ _ hq5) ⟨rfl, rfl⟩ rfl k_X9_positionIn l_X9_360 rfl rfl rfl rfl rfl (fit_of hR (by decide) (by decide) (by decide) (by decide)) (Nat.le_of_ble_eq_true rfl) (by decide) rfl rfl rfl ?_
    refine go_s 1 X (pc2 := 17) (st2 := [.int r6]) rfl ?_
    cases h
    exact r_iret X rfl rfl ⟨rfl, rfl⟩ (by decide) (by decide)
set_option maxHeartbeats 400000 in
set_option maxRecDepth 20000 in
theorem a_X9_positionWith_j34 {κ : KX} (X : CX κ z_X9_positionWith) (hR : κR κ = rmM 5 0 0) : ∀ (l1 : Int32) (l2 : Int32) (s0 : Int32) (s1 : Int32) (s2 : Int32) (v : MV) (r : Int32) (w : MV) (h : f_X9_positionWith_j34 l1 l2 s0 s1 s2 v = some (r, w)), AW κ (QM κ (PST (.inl (some (.int r))) (WM w)) 0 0) 34 [some (.ref 0), some (.int l1), some (.int l2), none, none, none] [.int s0, .int s1, .int s2, .ref 0] (WM v) 0 0 := by
  intro l1 l2 s0 s1 s2 v r w h
  unfold f_X9_positionWith_j34 at h
  refine AW.eq (pc' := 34) (ls' := [some (.ref 0), some (.int l1), some (.int l2), none, none, none]) (st' := [.int s0, .int s1, .int s2, .ref 0]) (AH' := [.inr (9, [.ref 1, .ref 2, .ref 3, .ref 4, .int (MVPc v), .int (MVIs v), .int (MVTh v), .ref 5, .int (MVSl v), .ref 6, .int (MVLn v), .int (MVEc v), .int (MVEo v), .int (MVSa v), .int (MVEn v), .int (MVTk v), .int (MVVa v), .int (MVFa v), .int (MVFo v), .ref 7, .int (MVSc v), .ref 8, .ref 9, .int (MVOl v)]), .inl (0, 500, .inl (MVSt v)), .inl (0, 500, .inl (MVAs v)), .inl (0, 500, .inl (MVSv v)), .inl (0, 4000, .inl (MVPt v)), .inl (0, 6, .inl (MVSp v)), .inl (3, 600, .inl (MVBf v)), .inl (0, 150, .inl (MVSm v)), .inl (0, 40, .inl (MVOr v)), .inl (3, 240, .inl (MVOu v))]) ?_ rfl rfl rfl rfl
  obtain ⟨r9, w10, hq8, h⟩ := bnd2_inv h
  refine q_callV X [0, 1, 2, 3, 4, 5, 6, 7, 8, 9] [] (AH2 := [.inr (9, [.ref 1, .ref 2, .ref 3, .ref 4, .int (MVPc w10), .int (MVIs w10), .int (MVTh w10), .ref 5, .int (MVSl w10), .ref 6, .int (MVLn w10), .int (MVEc w10), .int (MVEo w10), .int (MVSa w10), .int (MVEn w10), .int (MVTk w10), .int (MVVa w10), .int (MVFa w10), .int (MVFo w10), .ref 7, .int (MVSc w10), .ref 8, .ref 9, .int (MVOl w10)]), .inl (0, 500, .inl (MVSt w10)), .inl (0, 500, .inl (MVAs w10)), .inl (0, 500, .inl (MVSv w10)), .inl (0, 4000, .inl (MVPt w10)), .inl (0, 6, .inl (MVSp w10)), .inl (3, 600, .inl (MVBf w10)), .inl (0, 150, .inl (MVSm w10)), .inl (0, 40, .inl (MVOr w10)), .inl (3, 240, .inl (MVOu w10))]) (st2 := [.int r9]) (c_X9_check _ _ _ _ _ _ hq8) ⟨rfl, rfl⟩ rfl k_X9_check l_X9_335 rfl rfl rfl rfl rfl (fit_of hR (by decide) (by decide) (by decide) (by decide)) (Nat.le_of_ble_eq_true rfl) (by decide) rfl rfl rfl ?_
  refine r_if_ne X 42 rfl rfl (fun c11 => ?_) (fun c11 => ?_)
  · rw [if_neg c11] at h
    refine go_s 3 X (pc2 := 45) (st2 := [.int 1, .int l1, .ref 0]) rfl ?_
    obtain ⟨r13, hq12, h⟩ := obind_inv h
    refine q_callV X [0, 1, 2, 3, 4, 5, 6, 7, 8, 9] [] (AH2 := [.inr (9, [.ref 1, .ref 2, .ref 3, .ref 4, .int (MVPc w10), .int (MVIs w10), .int (MVTh w10), .ref 5, .int (MVSl w10), .ref 6, .int (MVLn w10), .int (MVEc w10), .int (MVEo w10), .int (MVSa w10), .int (MVEn w10), .int (MVTk w10), .int (MVVa w10), .int (MVFa w10), .int (MVFo w10), .ref 7, .int (MVSc w10), .ref 8, .ref 9, .int (MVOl w10)]), .inl (0, 500, .inl (MVSt w10)), .inl (0, 500, .inl (MVAs w10)), .inl (0, 500, .inl (MVSv w10)), .inl (0, 4000, .inl (MVPt w10)), .inl (0, 6, .inl (MVSp w10)), .inl (3, 600, .inl (MVBf w10)), .inl (0, 150, .inl (MVSm w10)), .inl (0, 40, .inl (MVOr w10)), .inl (3, 240, .inl (MVOu w10))]) (st2 := [.int r13]) (c_X9_get _ _ _ _ hq12) ⟨rfl, rfl⟩ rfl k_X9_get l_X9_90 rfl rfl rfl rfl rfl (fit_of hR (by decide) (by decide) (by decide) (by decide)) (Nat.le_of_ble_eq_true rfl) (by decide) rfl rfl rfl ?_
    refine go_l 5 X (pc2 := 54) (ls2 := [some (.ref 0), some (.int l1), some (.int l2), none, some (.int r13), none]) (st2 := [.int l2, .int 1, .int l1, .ref 0]) rfl ?_
    obtain ⟨r16, w17, hq15, h⟩ := bnd2_inv h
    refine q_callV X [0, 1, 2, 3, 4, 5, 6, 7, 8, 9] [] (AH2 := [.inr (9, [.ref 1, .ref 2, .ref 3, .ref 4, .int (MVPc w17), .int (MVIs w17), .int (MVTh w17), .ref 5, .int (MVSl w17), .ref 6, .int (MVLn w17), .int (MVEc w17), .int (MVEo w17), .int (MVSa w17), .int (MVEn w17), .int (MVTk w17), .int (MVVa w17), .int (MVFa w17), .int (MVFo w17), .ref 7, .int (MVSc w17), .ref 8, .ref 9, .int (MVOl w17)]), .inl (0, 500, .inl (MVSt w17)), .inl (0, 500, .inl (MVAs w17)), .inl (0, 500, .inl (MVSv w17)), .inl (0, 4000, .inl (MVPt w17)), .inl (0, 6, .inl (MVSp w17)), .inl (3, 600, .inl (MVBf w17)), .inl (0, 150, .inl (MVSm w17)), .inl (0, 40, .inl (MVOr w17)), .inl (3, 240, .inl (MVOu w17))]) (st2 := []) (c_X9_set _ _ _ _ _ _ hq15) ⟨rfl, rfl⟩ rfl k_X9_set l_X9_94 rfl rfl rfl rfl rfl (fit_of hR (by decide) (by decide) (by decide) (by decide)) (Nat.le_of_ble_eq_true rfl) (by decide) rfl rfl rfl ?_
    refine go_s 2 X (pc2 := 59) (st2 := [.int l1, .ref 0]) rfl ?_
    obtain ⟨r19, hq18, h⟩ := obind_inv h
    refine q_callV X [0, 1, 2, 3, 4, 5, 6, 7, 8, 9] [] (AH2 := [.inr (9, [.ref 1, .ref 2, .ref 3, .ref 4, .int (MVPc w17), .int (MVIs w17), .int (MVTh w17), .ref 5, .int (MVSl w17), .ref 6, .int (MVLn w17), .int (MVEc w17), .int (MVEo w17), .int (MVSa w17), .int (MVEn w17), .int (MVTk w17), .int (MVVa w17), .int (MVFa w17), .int (MVFo w17), .ref 7, .int (MVSc w17), .ref 8, .ref 9, .int (MVOl w17)]), .inl (0, 500, .inl (MVSt w17)), .inl (0, 500, .inl (MVAs w17)), .inl (0, 500, .inl (MVSv w17)), .inl (0, 4000, .inl (MVPt w17)), .inl (0, 6, .inl (MVSp w17)), .inl (3, 600, .inl (MVBf w17)), .inl (0, 150, .inl (MVSm w17)), .inl (0, 40, .inl (MVOr w17)), .inl (3, 240, .inl (MVOu w17))]) (st2 := [.int r19]) (c_X9_positionIn _ _ _ hq18) ⟨rfl, rfl⟩ rfl k_X9_positionIn l_X9_360 rfl rfl rfl rfl rfl (fit_of hR (by decide) (by decide) (by decide) (by decide)) (Nat.le_of_ble_eq_true rfl) (by decide) rfl rfl rfl ?_
    refine go_l 5 X (pc2 := 69) (ls2 := [some (.ref 0), some (.int l1), some (.int l2), none, some (.int r13), some (.int r19)]) (st2 := [.int r13, .int 1, .int l1, .ref 0]) rfl ?_
    obtain ⟨r22, w23, hq21, h⟩ := bnd2_inv h
    refine q_callV X [0, 1, 2, 3, 4, 5, 6, 7, 8, 9] [] (AH2 := [.inr (9, [.ref 1, .ref 2, .ref 3, .ref 4, .int (MVPc w23), .int (MVIs w23), .int (MVTh w23), .ref 5, .int (MVSl w23), .ref 6, .int (MVLn w23), .int (MVEc w23), .int (MVEo w23), .int (MVSa w23), .int (MVEn w23), .int (MVTk w23), .int (MVVa w23), .int (MVFa w23), .int (MVFo w23), .ref 7, .int (MVSc w23), .ref 8, .ref 9, .int (MVOl w23)]), .inl (0, 500, .inl (MVSt w23)), .inl (0, 500, .inl (MVAs w23)), .inl (0, 500, .inl (MVSv w23)), .inl (0, 4000, .inl (MVPt w23)), .inl (0, 6, .inl (MVSp w23)), .inl (3, 600, .inl (MVBf w23)), .inl (0, 150, .inl (MVSm w23)), .inl (0, 40, .inl (MVOr w23)), .inl (3, 240, .inl (MVOu w23))]) (st2 := []) (c_X9_set _ _ _ _ _ _ hq21) ⟨rfl, rfl⟩ rfl k_X9_set l_X9_94 rfl rfl rfl rfl rfl (fit_of hR (by decide) (by decide) (by decide) (by decide)) (Nat.le_of_ble_eq_true rfl) (by decide) rfl rfl rfl ?_
    refine go_s 1 X (pc2 := 74) (st2 := [.int r19]) rfl ?_
    cases h
    exact r_iret X rfl rfl ⟨rfl, rfl⟩ (by decide) (by decide)
  · rw [if_pos c11] at h
    refine go_s 1 X (pc2 := 41) (st2 := [.int 0]) rfl ?_
    cases h
    exact r_iret X rfl rfl ⟨rfl, rfl⟩ (by decide) (by decide)
set_option maxHeartbeats 400000 in
set_option maxRecDepth 20000 in
theorem a_X9_positionWith_j33 {κ : KX} (X : CX κ z_X9_positionWith) (hR : κR κ = rmM 5 0 0) : ∀ (l1 : Int32) (l2 : Int32) (s0 : Int32) (s1 : Int32) (v : MV) (r : Int32) (w : MV) (h : f_X9_positionWith_j33 l1 l2 s0 s1 v = some (r, w)), AW κ (QM κ (PST (.inl (some (.int r))) (WM w)) 0 0) 33 [some (.ref 0), some (.int l1), some (.int l2), none, none, none] [.int s0, .int s1, .ref 0] (WM v) 0 0 := by
  intro l1 l2 s0 s1 v r w h
  unfold f_X9_positionWith_j33 at h
  refine AW.eq (pc' := 33) (ls' := [some (.ref 0), some (.int l1), some (.int l2), none, none, none]) (st' := [.int s0, .int s1, .ref 0]) (AH' := [.inr (9, [.ref 1, .ref 2, .ref 3, .ref 4, .int (MVPc v), .int (MVIs v), .int (MVTh v), .ref 5, .int (MVSl v), .ref 6, .int (MVLn v), .int (MVEc v), .int (MVEo v), .int (MVSa v), .int (MVEn v), .int (MVTk v), .int (MVVa v), .int (MVFa v), .int (MVFo v), .ref 7, .int (MVSc v), .ref 8, .ref 9, .int (MVOl v)]), .inl (0, 500, .inl (MVSt v)), .inl (0, 500, .inl (MVAs v)), .inl (0, 500, .inl (MVSv v)), .inl (0, 4000, .inl (MVPt v)), .inl (0, 6, .inl (MVSp v)), .inl (3, 600, .inl (MVBf v)), .inl (0, 150, .inl (MVSm v)), .inl (0, 40, .inl (MVOr v)), .inl (3, 240, .inl (MVOu v))]) ?_ rfl rfl rfl rfl
  refine go_s 1 X (pc2 := 34) (st2 := [.int 0, .int s0, .int s1, .ref 0]) rfl ?_
  exact AW.eq (a_X9_positionWith_j34 X hR _ _ _ _ _ _ _ _ h) rfl rfl rfl rfl
