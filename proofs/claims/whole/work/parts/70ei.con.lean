/-! ===== 15ei: contracts, by program ===== -/
set_option maxHeartbeats 400000 in
set_option maxRecDepth 20000 in
theorem a_X9_submit_j76 {κ : KX} (X : CX κ z_X9_submit) (hR : κR κ = rmM 57 0 0) : ∀ (l1 : Int32) (l2 : Int32) (l3 : Int32) (l4 : Int32) (s0 : Int32) (s1 : Int32) (s2 : Int32) (v : MV) (r : Int32) (w : MV) (h : f_X9_submit_j76 l1 l2 l3 l4 s0 s1 s2 v = some (r, w)), AW κ (QM κ (PST (.inl (some (.int r))) (WM w)) 0 0) 76 [some (.ref 0), some (.int l1), some (.int l2), some (.int l3), some (.int l4), none, none] [.int s0, .int s1, .int s2, .ref 0] (WM v) 0 0 := by
  intro l1 l2 l3 l4 s0 s1 s2 v r w h
  unfold f_X9_submit_j76 at h
  refine AW.eq (pc' := 76) (ls' := [some (.ref 0), some (.int l1), some (.int l2), some (.int l3), some (.int l4), none, none]) (st' := [.int s0, .int s1, .int s2, .ref 0]) (AH' := [.inr (9, [.ref 1, .ref 2, .ref 3, .ref 4, .int (MVPc v), .int (MVIs v), .int (MVTh v), .ref 5, .int (MVSl v), .ref 6, .int (MVLn v), .int (MVEc v), .int (MVEo v), .int (MVSa v), .int (MVEn v), .int (MVTk v), .int (MVVa v), .int (MVFa v), .int (MVFo v), .ref 7, .int (MVSc v), .ref 8, .ref 9, .int (MVOl v)]), .inl (0, 500, .inl (MVSt v)), .inl (0, 500, .inl (MVAs v)), .inl (0, 500, .inl (MVSv v)), .inl (0, 4000, .inl (MVPt v)), .inl (0, 6, .inl (MVSp v)), .inl (3, 600, .inl (MVBf v)), .inl (0, 150, .inl (MVSm v)), .inl (0, 40, .inl (MVOr v)), .inl (3, 240, .inl (MVOu v))]) ?_ rfl rfl rfl rfl
  obtain ⟨r12, w13, hq11, h⟩ := bnd2_inv h
  refine q_callV X [0, 1, 2, 3, 4, 5, 6, 7, 8, 9] [] (AH2 := [.inr (9, [.ref 1, .ref 2, .ref 3, .ref 4, .int (MVPc w13), .int (MVIs w13), .int (MVTh w13), .ref 5, .int (MVSl w13), .ref 6, .int (MVLn w13), .int (MVEc w13), .int (MVEo w13), .int (MVSa w13), .int (MVEn w13), .int (MVTk w13), .int (MVVa w13), .int (MVFa w13), .int (MVFo w13), .ref 7, .int (MVSc w13), .ref 8, .ref 9, .int (MVOl w13)]), .inl (0, 500, .inl (MVSt w13)), .inl (0, 500, .inl (MVAs w13)), .inl (0, 500, .inl (MVSv w13)), .inl (0, 4000, .inl (MVPt w13)), .inl (0, 6, .inl (MVSp w13)), .inl (3, 600, .inl (MVBf w13)), .inl (0, 150, .inl (MVSm w13)), .inl (0, 40, .inl (MVOr w13)), .inl (3, 240, .inl (MVOu w13))]) (st2 := [.int r12]) (c_X9_check _ _ _ _ _ _ hq11) ⟨rfl, rfl⟩ rfl k_X9_check l_X9_335 rfl rfl rfl rfl rfl (fit_of hR (by decide) (by decide) (by decide) (by decide)) (Nat.le_of_ble_eq_true rfl) (by decide) rfl rfl rfl ?_
  refine r_if_ne X 84 rfl rfl (fun c14 => ?_) (fun c14 => ?_)
  · rw [if_neg c14] at h
    refine go_s 1 X (pc2 := 85) (st2 := [.ref 0]) rfl ?_
    obtain ⟨r16, w17, hq15, h⟩ := bnd2_inv h
    refine q_callV X [0, 1, 2, 3, 4, 5, 6, 7, 8, 9] [] (AH2 := [.inr (9, [.ref 1, .ref 2, .ref 3, .ref 4, .int (MVPc w17), .int (MVIs w17), .int (MVTh w17), .ref 5, .int (MVSl w17), .ref 6, .int (MVLn w17), .int (MVEc w17), .int (MVEo w17), .int (MVSa w17), .int (MVEn w17), .int (MVTk w17), .int (MVVa w17), .int (MVFa w17), .int (MVFo w17), .ref 7, .int (MVSc w17), .ref 8, .ref 9, .int (MVOl w17)]), .inl (0, 500, .inl (MVSt w17)), .inl (0, 500, .inl (MVAs w17)), .inl (0, 500, .inl (MVSv w17)), .inl (0, 4000, .inl (MVPt w17)), .inl (0, 6, .inl (MVSp w17)), .inl (3, 600, .inl (MVBf w17)), .inl (0, 150, .inl (MVSm w17)), .inl (0, 40, .inl (MVOr w17)), .inl (3, 240, .inl (MVOu w17))]) (st2 := []) (c_X9_remember _ _ _ hq15) ⟨rfl, rfl⟩ rfl k_X9_remember l_X9_326 rfl rfl rfl rfl rfl (fit_of hR (by decide) (by decide) (by decide) (by decide)) (Nat.le_of_ble_eq_true rfl) (by decide) rfl rfl rfl ?_
    refine go_s 5 X (pc2 := 94) (st2 := [.int l4, .int l3, .int l2, .int l1, .ref 0]) rfl ?_
    obtain ⟨r19, w20, hq18, h⟩ := bnd2_inv h
    refine q_callV X [0, 1, 2, 3, 4, 5, 6, 7, 8, 9] [] (AH2 := [.inr (9, [.ref 1, .ref 2, .ref 3, .ref 4, .int (MVPc w20), .int (MVIs w20), .int (MVTh w20), .ref 5, .int (MVSl w20), .ref 6, .int (MVLn w20), .int (MVEc w20), .int (MVEo w20), .int (MVSa w20), .int (MVEn w20), .int (MVTk w20), .int (MVVa w20), .int (MVFa w20), .int (MVFo w20), .ref 7, .int (MVSc w20), .ref 8, .ref 9, .int (MVOl w20)]), .inl (0, 500, .inl (MVSt w20)), .inl (0, 500, .inl (MVAs w20)), .inl (0, 500, .inl (MVSv w20)), .inl (0, 4000, .inl (MVPt w20)), .inl (0, 6, .inl (MVSp w20)), .inl (3, 600, .inl (MVBf w20)), .inl (0, 150, .inl (MVSm w20)), .inl (0, 40, .inl (MVOr w20)), .inl (3, 240, .inl (MVOu w20))]) (st2 := [.int r19]) (c_X9_addJob _ _ _ _ _ _ _ hq18) ⟨rfl, rfl⟩ rfl k_X9_addJob l_X9_60 rfl rfl rfl rfl rfl (fit_of hR (by decide) (by decide) (by decide) (by decide)) (Nat.le_of_ble_eq_true rfl) (by decide) rfl rfl rfl ?_
    cases h
    exact r_iret X rfl rfl ⟨rfl, rfl⟩ (by decide) (by decide)
  · rw [if_pos c14] at h
    refine go_s 1 X (pc2 := 83) (st2 := [.int 0]) rfl ?_
    cases h
    exact r_iret X rfl rfl ⟨rfl, rfl⟩ (by decide) (by decide)
set_option maxHeartbeats 400000 in
set_option maxRecDepth 20000 in
theorem a_X9_submit_j53 {κ : KX} (X : CX κ z_X9_submit) (hR : κR κ = rmM 57 0 0) : ∀ (l1 : Int32) (l2 : Int32) (l3 : Int32) (l4 : Int32) (l5 : Int32) (s0 : Int32) (v : MV) (r : Int32) (w : MV) (h : f_X9_submit_j53 l1 l2 l3 l4 l5 s0 v = some (r, w)), AW κ (QM κ (PST (.inl (some (.int r))) (WM w)) 0 0) 53 [some (.ref 0), some (.int l1), some (.int l2), some (.int l3), some (.int l4), some (.int l5), none] [.int s0] (WM v) 0 0 := by
  intro l1 l2 l3 l4 l5 s0 v r w h
  unfold f_X9_submit_j53 at h
  refine AW.eq (pc' := 53) (ls' := [some (.ref 0), some (.int l1), some (.int l2), some (.int l3), some (.int l4), some (.int l5), none]) (st' := [.int s0]) (AH' := [.inr (9, [.ref 1, .ref 2, .ref 3, .ref 4, .int (MVPc v), .int (MVIs v), .int (MVTh v), .ref 5, .int (MVSl v), .ref 6, .int (MVLn v), .int (MVEc v), .int (MVEo v), .int (MVSa v), .int (MVEn v), .int (MVTk v), .int (MVVa v), .int (MVFa v), .int (MVFo v), .ref 7, .int (MVSc v), .ref 8, .ref 9, .int (MVOl v)]), .inl (0, 500, .inl (MVSt v)), .inl (0, 500, .inl (MVAs v)), .inl (0, 500, .inl (MVSv v)), .inl (0, 4000, .inl (MVPt v)), .inl (0, 6, .inl (MVSp v)), .inl (3, 600, .inl (MVBf v)), .inl (0, 150, .inl (MVSm v)), .inl (0, 40, .inl (MVOr v)), .inl (3, 240, .inl (MVOu v))]) ?_ rfl rfl rfl rfl
  refine go_l 7 X (pc2 := 65) (ls2 := [some (.ref 0), some (.int l1), some (.int l2), some (.int l3), some (.int l4), some (.int l5), some (.int s0)]) (st2 := [.int 2, .ref 1, .int s0, .int l5, .ref 0]) rfl ?_
  by_cases b9 : oob 2 500
  · rw [if_pos b9] at h; cases h
  rw [if_neg b9] at h
  refine r_iald X rfl rfl b9 ?_
  refine go_s 1 X (pc2 := 68) (st2 := [.int 40, .int ((MVSt v) (Int32.toNatClampNeg 2)), .int s0, .int l5, .ref 0]) rfl ?_
  refine r_icmp_ge X 75 rfl rfl (fun c10 => ?_) (fun c10 => ?_)
  · rw [if_pos c10] at h
    refine go_s 1 X (pc2 := 76) (st2 := [.int 0, .int s0, .int l5, .ref 0]) rfl ?_
    refine AW.forget (ls' := [some (.ref 0), some (.int l1), some (.int l2), some (.int l3), some (.int l4), none, none]) rfl (subL_of ⟨rfl, ⟨rfl, ⟨rfl, ⟨rfl, ⟨rfl, trivial⟩⟩⟩⟩⟩) ?_
    exact AW.eq (a_X9_submit_j76 X hR _ _ _ _ _ _ _ _ _ _ h) rfl rfl rfl rfl
  · rw [if_neg c10] at h
    refine go_s 2 X (pc2 := 76) (st2 := [.int 1, .int s0, .int l5, .ref 0]) rfl ?_
    refine AW.forget (ls' := [some (.ref 0), some (.int l1), some (.int l2), some (.int l3), some (.int l4), none, none]) rfl (subL_of ⟨rfl, ⟨rfl, ⟨rfl, ⟨rfl, ⟨rfl, trivial⟩⟩⟩⟩⟩) ?_
    exact AW.eq (a_X9_submit_j76 X hR _ _ _ _ _ _ _ _ _ _ h) rfl rfl rfl rfl
set_option maxHeartbeats 400000 in
set_option maxRecDepth 20000 in
theorem a_X9_submit_j52 {κ : KX} (X : CX κ z_X9_submit) (hR : κR κ = rmM 57 0 0) : ∀ (l1 : Int32) (l2 : Int32) (l3 : Int32) (l4 : Int32) (l5 : Int32) (v : MV) (r : Int32) (w : MV) (h : f_X9_submit_j52 l1 l2 l3 l4 l5 v = some (r, w)), AW κ (QM κ (PST (.inl (some (.int r))) (WM w)) 0 0) 52 [some (.ref 0), some (.int l1), some (.int l2), some (.int l3), some (.int l4), some (.int l5), none] [] (WM v) 0 0 := by
  intro l1 l2 l3 l4 l5 v r w h
  unfold f_X9_submit_j52 at h
  refine AW.eq (pc' := 52) (ls' := [some (.ref 0), some (.int l1), some (.int l2), some (.int l3), some (.int l4), some (.int l5), none]) (st' := []) (AH' := [.inr (9, [.ref 1, .ref 2, .ref 3, .ref 4, .int (MVPc v), .int (MVIs v), .int (MVTh v), .ref 5, .int (MVSl v), .ref 6, .int (MVLn v), .int (MVEc v), .int (MVEo v), .int (MVSa v), .int (MVEn v), .int (MVTk v), .int (MVVa v), .int (MVFa v), .int (MVFo v), .ref 7, .int (MVSc v), .ref 8, .ref 9, .int (MVOl v)]), .inl (0, 500, .inl (MVSt v)), .inl (0, 500, .inl (MVAs v)), .inl (0, 500, .inl (MVSv v)), .inl (0, 4000, .inl (MVPt v)), .inl (0, 6, .inl (MVSp v)), .inl (3, 600, .inl (MVBf v)), .inl (0, 150, .inl (MVSm v)), .inl (0, 40, .inl (MVOr v)), .inl (3, 240, .inl (MVOu v))]) ?_ rfl rfl rfl rfl
  refine go_s 1 X (pc2 := 53) (st2 := [.int 0]) rfl ?_
  exact AW.eq (a_X9_submit_j53 X hR _ _ _ _ _ _ _ _ _ h) rfl rfl rfl rfl
set_option maxHeartbeats 400000 in
set_option maxRecDepth 20000 in
theorem a_X9_submit_j21 {κ : KX} (X : CX κ z_X9_submit) (hR : κR κ = rmM 57 0 0) : ∀ (l1 : Int32) (l2 : Int32) (l3 : Int32) (l4 : Int32) (s0 : Int32) (v : MV) (r : Int32) (w : MV) (h : f_X9_submit_j21 l1 l2 l3 l4 s0 v = some (r, w)), AW κ (QM κ (PST (.inl (some (.int r))) (WM w)) 0 0) 21 [some (.ref 0), some (.int l1), some (.int l2), some (.int l3), some (.int l4), none, none] [.int s0] (WM v) 0 0 := by
  intro l1 l2 l3 l4 s0 v r w h
  unfold f_X9_submit_j21 at h
  refine AW.eq (pc' := 21) (ls' := [some (.ref 0), some (.int l1), some (.int l2), some (.int l3), some (.int l4), none, none]) (st' := [.int s0]) (AH' := [.inr (9, [.ref 1, .ref 2, .ref 3, .ref 4, .int (MVPc v), .int (MVIs v), .int (MVTh v), .ref 5, .int (MVSl v), .ref 6, .int (MVLn v), .int (MVEc v), .int (MVEo v), .int (MVSa v), .int (MVEn v), .int (MVTk v), .int (MVVa v), .int (MVFa v), .int (MVFo v), .ref 7, .int (MVSc v), .ref 8, .ref 9, .int (MVOl v)]), .inl (0, 500, .inl (MVSt v)), .inl (0, 500, .inl (MVAs v)), .inl (0, 500, .inl (MVSv v)), .inl (0, 4000, .inl (MVPt v)), .inl (0, 6, .inl (MVSp v)), .inl (3, 600, .inl (MVBf v)), .inl (0, 150, .inl (MVSm v)), .inl (0, 40, .inl (MVOr v)), .inl (3, 240, .inl (MVOu v))]) ?_ rfl rfl rfl rfl
  refine go_l 4 X (pc2 := 26) (ls2 := [some (.ref 0), some (.int l1), some (.int l2), some (.int l3), some (.int l4), some (.int s0), none]) (st2 := [.long 0, .long (Int32.toInt64 l3)]) rfl ?_
  refine r_ldc2 X 99 rfl (by decide +kernel) ?_
  obtain ⟨r6, hq5, h⟩ := obind_inv h
  refine q_callS X [] [] (AH2 := [.inr (9, [.ref 1, .ref 2, .ref 3, .ref 4, .int (MVPc v), .int (MVIs v), .int (MVTh v), .ref 5, .int (MVSl v), .ref 6, .int (MVLn v), .int (MVEc v), .int (MVEo v), .int (MVSa v), .int (MVEn v), .int (MVTk v), .int (MVVa v), .int (MVFa v), .int (MVFo v), .ref 7, .int (MVSc v), .ref 8, .ref 9, .int (MVOl v)]), .inl (0, 500, .inl (MVSt v)), .inl (0, 500, .inl (MVAs v)), .inl (0, 500, .inl (MVSv v)), .inl (0, 4000, .inl (MVPt v)), .inl (0, 6, .inl (MVSp v)), .inl (3, 600, .inl (MVBf v)), .inl (0, 150, .inl (MVSm v)), .inl (0, 40, .inl (MVOr v)), .inl (3, 240, .inl (MVOu v))]) (st2 := [.int r6]) (c_X9_isWithin _ _ _ _ hq5) ⟨rfl, rfl⟩ rfl k_X9_isWithin l_X9_152 rfl rfl (fit_of hR (by decide) (by decide) (by decide) (by decide)) (Nat.le_of_ble_eq_true rfl) (by decide) rfl rfl rfl ?_
  refine r_if_eq X 52 rfl rfl (fun c8 => ?_) (fun c8 => ?_)
  · rw [if_pos c8] at h
    exact AW.eq (a_X9_submit_j52 X hR _ _ _ _ _ _ _ _ h) rfl rfl rfl rfl
  · rw [if_neg c8] at h
    refine go_s 3 X (pc2 := 39) (st2 := [.long 1, .long (Int32.toInt64 l4)]) rfl ?_
    refine r_ldc2 X 99 rfl (by decide +kernel) ?_
    obtain ⟨r22, hq21, h⟩ := obind_inv h
    refine q_callS X [] [] (AH2 := [.inr (9, [.ref 1, .ref 2, .ref 3, .ref 4, .int (MVPc v), .int (MVIs v), .int (MVTh v), .ref 5, .int (MVSl v), .ref 6, .int (MVLn v), .int (MVEc v), .int (MVEo v), .int (MVSa v), .int (MVEn v), .int (MVTk v), .int (MVVa v), .int (MVFa v), .int (MVFo v), .ref 7, .int (MVSc v), .ref 8, .ref 9, .int (MVOl v)]), .inl (0, 500, .inl (MVSt v)), .inl (0, 500, .inl (MVAs v)), .inl (0, 500, .inl (MVSv v)), .inl (0, 4000, .inl (MVPt v)), .inl (0, 6, .inl (MVSp v)), .inl (3, 600, .inl (MVBf v)), .inl (0, 150, .inl (MVSm v)), .inl (0, 40, .inl (MVOr v)), .inl (3, 240, .inl (MVOu v))]) (st2 := [.int r22]) (c_X9_isWithin _ _ _ _ hq21) ⟨rfl, rfl⟩ rfl k_X9_isWithin l_X9_152 rfl rfl (fit_of hR (by decide) (by decide) (by decide) (by decide)) (Nat.le_of_ble_eq_true rfl) (by decide) rfl rfl rfl ?_
    refine r_if_eq X 52 rfl rfl (fun c24 => ?_) (fun c24 => ?_)
    · rw [if_pos c24] at h
      exact AW.eq (a_X9_submit_j52 X hR _ _ _ _ _ _ _ _ h) rfl rfl rfl rfl
    · rw [if_neg c24] at h
      refine go_s 2 X (pc2 := 53) (st2 := [.int 1]) rfl ?_
      exact AW.eq (a_X9_submit_j53 X hR _ _ _ _ _ _ _ _ _ h) rfl rfl rfl rfl
set_option maxHeartbeats 400000 in
set_option maxRecDepth 20000 in
theorem a_X9_submit_j20 {κ : KX} (X : CX κ z_X9_submit) (hR : κR κ = rmM 57 0 0) : ∀ (l1 : Int32) (l2 : Int32) (l3 : Int32) (l4 : Int32) (v : MV) (r : Int32) (w : MV) (h : f_X9_submit_j20 l1 l2 l3 l4 v = some (r, w)), AW κ (QM κ (PST (.inl (some (.int r))) (WM w)) 0 0) 20 [some (.ref 0), some (.int l1), some (.int l2), some (.int l3), some (.int l4), none, none] [] (WM v) 0 0 := by
  intro l1 l2 l3 l4 v r w h
  unfold f_X9_submit_j20 at h
  refine AW.eq (pc' := 20) (ls' := [some (.ref 0), some (.int l1), some (.int l2), some (.int l3), some (.int l4), none, none]) (st' := []) (AH' := [.inr (9, [.ref 1, .ref 2, .ref 3, .ref 4, .int (MVPc v), .int (MVIs v), .int (MVTh v), .ref 5, .int (MVSl v), .ref 6, .int (MVLn v), .int (MVEc v), .int (MVEo v), .int (MVSa v), .int (MVEn v), .int (MVTk v), .int (MVVa v), .int (MVFa v), .int (MVFo v), .ref 7, .int (MVSc v), .ref 8, .ref 9, .int (MVOl v)]), .inl (0, 500, .inl (MVSt v)), .inl (0, 500, .inl (MVAs v)), .inl (0, 500, .inl (MVSv v)), .inl (0, 4000, .inl (MVPt v)), .inl (0, 6, .inl (MVSp v)), .inl (3, 600, .inl (MVBf v)), .inl (0, 150, .inl (MVSm v)), .inl (0, 40, .inl (MVOr v)), .inl (3, 240, .inl (MVOu v))]) ?_ rfl rfl rfl rfl
  refine go_s 1 X (pc2 := 21) (st2 := [.int 0]) rfl ?_
  exact AW.eq (a_X9_submit_j21 X hR _ _ _ _ _ _ _ _ h) rfl rfl rfl rfl
set_option maxHeartbeats 400000 in
set_option maxRecDepth 20000 in
theorem c_X9_submit (v : MV) (a : Int32) (b : Int32) (c : Int32) (d : Int32) (r : Int32) (w : MV) (h : f_X9_submit v a b c d = some (r, w)) : Sem z_X9_submit 57 0 0 [.ref 0, .int a, .int b, .int c, .int d] (WM v) (PST (.inl (some (.int r))) (WM w)) := by
  refine Sem.of zo_X9_submit (by decide +kernel) (Nat.le_of_ble_eq_true rfl) fun κ X hE hR hN => ?_
  unfold f_X9_submit at h
  refine AW.eq (pc' := 0) (ls' := [some (.ref 0), some (.int a), some (.int b), some (.int c), some (.int d), none, none]) (st' := []) (AH' := [.inr (9, [.ref 1, .ref 2, .ref 3, .ref 4, .int (MVPc v), .int (MVIs v), .int (MVTh v), .ref 5, .int (MVSl v), .ref 6, .int (MVLn v), .int (MVEc v), .int (MVEo v), .int (MVSa v), .int (MVEn v), .int (MVTk v), .int (MVVa v), .int (MVFa v), .int (MVFo v), .ref 7, .int (MVSc v), .ref 8, .ref 9, .int (MVOl v)]), .inl (0, 500, .inl (MVSt v)), .inl (0, 500, .inl (MVAs v)), .inl (0, 500, .inl (MVSv v)), .inl (0, 4000, .inl (MVPt v)), .inl (0, 6, .inl (MVSp v)), .inl (3, 600, .inl (MVBf v)), .inl (0, 150, .inl (MVSm v)), .inl (0, 40, .inl (MVOr v)), .inl (3, 240, .inl (MVOu v))]) ?_ rfl rfl rfl rfl
  refine go_s 2 X (pc2 := 2) (st2 := [.int a, .ref 0]) rfl ?_
  obtain ⟨r2, hq1, h⟩ := obind_inv h
  refine q_callV X [0, 1, 2, 3, 4, 5, 6, 7, 8, 9] [] (AH2 := [.inr (9, [.ref 1, .ref 2, .ref 3, .ref 4, .int (MVPc v), .int (MVIs v), .int (MVTh v), .ref 5, .int (MVSl v), .ref 6, .int (MVLn v), .int (MVEc v), .int (MVEo v), .int (MVSa v), .int (MVEn v), .int (MVTk v), .int (MVVa v), .int (MVFa v), .int (MVFo v), .ref 7, .int (MVSc v), .ref 8, .ref 9, .int (MVOl v)]), .inl (0, 500, .inl (MVSt v)), .inl (0, 500, .inl (MVAs v)), .inl (0, 500, .inl (MVSv v)), .inl (0, 4000, .inl (MVPt v)), .inl (0, 6, .inl (MVSp v)), .inl (3, 600, .inl (MVBf v)), .inl (0, 150, .inl (MVSm v)), .inl (0, 40, .inl (MVOr v)), .inl (3, 240, .inl (MVOu v))]) (st2 := [.int r2]) (c_X9_isQueue _ _ _ hq1) ⟨rfl, rfl⟩ rfl k_X9_isQueue l_X9_332 rfl rfl rfl rfl rfl (fit_of hR (by decide) (by decide) (by decide) (by decide)) (Nat.le_of_ble_eq_true rfl) (by decide) rfl rfl rfl ?_
  refine r_if_eq X 20 rfl rfl (fun c4 => ?_) (fun c4 => ?_)
  · rw [if_pos c4] at h
    exact AW.eq (a_X9_submit_j20 X hR _ _ _ _ _ _ _ h) rfl rfl rfl rfl
  · rw [if_neg c4] at h
    refine go_s 2 X (pc2 := 10) (st2 := [.int b, .ref 0]) rfl ?_
    obtain ⟨r26, hq25, h⟩ := obind_inv h
    refine q_callV X [0, 1, 2, 3, 4, 5, 6, 7, 8, 9] [] (AH2 := [.inr (9, [.ref 1, .ref 2, .ref 3, .ref 4, .int (MVPc v), .int (MVIs v), .int (MVTh v), .ref 5, .int (MVSl v), .ref 6, .int (MVLn v), .int (MVEc v), .int (MVEo v), .int (MVSa v), .int (MVEn v), .int (MVTk v), .int (MVVa v), .int (MVFa v), .int (MVFo v), .ref 7, .int (MVSc v), .ref 8, .ref 9, .int (MVOl v)]), .inl (0, 500, .inl (MVSt v)), .inl (0, 500, .inl (MVAs v)), .inl (0, 500, .inl (MVSv v)), .inl (0, 4000, .inl (MVPt v)), .inl (0, 6, .inl (MVSp v)), .inl (3, 600, .inl (MVBf v)), .inl (0, 150, .inl (MVSm v)), .inl (0, 40, .inl (MVOr v)), .inl (3, 240, .inl (MVOu v))]) (st2 := [.int r26]) (c_X9_isOwner _ _ _ hq25) ⟨rfl, rfl⟩ rfl k_X9_isOwner l_X9_348 rfl rfl rfl rfl rfl (fit_of hR (by decide) (by decide) (by decide) (by decide)) (Nat.le_of_ble_eq_true rfl) (by decide) rfl rfl rfl ?_
    refine r_if_eq X 20 rfl rfl (fun c28 => ?_) (fun c28 => ?_)
    · rw [if_pos c28] at h
      exact AW.eq (a_X9_submit_j20 X hR _ _ _ _ _ _ _ h) rfl rfl rfl rfl
    · rw [if_neg c28] at h
      refine go_s 2 X (pc2 := 21) (st2 := [.int 1]) rfl ?_
      exact AW.eq (a_X9_submit_j21 X hR _ _ _ _ _ _ _ _ h) rfl rfl rfl rfl
set_option maxHeartbeats 400000 in
set_option maxRecDepth 20000 in
theorem c_X9_swaps (v : MV) (r : Int32) (w : MV) (h : f_X9_swaps v = some (r, w)) : Sem z_X9_swaps 1 0 0 [.ref 0] (WM v) (PST (.inl (some (.int r))) (WM w)) := by
  refine Sem.of zo_X9_swaps (by decide +kernel) (Nat.le_of_ble_eq_true rfl) fun κ X hE hR hN => ?_
  unfold f_X9_swaps at h
  refine AW.eq (pc' := 0) (ls' := [some (.ref 0)]) (st' := []) (AH' := [.inr (9, [.ref 1, .ref 2, .ref 3, .ref 4, .int (MVPc v), .int (MVIs v), .int (MVTh v), .ref 5, .int (MVSl v), .ref 6, .int (MVLn v), .int (MVEc v), .int (MVEo v), .int (MVSa v), .int (MVEn v), .int (MVTk v), .int (MVVa v), .int (MVFa v), .int (MVFo v), .ref 7, .int (MVSc v), .ref 8, .ref 9, .int (MVOl v)]), .inl (0, 500, .inl (MVSt v)), .inl (0, 500, .inl (MVAs v)), .inl (0, 500, .inl (MVSv v)), .inl (0, 4000, .inl (MVPt v)), .inl (0, 6, .inl (MVSp v)), .inl (3, 600, .inl (MVBf v)), .inl (0, 150, .inl (MVSm v)), .inl (0, 40, .inl (MVOr v)), .inl (3, 240, .inl (MVOu v))]) ?_ rfl rfl rfl rfl
  refine go_s 2 X (pc2 := 2) (st2 := [.int 4, .ref 0]) rfl ?_
  obtain ⟨r2, w3, hq1, h⟩ := bnd2_inv h
  refine q_callV X [0, 1, 2, 3, 4, 5, 6, 7, 8, 9] [] (AH2 := [.inr (9, [.ref 1, .ref 2, .ref 3, .ref 4, .int (MVPc w3), .int (MVIs w3), .int (MVTh w3), .ref 5, .int (MVSl w3), .ref 6, .int (MVLn w3), .int (MVEc w3), .int (MVEo w3), .int (MVSa w3), .int (MVEn w3), .int (MVTk w3), .int (MVVa w3), .int (MVFa w3), .int (MVFo w3), .ref 7, .int (MVSc w3), .ref 8, .ref 9, .int (MVOl w3)]), .inl (0, 500, .inl (MVSt w3)), .inl (0, 500, .inl (MVAs w3)), .inl (0, 500, .inl (MVSv w3)), .inl (0, 4000, .inl (MVPt w3)), .inl (0, 6, .inl (MVSp w3)), .inl (3, 600, .inl (MVBf w3)), .inl (0, 150, .inl (MVSm w3)), .inl (0, 40, .inl (MVOr w3)), .inl (3, 240, .inl (MVOu w3))]) (st2 := [.int r2]) (c_X9_numberOf _ _ _ _ hq1) ⟨rfl, rfl⟩ rfl k_X9_numberOf l_X9_339 rfl rfl rfl rfl rfl (fit_of hR (by decide) (by decide) (by decide) (by decide)) (Nat.le_of_ble_eq_true rfl) (by decide) rfl rfl rfl ?_
  cases h
  exact r_iret X rfl rfl ⟨rfl, rfl⟩ (by decide) (by decide)
set_option maxHeartbeats 400000 in
set_option maxRecDepth 20000 in
theorem c_X9_thrown (v : MV) (r : Int32) (h : f_X9_thrown v = some r) : Sem z_X9_thrown 0 0 0 [.ref 0] (WM v) (PST (.inl (some (.int r))) (WM v)) := by
  refine Sem.of zo_X9_thrown (by decide +kernel) (Nat.le_of_ble_eq_true rfl) fun κ X hE hR hN => ?_
  unfold f_X9_thrown at h
  refine AW.eq (pc' := 0) (ls' := [some (.ref 0)]) (st' := []) (AH' := [.inr (9, [.ref 1, .ref 2, .ref 3, .ref 4, .int (MVPc v), .int (MVIs v), .int (MVTh v), .ref 5, .int (MVSl v), .ref 6, .int (MVLn v), .int (MVEc v), .int (MVEo v), .int (MVSa v), .int (MVEn v), .int (MVTk v), .int (MVVa v), .int (MVFa v), .int (MVFo v), .ref 7, .int (MVSc v), .ref 8, .ref 9, .int (MVOl v)]), .inl (0, 500, .inl (MVSt v)), .inl (0, 500, .inl (MVAs v)), .inl (0, 500, .inl (MVSv v)), .inl (0, 4000, .inl (MVPt v)), .inl (0, 6, .inl (MVSp v)), .inl (3, 600, .inl (MVBf v)), .inl (0, 150, .inl (MVSm v)), .inl (0, 40, .inl (MVOr v)), .inl (3, 240, .inl (MVOu v))]) ?_ rfl rfl rfl rfl
  refine go_s 2 X (pc2 := 4) (st2 := [.int (MVTh v)]) rfl ?_
  cases h
  exact r_iret X rfl rfl ⟨rfl, rfl⟩ (by decide) (by decide)
set_option maxHeartbeats 400000 in
set_option maxRecDepth 20000 in
theorem c_X9_truncateInput (v : MV) (a : Int32) (r : Int32) (w : MV) (h : f_X9_truncateInput v a = some (r, w)) : Sem z_X9_truncateInput 1 0 0 [.ref 0, .int a] (WM v) (PST (.inl (some (.int r))) (WM w)) := by
  refine Sem.of zo_X9_truncateInput (by decide +kernel) (Nat.le_of_ble_eq_true rfl) fun κ X hE hR hN => ?_
  unfold f_X9_truncateInput at h
  refine AW.eq (pc' := 0) (ls' := [some (.ref 0), some (.int a)]) (st' := []) (AH' := [.inr (9, [.ref 1, .ref 2, .ref 3, .ref 4, .int (MVPc v), .int (MVIs v), .int (MVTh v), .ref 5, .int (MVSl v), .ref 6, .int (MVLn v), .int (MVEc v), .int (MVEo v), .int (MVSa v), .int (MVEn v), .int (MVTk v), .int (MVVa v), .int (MVFa v), .int (MVFo v), .ref 7, .int (MVSc v), .ref 8, .ref 9, .int (MVOl v)]), .inl (0, 500, .inl (MVSt v)), .inl (0, 500, .inl (MVAs v)), .inl (0, 500, .inl (MVSv v)), .inl (0, 4000, .inl (MVPt v)), .inl (0, 6, .inl (MVSp v)), .inl (3, 600, .inl (MVBf v)), .inl (0, 150, .inl (MVSm v)), .inl (0, 40, .inl (MVOr v)), .inl (3, 240, .inl (MVOu v))]) ?_ rfl rfl rfl rfl
  refine go 9 X (pc2 := 13) (ls2 := [some (.ref 0), some (.int a)]) (st2 := [.long (Int32.toInt64 (MVLn v)), .long 0, .long (Int32.toInt64 a)]) (AH2 := [.inr (9, [.ref 1, .ref 2, .ref 3, .ref 4, .int (MVPc v), .int (MVIs v), .int 0, .ref 5, .int (MVSl v), .ref 6, .int (MVLn v), .int (MVEc v), .int (MVEo v), .int (MVSa v), .int (MVEn v), .int (MVTk v), .int (MVVa v), .int (MVFa v), .int (MVFo v), .ref 7, .int (MVSc v), .ref 8, .ref 9, .int (MVOl v)]), .inl (0, 500, .inl (MVSt v)), .inl (0, 500, .inl (MVAs v)), .inl (0, 500, .inl (MVSv v)), .inl (0, 4000, .inl (MVPt v)), .inl (0, 6, .inl (MVSp v)), .inl (3, 600, .inl (MVBf v)), .inl (0, 150, .inl (MVSm v)), .inl (0, 40, .inl (MVOr v)), .inl (3, 240, .inl (MVOu v))]) rfl ?_
  obtain ⟨r2, hq1, h⟩ := obind_inv h
  refine q_callS X [] [] (AH2 := [.inr (9, [.ref 1, .ref 2, .ref 3, .ref 4, .int (MVPc v), .int (MVIs v), .int 0, .ref 5, .int (MVSl v), .ref 6, .int (MVLn v), .int (MVEc v), .int (MVEo v), .int (MVSa v), .int (MVEn v), .int (MVTk v), .int (MVVa v), .int (MVFa v), .int (MVFo v), .ref 7, .int (MVSc v), .ref 8, .ref 9, .int (MVOl v)]), .inl (0, 500, .inl (MVSt v)), .inl (0, 500, .inl (MVAs v)), .inl (0, 500, .inl (MVSv v)), .inl (0, 4000, .inl (MVPt v)), .inl (0, 6, .inl (MVSp v)), .inl (3, 600, .inl (MVBf v)), .inl (0, 150, .inl (MVSm v)), .inl (0, 40, .inl (MVOr v)), .inl (3, 240, .inl (MVOu v))]) (st2 := [.int r2]) (c_X9_isWithin _ _ _ _ hq1) ⟨rfl, rfl⟩ rfl k_X9_isWithin l_X9_152 rfl rfl (fit_of hR (by decide) (by decide) (by decide) (by decide)) (Nat.le_of_ble_eq_true rfl) (by decide) rfl rfl rfl ?_
  refine r_if_ne X 21 rfl rfl (fun c4 => ?_) (fun c4 => ?_)
  · rw [if_neg c4] at h
    refine go 4 X (pc2 := 27) (ls2 := [some (.ref 0), some (.int a)]) (st2 := [.int 1]) (AH2 := [.inr (9, [.ref 1, .ref 2, .ref 3, .ref 4, .int (MVPc v), .int (MVIs v), .int 0, .ref 5, .int (MVSl v), .ref 6, .int a, .int (MVEc v), .int (MVEo v), .int (MVSa v), .int (MVEn v), .int (MVTk v), .int (MVVa v), .int (MVFa v), .int (MVFo v), .ref 7, .int (MVSc v), .ref 8, .ref 9, .int (MVOl v)]), .inl (0, 500, .inl (MVSt v)), .inl (0, 500, .inl (MVAs v)), .inl (0, 500, .inl (MVSv v)), .inl (0, 4000, .inl (MVPt v)), .inl (0, 6, .inl (MVSp v)), .inl (3, 600, .inl (MVBf v)), .inl (0, 150, .inl (MVSm v)), .inl (0, 40, .inl (MVOr v)), .inl (3, 240, .inl (MVOu v))]) rfl ?_
    cases h
    exact r_zret X (ty := .boolean) rfl rfl rfl ⟨rfl, rfl⟩ (by decide) (by decide)
  · rw [if_pos c4] at h
    refine go_s 1 X (pc2 := 20) (st2 := [.int 0]) rfl ?_
    cases h
    exact r_zret X (ty := .boolean) rfl rfl rfl ⟨rfl, rfl⟩ (by decide) (by decide)
set_option maxHeartbeats 400000 in
set_option maxRecDepth 20000 in
theorem a_X9_undo_h35 {κ : KX} (X : CX κ z_X9_undo) (hR : κR κ = rmM 1 0 0) : ∀ (n : Nat) (l1 : Int32) (v : MV) (r : Int32) (w : MV) (h : f_X9_undo_h35 n l1 v = some (r, w)), AW κ (QM κ (PST (.inl (some (.int r))) (WM w)) 0 0) 35 [some (.ref 0), some (.int l1)] [] (WM v) 0 0 := by
  intro n
  induction n with
  | zero =>
    intro l1 v r w h
    unfold f_X9_undo_h35 at h
    cases h
  | succ n ih =>
    intro l1 v r w h
    unfold f_X9_undo_h35 at h
    refine AW.eq (pc' := 35) (ls' := [some (.ref 0), some (.int l1)]) (st' := []) (AH' := [.inr (9, [.ref 1, .ref 2, .ref 3, .ref 4, .int (MVPc v), .int (MVIs v), .int (MVTh v), .ref 5, .int (MVSl v), .ref 6, .int (MVLn v), .int (MVEc v), .int (MVEo v), .int (MVSa v), .int (MVEn v), .int (MVTk v), .int (MVVa v), .int (MVFa v), .int (MVFo v), .ref 7, .int (MVSc v), .ref 8, .ref 9, .int (MVOl v)]), .inl (0, 500, .inl (MVSt v)), .inl (0, 500, .inl (MVAs v)), .inl (0, 500, .inl (MVSv v)), .inl (0, 4000, .inl (MVPt v)), .inl (0, 6, .inl (MVSp v)), .inl (3, 600, .inl (MVBf v)), .inl (0, 150, .inl (MVSm v)), .inl (0, 40, .inl (MVOr v)), .inl (3, 240, .inl (MVOu v))]) ?_ rfl rfl rfl rfl
    refine go_s 2 X (pc2 := 39) (st2 := [.int 500, .int l1]) rfl ?_
    refine r_icmp_ge X 69 rfl rfl (fun c6 => ?_) (fun c6 => ?_)
    · rw [if_pos c6] at h
      refine go_s 2 X (pc2 := 73) (st2 := [.int (MVPc v)]) rfl ?_
      cases h
      exact r_iret X rfl rfl ⟨rfl, rfl⟩ (by decide) (by decide)
    · rw [if_neg c6] at h
      refine go_s 11 X (pc2 := 61) (st2 := [.int ((500 * (MVPc v)) + l1), .ref 4, .int l1, .ref 1]) rfl ?_
      by_cases b7 : oob ((500 * (MVPc v)) + l1) 4000
      · rw [if_pos b7] at h; cases h
      rw [if_neg b7] at h
      refine r_iald X rfl rfl b7 ?_
      by_cases b8 : oob l1 500
      · rw [if_pos b8] at h; cases h
      rw [if_neg b8] at h
      refine r_iast X rfl rfl b8 ?_
      refine go_l 2 X (pc2 := 35) (ls2 := [some (.ref 0), some (.int (l1 + 1))]) (st2 := []) rfl ?_
      exact AW.eq (ih _ _ _ _ h) rfl rfl rfl rfl
set_option maxHeartbeats 400000 in
set_option maxRecDepth 20000 in
theorem c_X9_undo (v : MV) (r : Int32) (w : MV) (h : f_X9_undo v = some (r, w)) : Sem z_X9_undo 1 0 0 [.ref 0] (WM v) (PST (.inl (some (.int r))) (WM w)) := by
  refine Sem.of zo_X9_undo (by decide +kernel) (Nat.le_of_ble_eq_true rfl) fun κ X hE hR hN => ?_
  unfold f_X9_undo at h
  refine AW.eq (pc' := 0) (ls' := [some (.ref 0), none]) (st' := []) (AH' := [.inr (9, [.ref 1, .ref 2, .ref 3, .ref 4, .int (MVPc v), .int (MVIs v), .int (MVTh v), .ref 5, .int (MVSl v), .ref 6, .int (MVLn v), .int (MVEc v), .int (MVEo v), .int (MVSa v), .int (MVEn v), .int (MVTk v), .int (MVVa v), .int (MVFa v), .int (MVFo v), .ref 7, .int (MVSc v), .ref 8, .ref 9, .int (MVOl v)]), .inl (0, 500, .inl (MVSt v)), .inl (0, 500, .inl (MVAs v)), .inl (0, 500, .inl (MVSv v)), .inl (0, 4000, .inl (MVPt v)), .inl (0, 6, .inl (MVSp v)), .inl (3, 600, .inl (MVBf v)), .inl (0, 150, .inl (MVSm v)), .inl (0, 40, .inl (MVOr v)), .inl (3, 240, .inl (MVOu v))]) ?_ rfl rfl rfl rfl
  refine go_s 3 X (pc2 := 5) (st2 := [.int (MVPc v), .ref 0]) rfl ?_
  refine r_if_le X 12 rfl rfl (fun c1 => ?_) (fun c1 => ?_)
  · rw [if_pos c1] at h
    refine go_s 3 X (pc2 := 15) (st2 := [.int 1, .int 1, .int 0, .ref 0]) rfl ?_
    obtain ⟨r3, w4, hq2, h⟩ := bnd2_inv h
    refine q_callV X [0, 1, 2, 3, 4, 5, 6, 7, 8, 9] [] (AH2 := [.inr (9, [.ref 1, .ref 2, .ref 3, .ref 4, .int (MVPc w4), .int (MVIs w4), .int (MVTh w4), .ref 5, .int (MVSl w4), .ref 6, .int (MVLn w4), .int (MVEc w4), .int (MVEo w4), .int (MVSa w4), .int (MVEn w4), .int (MVTk w4), .int (MVVa w4), .int (MVFa w4), .int (MVFo w4), .ref 7, .int (MVSc w4), .ref 8, .ref 9, .int (MVOl w4)]), .inl (0, 500, .inl (MVSt w4)), .inl (0, 500, .inl (MVAs w4)), .inl (0, 500, .inl (MVSv w4)), .inl (0, 4000, .inl (MVPt w4)), .inl (0, 6, .inl (MVSp w4)), .inl (3, 600, .inl (MVBf w4)), .inl (0, 150, .inl (MVSm w4)), .inl (0, 40, .inl (MVOr w4)), .inl (3, 240, .inl (MVOu w4))]) (st2 := [.int r3]) (c_X9_check _ _ _ _ _ _ hq2) ⟨rfl, rfl⟩ rfl k_X9_check l_X9_335 rfl rfl rfl rfl rfl (fit_of hR (by decide) (by decide) (by decide) (by decide)) (Nat.le_of_ble_eq_true rfl) (by decide) rfl rfl rfl ?_
    refine r_if_ne X 23 rfl rfl (fun c5 => ?_) (fun c5 => ?_)
    · rw [if_neg c5] at h
      refine go 8 X (pc2 := 35) (ls2 := [some (.ref 0), some (.int 0)]) (st2 := []) (AH2 := [.inr (9, [.ref 1, .ref 2, .ref 3, .ref 4, .int ((MVPc w4) - 1), .int (MVIs w4), .int (MVTh w4), .ref 5, .int (MVSl w4), .ref 6, .int (MVLn w4), .int (MVEc w4), .int (MVEo w4), .int (MVSa w4), .int (MVEn w4), .int (MVTk w4), .int (MVVa w4), .int (MVFa w4), .int (MVFo w4), .ref 7, .int (MVSc w4), .ref 8, .ref 9, .int (MVOl w4)]), .inl (0, 500, .inl (MVSt w4)), .inl (0, 500, .inl (MVAs w4)), .inl (0, 500, .inl (MVSv w4)), .inl (0, 4000, .inl (MVPt w4)), .inl (0, 6, .inl (MVSp w4)), .inl (3, 600, .inl (MVBf w4)), .inl (0, 150, .inl (MVSm w4)), .inl (0, 40, .inl (MVOr w4)), .inl (3, 240, .inl (MVOu w4))]) rfl ?_
      exact AW.eq (a_X9_undo_h35 X hR FU _ _ _ _ h) rfl rfl rfl rfl
    · rw [if_pos c5] at h
      refine go_s 1 X (pc2 := 22) (st2 := [.int 0]) rfl ?_
      cases h
      exact r_iret X rfl rfl ⟨rfl, rfl⟩ (by decide) (by decide)
  · rw [if_neg c1] at h
    refine go_s 4 X (pc2 := 15) (st2 := [.int 1, .int 1, .int 1, .ref 0]) rfl ?_
    obtain ⟨r10, w11, hq9, h⟩ := bnd2_inv h
    refine q_callV X [0, 1, 2, 3, 4, 5, 6, 7, 8, 9] [] (AH2 := [.inr (9, [.ref 1, .ref 2, .ref 3, .ref 4, .int (MVPc w11), .int (MVIs w11), .int (MVTh w11), .ref 5, .int (MVSl w11), .ref 6, .int (MVLn w11), .int (MVEc w11), .int (MVEo w11), .int (MVSa w11), .int (MVEn w11), .int (MVTk w11), .int (MVVa w11), .int (MVFa w11), .int (MVFo w11), .ref 7, .int (MVSc w11), .ref 8, .ref 9, .int (MVOl w11)]), .inl (0, 500, .inl (MVSt w11)), .inl (0, 500, .inl (MVAs w11)), .inl (0, 500, .inl (MVSv w11)), .inl (0, 4000, .inl (MVPt w11)), .inl (0, 6, .inl (MVSp w11)), .inl (3, 600, .inl (MVBf w11)), .inl (0, 150, .inl (MVSm w11)), .inl (0, 40, .inl (MVOr w11)), .inl (3, 240, .inl (MVOu w11))]) (st2 := [.int r10]) (c_X9_check _ _ _ _ _ _ hq9) ⟨rfl, rfl⟩ rfl k_X9_check l_X9_335 rfl rfl rfl rfl rfl (fit_of hR (by decide) (by decide) (by decide) (by decide)) (Nat.le_of_ble_eq_true rfl) (by decide) rfl rfl rfl ?_
    refine r_if_ne X 23 rfl rfl (fun c12 => ?_) (fun c12 => ?_)
    · rw [if_neg c12] at h
      refine go 8 X (pc2 := 35) (ls2 := [some (.ref 0), some (.int 0)]) (st2 := []) (AH2 := [.inr (9, [.ref 1, .ref 2, .ref 3, .ref 4, .int ((MVPc w11) - 1), .int (MVIs w11), .int (MVTh w11), .ref 5, .int (MVSl w11), .ref 6, .int (MVLn w11), .int (MVEc w11), .int (MVEo w11), .int (MVSa w11), .int (MVEn w11), .int (MVTk w11), .int (MVVa w11), .int (MVFa w11), .int (MVFo w11), .ref 7, .int (MVSc w11), .ref 8, .ref 9, .int (MVOl w11)]), .inl (0, 500, .inl (MVSt w11)), .inl (0, 500, .inl (MVAs w11)), .inl (0, 500, .inl (MVSv w11)), .inl (0, 4000, .inl (MVPt w11)), .inl (0, 6, .inl (MVSp w11)), .inl (3, 600, .inl (MVBf w11)), .inl (0, 150, .inl (MVSm w11)), .inl (0, 40, .inl (MVOr w11)), .inl (3, 240, .inl (MVOu w11))]) rfl ?_
      exact AW.eq (a_X9_undo_h35 X hR FU _ _ _ _ h) rfl rfl rfl rfl
    · rw [if_pos c12] at h
      refine go_s 1 X (pc2 := 22) (st2 := [.int 0]) rfl ?_
      cases h
      exact r_iret X rfl rfl ⟨rfl, rfl⟩ (by decide) (by decide)
set_option maxHeartbeats 400000 in
set_option maxRecDepth 20000 in
theorem c_X9_waitingPages (v : MV) (a : Int32) (r : Int32) (w : MV) (h : f_X9_waitingPages v a = some (r, w)) : Sem z_X9_waitingPages 5 0 0 [.ref 0, .int a] (WM v) (PST (.inl (some (.int r))) (WM w)) := by
  refine Sem.of zo_X9_waitingPages (by decide +kernel) (Nat.le_of_ble_eq_true rfl) fun κ X hE hR hN => ?_
  unfold f_X9_waitingPages at h
  refine AW.eq (pc' := 0) (ls' := [some (.ref 0), some (.int a)]) (st' := []) (AH' := [.inr (9, [.ref 1, .ref 2, .ref 3, .ref 4, .int (MVPc v), .int (MVIs v), .int (MVTh v), .ref 5, .int (MVSl v), .ref 6, .int (MVLn v), .int (MVEc v), .int (MVEo v), .int (MVSa v), .int (MVEn v), .int (MVTk v), .int (MVVa v), .int (MVFa v), .int (MVFo v), .ref 7, .int (MVSc v), .ref 8, .ref 9, .int (MVOl v)]), .inl (0, 500, .inl (MVSt v)), .inl (0, 500, .inl (MVAs v)), .inl (0, 500, .inl (MVSv v)), .inl (0, 4000, .inl (MVPt v)), .inl (0, 6, .inl (MVSp v)), .inl (3, 600, .inl (MVBf v)), .inl (0, 150, .inl (MVSm v)), .inl (0, 40, .inl (MVOr v)), .inl (3, 240, .inl (MVOu v))]) ?_ rfl rfl rfl rfl
  refine go_s 2 X (pc2 := 2) (st2 := [.int a, .ref 0]) rfl ?_
  obtain ⟨r2, w3, hq1, h⟩ := bnd2_inv h
  refine q_callV X [0, 1, 2, 3, 4, 5, 6, 7, 8, 9] [] (AH2 := [.inr (9, [.ref 1, .ref 2, .ref 3, .ref 4, .int (MVPc w3), .int (MVIs w3), .int (MVTh w3), .ref 5, .int (MVSl w3), .ref 6, .int (MVLn w3), .int (MVEc w3), .int (MVEo w3), .int (MVSa w3), .int (MVEn w3), .int (MVTk w3), .int (MVVa w3), .int (MVFa w3), .int (MVFo w3), .ref 7, .int (MVSc w3), .ref 8, .ref 9, .int (MVOl w3)]), .inl (0, 500, .inl (MVSt w3)), .inl (0, 500, .inl (MVAs w3)), .inl (0, 500, .inl (MVSv w3)), .inl (0, 4000, .inl (MVPt w3)), .inl (0, 6, .inl (MVSp w3)), .inl (3, 600, .inl (MVBf w3)), .inl (0, 150, .inl (MVSm w3)), .inl (0, 40, .inl (MVOr w3)), .inl (3, 240, .inl (MVOu w3))]) (st2 := [.int r2]) (c_X9_checkQueue _ _ _ _ hq1) ⟨rfl, rfl⟩ rfl k_X9_checkQueue l_X9_342 rfl rfl rfl rfl rfl (fit_of hR (by decide) (by decide) (by decide) (by decide)) (Nat.le_of_ble_eq_true rfl) (by decide) rfl rfl rfl ?_
  refine r_if_eq X 16 rfl rfl (fun c4 => ?_) (fun c4 => ?_)
  · rw [if_pos c4] at h
    refine go_s 1 X (pc2 := 17) (st2 := [.int 0]) rfl ?_
    cases h
    exact r_iret X rfl rfl ⟨rfl, rfl⟩ (by decide) (by decide)
  · rw [if_neg c4] at h
    refine go_s 2 X (pc2 := 10) (st2 := [.int a, .ref 0]) rfl ?_
    obtain ⟨r6, hq5, h⟩ := obind_inv h
    refine q_callV X [0, 1, 2, 3, 4, 5, 6, 7, 8, 9] [] (AH2 := [.inr (9, [.ref 1, .ref 2, .ref 3, .ref 4, .int (MVPc w3), .int (MVIs w3), .int (MVTh w3), .ref 5, .int (MVSl w3), .ref 6, .int (MVLn w3), .int (MVEc w3), .int (MVEo w3), .int (MVSa w3), .int (MVEn w3), .int (MVTk w3), .int (MVVa w3), .int (MVFa w3), .int (MVFo w3), .ref 7, .int (MVSc w3), .ref 8, .ref 9, .int (MVOl w3)]), .inl (0, 500, .inl (MVSt w3)), .inl (0, 500, .inl (MVAs w3)), .inl (0, 500, .inl (MVSv w3)), .inl (0, 4000, .inl (MVPt w3)), .inl (0, 6, .inl (MVSp w3)), .inl (3, 600, .inl (MVBf w3)), .inl (0, 150, .inl (MVSm w3)), .inl (0, 40, .inl (MVOr w3)), .inl (3, 240, .inl (MVOu w3))]) (st2 := [.int r6]) (c_X9_pagesIn _ _ _ hq5) ⟨rfl, rfl⟩ rfl k_X9_pagesIn l_X9_372 rfl rfl rfl rfl rfl (fit_of hR (by decide) (by decide) (by decide) (by decide)) (Nat.le_of_ble_eq_true rfl) (by decide) rfl rfl rfl ?_
    refine go_s 1 X (pc2 := 17) (st2 := [.int r6]) rfl ?_
    cases h
    exact r_iret X rfl rfl ⟨rfl, rfl⟩ (by decide) (by decide)
set_option maxHeartbeats 400000 in
set_option maxRecDepth 20000 in
theorem c_X9_waitingPagesOfOwner (v : MV) (a : Int32) (r : Int32) (w : MV) (h : f_X9_waitingPagesOfOwner v a = some (r, w)) : Sem z_X9_waitingPagesOfOwner 3 0 0 [.ref 0, .int a] (WM v) (PST (.inl (some (.int r))) (WM w)) := by
  refine Sem.of zo_X9_waitingPagesOfOwner (by decide +kernel) (Nat.le_of_ble_eq_true rfl) fun κ X hE hR hN => ?_
  unfold f_X9_waitingPagesOfOwner at h
  refine AW.eq (pc' := 0) (ls' := [some (.ref 0), some (.int a)]) (st' := []) (AH' := [.inr (9, [.ref 1, .ref 2, .ref 3, .ref 4, .int (MVPc v), .int (MVIs v), .int (MVTh v), .ref 5, .int (MVSl v), .ref 6, .int (MVLn v), .int (MVEc v), .int (MVEo v), .int (MVSa v), .int (MVEn v), .int (MVTk v), .int (MVVa v), .int (MVFa v), .int (MVFo v), .ref 7, .int (MVSc v), .ref 8, .ref 9, .int (MVOl v)]), .inl (0, 500, .inl (MVSt v)), .inl (0, 500, .inl (MVAs v)), .inl (0, 500, .inl (MVSv v)), .inl (0, 4000, .inl (MVPt v)), .inl (0, 6, .inl (MVSp v)), .inl (3, 600, .inl (MVBf v)), .inl (0, 150, .inl (MVSm v)), .inl (0, 40, .inl (MVOr v)), .inl (3, 240, .inl (MVOu v))]) ?_ rfl rfl rfl rfl
  refine go_s 3 X (pc2 := 3) (st2 := [.int a, .ref 0, .ref 0]) rfl ?_
  obtain ⟨r2, hq1, h⟩ := obind_inv h
  refine q_callV X [0, 1, 2, 3, 4, 5, 6, 7, 8, 9] [] (AH2 := [.inr (9, [.ref 1, .ref 2, .ref 3, .ref 4, .int (MVPc v), .int (MVIs v), .int (MVTh v), .ref 5, .int (MVSl v), .ref 6, .int (MVLn v), .int (MVEc v), .int (MVEo v), .int (MVSa v), .int (MVEn v), .int (MVTk v), .int (MVVa v), .int (MVFa v), .int (MVFo v), .ref 7, .int (MVSc v), .ref 8, .ref 9, .int (MVOl v)]), .inl (0, 500, .inl (MVSt v)), .inl (0, 500, .inl (MVAs v)), .inl (0, 500, .inl (MVSv v)), .inl (0, 4000, .inl (MVPt v)), .inl (0, 6, .inl (MVSp v)), .inl (3, 600, .inl (MVBf v)), .inl (0, 150, .inl (MVSm v)), .inl (0, 40, .inl (MVOr v)), .inl (3, 240, .inl (MVOu v))]) (st2 := [.int r2, .ref 0]) (c_X9_isOwner _ _ _ hq1) ⟨rfl, rfl⟩ rfl k_X9_isOwner l_X9_348 rfl rfl rfl rfl rfl (fit_of hR (by decide) (by decide) (by decide) (by decide)) (Nat.le_of_ble_eq_true rfl) (by decide) rfl rfl rfl ?_
  refine go_s 2 X (pc2 := 8) (st2 := [.int 1, .int 1, .int r2, .ref 0]) rfl ?_
  obtain ⟨r5, w6, hq4, h⟩ := bnd2_inv h
  refine q_callV X [0, 1, 2, 3, 4, 5, 6, 7, 8, 9] [] (AH2 := [.inr (9, [.ref 1, .ref 2, .ref 3, .ref 4, .int (MVPc w6), .int (MVIs w6), .int (MVTh w6), .ref 5, .int (MVSl w6), .ref 6, .int (MVLn w6), .int (MVEc w6), .int (MVEo w6), .int (MVSa w6), .int (MVEn w6), .int (MVTk w6), .int (MVVa w6), .int (MVFa w6), .int (MVFo w6), .ref 7, .int (MVSc w6), .ref 8, .ref 9, .int (MVOl w6)]), .inl (0, 500, .inl (MVSt w6)), .inl (0, 500, .inl (MVAs w6)), .inl (0, 500, .inl (MVSv w6)), .inl (0, 4000, .inl (MVPt w6)), .inl (0, 6, .inl (MVSp w6)), .inl (3, 600, .inl (MVBf w6)), .inl (0, 150, .inl (MVSm w6)), .inl (0, 40, .inl (MVOr w6)), .inl (3, 240, .inl (MVOu w6))]) (st2 := [.int r5]) (c_X9_check _ _ _ _ _ _ hq4) ⟨rfl, rfl⟩ rfl k_X9_check l_X9_335 rfl rfl rfl rfl rfl (fit_of hR (by decide) (by decide) (by decide) (by decide)) (Nat.le_of_ble_eq_true rfl) (by decide) rfl rfl rfl ?_
  refine r_if_eq X 23 rfl rfl (fun c7 => ?_) (fun c7 => ?_)
  · rw [if_pos c7] at h
    refine go_s 1 X (pc2 := 24) (st2 := [.int 0]) rfl ?_
    cases h
    exact r_iret X rfl rfl ⟨rfl, rfl⟩ (by decide) (by decide)
  · rw [if_neg c7] at h
    refine go_s 3 X (pc2 := 17) (st2 := [.int 0, .int a, .ref 0]) rfl ?_
    obtain ⟨r9, hq8, h⟩ := obind_inv h
    refine q_callV X [0, 1, 2, 3, 4, 5, 6, 7, 8, 9] [] (AH2 := [.inr (9, [.ref 1, .ref 2, .ref 3, .ref 4, .int (MVPc w6), .int (MVIs w6), .int (MVTh w6), .ref 5, .int (MVSl w6), .ref 6, .int (MVLn w6), .int (MVEc w6), .int (MVEo w6), .int (MVSa w6), .int (MVEn w6), .int (MVTk w6), .int (MVVa w6), .int (MVFa w6), .int (MVFo w6), .ref 7, .int (MVSc w6), .ref 8, .ref 9, .int (MVOl w6)]), .inl (0, 500, .inl (MVSt w6)), .inl (0, 500, .inl (MVAs w6)), .inl (0, 500, .inl (MVSv w6)), .inl (0, 4000, .inl (MVPt w6)), .inl (0, 6, .inl (MVSp w6)), .inl (3, 600, .inl (MVBf w6)), .inl (0, 150, .inl (MVSm w6)), .inl (0, 40, .inl (MVOr w6)), .inl (3, 240, .inl (MVOu w6))]) (st2 := [.int r9]) (c_X9_pagesOfOwner _ _ _ _ hq8) ⟨rfl, rfl⟩ rfl k_X9_pagesOfOwner l_X9_375 rfl rfl rfl rfl rfl (fit_of hR (by decide) (by decide) (by decide) (by decide)) (Nat.le_of_ble_eq_true rfl) (by decide) rfl rfl rfl ?_
    refine go_s 1 X (pc2 := 24) (st2 := [.int r9]) rfl ?_
    cases h
    exact r_iret X rfl rfl ⟨rfl, rfl⟩ (by decide) (by decide)
set_option maxHeartbeats 400000 in
set_option maxRecDepth 20000 in
theorem c_X9_write (v : MV) (a : Int32) (r : Unit) (w : MV) (h : f_X9_write v a = some (r, w)) : Sem z_X9_write 0 0 0 [.ref 0, .int a] (WM v) (PST (.inl none) (WM w)) := by
  refine Sem.of zo_X9_write (by decide +kernel) (Nat.le_of_ble_eq_true rfl) fun κ X hE hR hN => ?_
  unfold f_X9_write at h
  refine AW.eq (pc' := 0) (ls' := [some (.ref 0), some (.int a)]) (st' := []) (AH' := [.inr (9, [.ref 1, .ref 2, .ref 3, .ref 4, .int (MVPc v), .int (MVIs v), .int (MVTh v), .ref 5, .int (MVSl v), .ref 6, .int (MVLn v), .int (MVEc v), .int (MVEo v), .int (MVSa v), .int (MVEn v), .int (MVTk v), .int (MVVa v), .int (MVFa v), .int (MVFo v), .ref 7, .int (MVSc v), .ref 8, .ref 9, .int (MVOl v)]), .inl (0, 500, .inl (MVSt v)), .inl (0, 500, .inl (MVAs v)), .inl (0, 500, .inl (MVSv v)), .inl (0, 4000, .inl (MVPt v)), .inl (0, 6, .inl (MVSp v)), .inl (3, 600, .inl (MVBf v)), .inl (0, 150, .inl (MVSm v)), .inl (0, 40, .inl (MVOr v)), .inl (3, 240, .inl (MVOu v))]) ?_ rfl rfl rfl rfl
  refine go_s 6 X (pc2 := 10) (st2 := [.int (Int8.toInt32 (Int32.toInt8 a)), .int (MVOl v), .ref 9]) rfl ?_
  by_cases b1 : oob (MVOl v) 240
  · rw [if_pos b1] at h; cases h
  rw [if_neg b1] at h
  refine r_bast X rfl rfl b1 ?_
  refine go 6 X (pc2 := 21) (ls2 := [some (.ref 0), some (.int a)]) (st2 := []) (AH2 := [.inr (9, [.ref 1, .ref 2, .ref 3, .ref 4, .int (MVPc v), .int (MVIs v), .int (MVTh v), .ref 5, .int (MVSl v), .ref 6, .int (MVLn v), .int (MVEc v), .int (MVEo v), .int (MVSa v), .int (MVEn v), .int (MVTk v), .int (MVVa v), .int (MVFa v), .int (MVFo v), .ref 7, .int (MVSc v), .ref 8, .ref 9, .int ((MVOl v) + 1)]), .inl (0, 500, .inl (MVSt v)), .inl (0, 500, .inl (MVAs v)), .inl (0, 500, .inl (MVSv v)), .inl (0, 4000, .inl (MVPt v)), .inl (0, 6, .inl (MVSp v)), .inl (3, 600, .inl (MVBf v)), .inl (0, 150, .inl (MVSm v)), .inl (0, 40, .inl (MVOr v)), .inl (3, 240, .inl (upd (MVOu v) (Int32.toNatClampNeg (MVOl v)) (vp_nar .byte (Int8.toInt32 (Int32.toInt8 a)))))]) rfl ?_
  cases h
  exact r_vret X rfl rfl ⟨rfl, rfl⟩ (by decide) (by decide)
set_option maxHeartbeats 400000 in
set_option maxRecDepth 20000 in
theorem c_X9_writeNumber (v : MV) (a : Int32) (r : Unit) (w : MV) (h : f_X9_writeNumber v a = some (r, w)) : Sem z_X9_writeNumber 1 0 0 [.ref 0, .int a] (WM v) (PST (.inl none) (WM w)) := by
  refine Sem.of zo_X9_writeNumber (by decide +kernel) (Nat.le_of_ble_eq_true rfl) fun κ X hE hR hN => ?_
  unfold f_X9_writeNumber at h
  refine AW.eq (pc' := 0) (ls' := [some (.ref 0), some (.int a)]) (st' := []) (AH' := [.inr (9, [.ref 1, .ref 2, .ref 3, .ref 4, .int (MVPc v), .int (MVIs v), .int (MVTh v), .ref 5, .int (MVSl v), .ref 6, .int (MVLn v), .int (MVEc v), .int (MVEo v), .int (MVSa v), .int (MVEn v), .int (MVTk v), .int (MVVa v), .int (MVFa v), .int (MVFo v), .ref 7, .int (MVSc v), .ref 8, .ref 9, .int (MVOl v)]), .inl (0, 500, .inl (MVSt v)), .inl (0, 500, .inl (MVAs v)), .inl (0, 500, .inl (MVSv v)), .inl (0, 4000, .inl (MVPt v)), .inl (0, 6, .inl (MVSp v)), .inl (3, 600, .inl (MVBf v)), .inl (0, 150, .inl (MVSm v)), .inl (0, 40, .inl (MVOr v)), .inl (3, 240, .inl (MVOu v))]) ?_ rfl rfl rfl rfl
  refine go_s 2 X (pc2 := 3) (st2 := [.int 9, .int a]) rfl ?_
  refine r_icmp_le X 17 rfl rfl (fun c1 => ?_) (fun c1 => ?_)
  · rw [if_pos c1] at h
    refine go_s 4 X (pc2 := 23) (st2 := [.int 10, .int a, .int 48, .ref 0]) rfl ?_
    by_cases b2 : (10 : Int32) = 0
    · rw [if_pos b2] at h; cases h
    rw [if_neg b2] at h
    refine r_irem X rfl b2 ?_
    refine go_s 1 X (pc2 := 25) (st2 := [.int (48 + (a - a / 10 * 10)), .ref 0]) rfl ?_
    obtain ⟨r4, w5, hq3, h⟩ := bnd2_inv h
    refine q_callV X [0, 1, 2, 3, 4, 5, 6, 7, 8, 9] [] (AH2 := [.inr (9, [.ref 1, .ref 2, .ref 3, .ref 4, .int (MVPc w5), .int (MVIs w5), .int (MVTh w5), .ref 5, .int (MVSl w5), .ref 6, .int (MVLn w5), .int (MVEc w5), .int (MVEo w5), .int (MVSa w5), .int (MVEn w5), .int (MVTk w5), .int (MVVa w5), .int (MVFa w5), .int (MVFo w5), .ref 7, .int (MVSc w5), .ref 8, .ref 9, .int (MVOl w5)]), .inl (0, 500, .inl (MVSt w5)), .inl (0, 500, .inl (MVAs w5)), .inl (0, 500, .inl (MVSv w5)), .inl (0, 4000, .inl (MVPt w5)), .inl (0, 6, .inl (MVSp w5)), .inl (3, 600, .inl (MVBf w5)), .inl (0, 150, .inl (MVSm w5)), .inl (0, 40, .inl (MVOr w5)), .inl (3, 240, .inl (MVOu w5))]) (st2 := []) (c_X9_write _ _ _ _ hq3) ⟨rfl, rfl⟩ rfl k_X9_write l_X9_405 rfl rfl rfl rfl rfl (fit_of hR (by decide) (by decide) (by decide) (by decide)) (Nat.le_of_ble_eq_true rfl) (by decide) rfl rfl rfl ?_
    cases h
    exact r_vret X rfl rfl ⟨rfl, rfl⟩ (by decide) (by decide)
  · rw [if_neg c1] at h
    refine go_s 4 X (pc2 := 12) (st2 := [.int 10, .int a, .int 48, .ref 0]) rfl ?_
    by_cases b6 : (10 : Int32) = 0
    · rw [if_pos b6] at h; cases h
    rw [if_neg b6] at h
    refine r_idiv X rfl b6 ?_
    refine go_s 1 X (pc2 := 14) (st2 := [.int (48 + (a / 10)), .ref 0]) rfl ?_
    obtain ⟨r8, w9, hq7, h⟩ := bnd2_inv h
    refine q_callV X [0, 1, 2, 3, 4, 5, 6, 7, 8, 9] [] (AH2 := [.inr (9, [.ref 1, .ref 2, .ref 3, .ref 4, .int (MVPc w9), .int (MVIs w9), .int (MVTh w9), .ref 5, .int (MVSl w9), .ref 6, .int (MVLn w9), .int (MVEc w9), .int (MVEo w9), .int (MVSa w9), .int (MVEn w9), .int (MVTk w9), .int (MVVa w9), .int (MVFa w9), .int (MVFo w9), .ref 7, .int (MVSc w9), .ref 8, .ref 9, .int (MVOl w9)]), .inl (0, 500, .inl (MVSt w9)), .inl (0, 500, .inl (MVAs w9)), .inl (0, 500, .inl (MVSv w9)), .inl (0, 4000, .inl (MVPt w9)), .inl (0, 6, .inl (MVSp w9)), .inl (3, 600, .inl (MVBf w9)), .inl (0, 150, .inl (MVSm w9)), .inl (0, 40, .inl (MVOr w9)), .inl (3, 240, .inl (MVOu w9))]) (st2 := []) (c_X9_write _ _ _ _ hq7) ⟨rfl, rfl⟩ rfl k_X9_write l_X9_405 rfl rfl rfl rfl rfl (fit_of hR (by decide) (by decide) (by decide) (by decide)) (Nat.le_of_ble_eq_true rfl) (by decide) rfl rfl rfl ?_
    refine go_s 4 X (pc2 := 23) (st2 := [.int 10, .int a, .int 48, .ref 0]) rfl ?_
    by_cases b10 : (10 : Int32) = 0
    · rw [if_pos b10] at h; cases h
    rw [if_neg b10] at h
    refine r_irem X rfl b10 ?_
    refine go_s 1 X (pc2 := 25) (st2 := [.int (48 + (a - a / 10 * 10)), .ref 0]) rfl ?_
    obtain ⟨r12, w13, hq11, h⟩ := bnd2_inv h
    refine q_callV X [0, 1, 2, 3, 4, 5, 6, 7, 8, 9] [] (AH2 := [.inr (9, [.ref 1, .ref 2, .ref 3, .ref 4, .int (MVPc w13), .int (MVIs w13), .int (MVTh w13), .ref 5, .int (MVSl w13), .ref 6, .int (MVLn w13), .int (MVEc w13), .int (MVEo w13), .int (MVSa w13), .int (MVEn w13), .int (MVTk w13), .int (MVVa w13), .int (MVFa w13), .int (MVFo w13), .ref 7, .int (MVSc w13), .ref 8, .ref 9, .int (MVOl w13)]), .inl (0, 500, .inl (MVSt w13)), .inl (0, 500, .inl (MVAs w13)), .inl (0, 500, .inl (MVSv w13)), .inl (0, 4000, .inl (MVPt w13)), .inl (0, 6, .inl (MVSp w13)), .inl (3, 600, .inl (MVBf w13)), .inl (0, 150, .inl (MVSm w13)), .inl (0, 40, .inl (MVOr w13)), .inl (3, 240, .inl (MVOu w13))]) (st2 := []) (c_X9_write _ _ _ _ hq11) ⟨rfl, rfl⟩ rfl k_X9_write l_X9_405 rfl rfl rfl rfl rfl (fit_of hR (by decide) (by decide) (by decide) (by decide)) (Nat.le_of_ble_eq_true rfl) (by decide) rfl rfl rfl ?_
    cases h
    exact r_vret X rfl rfl ⟨rfl, rfl⟩ (by decide) (by decide)
set_option maxHeartbeats 400000 in
set_option maxRecDepth 20000 in
theorem c_X9_writeFrom : ∀ (n : Nat) (v : MV) (a : Int32) (r : Unit) (w : MV) (h : f_X9_writeFrom n v a = some (r, w)), Sem z_X9_writeFrom (n + 2) 0 0 [.ref 0, .int a] (WM v) (PST (.inl none) (WM w)) := by
  intro n
  induction n with
  | zero =>
    intro v a r w h
    unfold f_X9_writeFrom at h
    cases h
  | succ n ih =>
    intro v a r w h
    refine Sem.of zo_X9_writeFrom (by decide +kernel) (Nat.le_of_ble_eq_true rfl) fun κ X hE hR hN => ?_
    unfold f_X9_writeFrom at h
    refine AW.eq (pc' := 0) (ls' := [some (.ref 0), some (.int a)]) (st' := []) (AH' := [.inr (9, [.ref 1, .ref 2, .ref 3, .ref 4, .int (MVPc v), .int (MVIs v), .int (MVTh v), .ref 5, .int (MVSl v), .ref 6, .int (MVLn v), .int (MVEc v), .int (MVEo v), .int (MVSa v), .int (MVEn v), .int (MVTk v), .int (MVVa v), .int (MVFa v), .int (MVFo v), .ref 7, .int (MVSc v), .ref 8, .ref 9, .int (MVOl v)]), .inl (0, 500, .inl (MVSt v)), .inl (0, 500, .inl (MVAs v)), .inl (0, 500, .inl (MVSv v)), .inl (0, 4000, .inl (MVPt v)), .inl (0, 6, .inl (MVSp v)), .inl (3, 600, .inl (MVBf v)), .inl (0, 150, .inl (MVSm v)), .inl (0, 40, .inl (MVOr v)), .inl (3, 240, .inl (MVOu v))]) ?_ rfl rfl rfl rfl
    refine go_s 2 X (pc2 := 2) (st2 := [.int (-1), .int a]) rfl ?_
    refine r_icmp_ne X 6 rfl rfl (fun c1 => ?_) (fun c1 => ?_)
    · rw [if_neg c1] at h
      refine go_s 2 X (pc2 := 8) (st2 := [.int a, .ref 0]) rfl ?_
      obtain ⟨r3, w4, hq2, h⟩ := bnd2_inv h
      refine q_callV X [0, 1, 2, 3, 4, 5, 6, 7, 8, 9] [] (AH2 := [.inr (9, [.ref 1, .ref 2, .ref 3, .ref 4, .int (MVPc w4), .int (MVIs w4), .int (MVTh w4), .ref 5, .int (MVSl w4), .ref 6, .int (MVLn w4), .int (MVEc w4), .int (MVEo w4), .int (MVSa w4), .int (MVEn w4), .int (MVTk w4), .int (MVVa w4), .int (MVFa w4), .int (MVFo w4), .ref 7, .int (MVSc w4), .ref 8, .ref 9, .int (MVOl w4)]), .inl (0, 500, .inl (MVSt w4)), .inl (0, 500, .inl (MVAs w4)), .inl (0, 500, .inl (MVSv w4)), .inl (0, 4000, .inl (MVPt w4)), .inl (0, 6, .inl (MVSp w4)), .inl (3, 600, .inl (MVBf w4)), .inl (0, 150, .inl (MVSm w4)), .inl (0, 40, .inl (MVOr w4)), .inl (3, 240, .inl (MVOu w4))]) (st2 := []) (c_X9_writeNumber _ _ _ _ hq2) ⟨rfl, rfl⟩ rfl k_X9_writeNumber l_X9_408 rfl rfl rfl rfl rfl (fit_of hR (by omega) (by decide) (by decide) (by decide)) (Nat.le_of_ble_eq_true rfl) (by decide) rfl rfl rfl ?_
      refine go_s 3 X (pc2 := 14) (st2 := [.int 5, .int a, .ref 0]) rfl ?_
      obtain ⟨r6, hq5, h⟩ := obind_inv h
      refine q_callV X [0, 1, 2, 3, 4, 5, 6, 7, 8, 9] [] (AH2 := [.inr (9, [.ref 1, .ref 2, .ref 3, .ref 4, .int (MVPc w4), .int (MVIs w4), .int (MVTh w4), .ref 5, .int (MVSl w4), .ref 6, .int (MVLn w4), .int (MVEc w4), .int (MVEo w4), .int (MVSa w4), .int (MVEn w4), .int (MVTk w4), .int (MVVa w4), .int (MVFa w4), .int (MVFo w4), .ref 7, .int (MVSc w4), .ref 8, .ref 9, .int (MVOl w4)]), .inl (0, 500, .inl (MVSt w4)), .inl (0, 500, .inl (MVAs w4)), .inl (0, 500, .inl (MVSv w4)), .inl (0, 4000, .inl (MVPt w4)), .inl (0, 6, .inl (MVSp w4)), .inl (3, 600, .inl (MVBf w4)), .inl (0, 150, .inl (MVSm w4)), .inl (0, 40, .inl (MVOr w4)), .inl (3, 240, .inl (MVOu w4))]) (st2 := [.int r6]) (c_X9_get _ _ _ _ hq5) ⟨rfl, rfl⟩ rfl k_X9_get l_X9_90 rfl rfl rfl rfl rfl (fit_of hR (by omega) (by decide) (by decide) (by decide)) (Nat.le_of_ble_eq_true rfl) (by decide) rfl rfl rfl ?_
      refine go_s 1 X (pc2 := 18) (st2 := [.int (-1), .int r6]) rfl ?_
      refine r_icmp_ne X 22 rfl rfl (fun c8 => ?_) (fun c8 => ?_)
      · rw [if_neg c8] at h
        refine go_s 2 X (pc2 := 25) (st2 := [.int 40, .ref 0]) rfl ?_
        obtain ⟨r10, w11, hq9, h⟩ := bnd2_inv h
        refine q_callV X [0, 1, 2, 3, 4, 5, 6, 7, 8, 9] [] (AH2 := [.inr (9, [.ref 1, .ref 2, .ref 3, .ref 4, .int (MVPc w11), .int (MVIs w11), .int (MVTh w11), .ref 5, .int (MVSl w11), .ref 6, .int (MVLn w11), .int (MVEc w11), .int (MVEo w11), .int (MVSa w11), .int (MVEn w11), .int (MVTk w11), .int (MVVa w11), .int (MVFa w11), .int (MVFo w11), .ref 7, .int (MVSc w11), .ref 8, .ref 9, .int (MVOl w11)]), .inl (0, 500, .inl (MVSt w11)), .inl (0, 500, .inl (MVAs w11)), .inl (0, 500, .inl (MVSv w11)), .inl (0, 4000, .inl (MVPt w11)), .inl (0, 6, .inl (MVSp w11)), .inl (3, 600, .inl (MVBf w11)), .inl (0, 150, .inl (MVSm w11)), .inl (0, 40, .inl (MVOr w11)), .inl (3, 240, .inl (MVOu w11))]) (st2 := []) (c_X9_write _ _ _ _ hq9) ⟨rfl, rfl⟩ rfl k_X9_write l_X9_405 rfl rfl rfl rfl rfl (fit_of hR (by omega) (by decide) (by decide) (by decide)) (Nat.le_of_ble_eq_true rfl) (by decide) rfl rfl rfl ?_
        refine go_s 4 X (pc2 := 32) (st2 := [.int 5, .int a, .ref 0, .ref 0]) rfl ?_
        obtain ⟨r13, hq12, h⟩ := obind_inv h
        refine q_callV X [0, 1, 2, 3, 4, 5, 6, 7, 8, 9] [] (AH2 := [.inr (9, [.ref 1, .ref 2, .ref 3, .ref 4, .int (MVPc w11), .int (MVIs w11), .int (MVTh w11), .ref 5, .int (MVSl w11), .ref 6, .int (MVLn w11), .int (MVEc w11), .int (MVEo w11), .int (MVSa w11), .int (MVEn w11), .int (MVTk w11), .int (MVVa w11), .int (MVFa w11), .int (MVFo w11), .ref 7, .int (MVSc w11), .ref 8, .ref 9, .int (MVOl w11)]), .inl (0, 500, .inl (MVSt w11)), .inl (0, 500, .inl (MVAs w11)), .inl (0, 500, .inl (MVSv w11)), .inl (0, 4000, .inl (MVPt w11)), .inl (0, 6, .inl (MVSp w11)), .inl (3, 600, .inl (MVBf w11)), .inl (0, 150, .inl (MVSm w11)), .inl (0, 40, .inl (MVOr w11)), .inl (3, 240, .inl (MVOu w11))]) (st2 := [.int r13, .ref 0]) (c_X9_get _ _ _ _ hq12) ⟨rfl, rfl⟩ rfl k_X9_get l_X9_90 rfl rfl rfl rfl rfl (fit_of hR (by omega) (by decide) (by decide) (by decide)) (Nat.le_of_ble_eq_true rfl) (by decide) rfl rfl rfl ?_
        obtain ⟨r16, w17, hq15, h⟩ := bnd2_inv h
        refine q_callV X [0, 1, 2, 3, 4, 5, 6, 7, 8, 9] [] (AH2 := [.inr (9, [.ref 1, .ref 2, .ref 3, .ref 4, .int (MVPc w17), .int (MVIs w17), .int (MVTh w17), .ref 5, .int (MVSl w17), .ref 6, .int (MVLn w17), .int (MVEc w17), .int (MVEo w17), .int (MVSa w17), .int (MVEn w17), .int (MVTk w17), .int (MVVa w17), .int (MVFa w17), .int (MVFo w17), .ref 7, .int (MVSc w17), .ref 8, .ref 9, .int (MVOl w17)]), .inl (0, 500, .inl (MVSt w17)), .inl (0, 500, .inl (MVAs w17)), .inl (0, 500, .inl (MVSv w17)), .inl (0, 4000, .inl (MVPt w17)), .inl (0, 6, .inl (MVSp w17)), .inl (3, 600, .inl (MVBf w17)), .inl (0, 150, .inl (MVSm w17)), .inl (0, 40, .inl (MVOr w17)), .inl (3, 240, .inl (MVOu w17))]) (st2 := []) (ih _ _ _ _ hq15) ⟨rfl, rfl⟩ rfl k_X9_writeFrom l_X9_411 rfl rfl rfl rfl rfl (fit_of hR (by omega) (by decide) (by decide) (by decide)) (Nat.le_of_ble_eq_true rfl) (by decide) rfl rfl rfl ?_
        refine go_s 2 X (pc2 := 41) (st2 := [.int 44, .ref 0]) rfl ?_
        obtain ⟨r19, w20, hq18, h⟩ := bnd2_inv h
        refine q_callV X [0, 1, 2, 3, 4, 5, 6, 7, 8, 9] [] (AH2 := [.inr (9, [.ref 1, .ref 2, .ref 3, .ref 4, .int (MVPc w20), .int (MVIs w20), .int (MVTh w20), .ref 5, .int (MVSl w20), .ref 6, .int (MVLn w20), .int (MVEc w20), .int (MVEo w20), .int (MVSa w20), .int (MVEn w20), .int (MVTk w20), .int (MVVa w20), .int (MVFa w20), .int (MVFo w20), .ref 7, .int (MVSc w20), .ref 8, .ref 9, .int (MVOl w20)]), .inl (0, 500, .inl (MVSt w20)), .inl (0, 500, .inl (MVAs w20)), .inl (0, 500, .inl (MVSv w20)), .inl (0, 4000, .inl (MVPt w20)), .inl (0, 6, .inl (MVSp w20)), .inl (3, 600, .inl (MVBf w20)), .inl (0, 150, .inl (MVSm w20)), .inl (0, 40, .inl (MVOr w20)), .inl (3, 240, .inl (MVOu w20))]) (st2 := []) (c_X9_write _ _ _ _ hq18) ⟨rfl, rfl⟩ rfl k_X9_write l_X9_405 rfl rfl rfl rfl rfl (fit_of hR (by omega) (by decide) (by decide) (by decide)) (Nat.le_of_ble_eq_true rfl) (by decide) rfl rfl rfl ?_
        refine go_s 4 X (pc2 := 49) (st2 := [.int 6, .int a, .ref 0, .ref 0]) rfl ?_
        obtain ⟨r22, hq21, h⟩ := obind_inv h
        refine q_callV X [0, 1, 2, 3, 4, 5, 6, 7, 8, 9] [] (AH2 := [.inr (9, [.ref 1, .ref 2, .ref 3, .ref 4, .int (MVPc w20), .int (MVIs w20), .int (MVTh w20), .ref 5, .int (MVSl w20), .ref 6, .int (MVLn w20), .int (MVEc w20), .int (MVEo w20), .int (MVSa w20), .int (MVEn w20), .int (MVTk w20), .int (MVVa w20), .int (MVFa w20), .int (MVFo w20), .ref 7, .int (MVSc w20), .ref 8, .ref 9, .int (MVOl w20)]), .inl (0, 500, .inl (MVSt w20)), .inl (0, 500, .inl (MVAs w20)), .inl (0, 500, .inl (MVSv w20)), .inl (0, 4000, .inl (MVPt w20)), .inl (0, 6, .inl (MVSp w20)), .inl (3, 600, .inl (MVBf w20)), .inl (0, 150, .inl (MVSm w20)), .inl (0, 40, .inl (MVOr w20)), .inl (3, 240, .inl (MVOu w20))]) (st2 := [.int r22, .ref 0]) (c_X9_get _ _ _ _ hq21) ⟨rfl, rfl⟩ rfl k_X9_get l_X9_90 rfl rfl rfl rfl rfl (fit_of hR (by omega) (by decide) (by decide) (by decide)) (Nat.le_of_ble_eq_true rfl) (by decide) rfl rfl rfl ?_
        obtain ⟨r25, w26, hq24, h⟩ := bnd2_inv h
        refine q_callV X [0, 1, 2, 3, 4, 5, 6, 7, 8, 9] [] (AH2 := [.inr (9, [.ref 1, .ref 2, .ref 3, .ref 4, .int (MVPc w26), .int (MVIs w26), .int (MVTh w26), .ref 5, .int (MVSl w26), .ref 6, .int (MVLn w26), .int (MVEc w26), .int (MVEo w26), .int (MVSa w26), .int (MVEn w26), .int (MVTk w26), .int (MVVa w26), .int (MVFa w26), .int (MVFo w26), .ref 7, .int (MVSc w26), .ref 8, .ref 9, .int (MVOl w26)]), .inl (0, 500, .inl (MVSt w26)), .inl (0, 500, .inl (MVAs w26)), .inl (0, 500, .inl (MVSv w26)), .inl (0, 4000, .inl (MVPt w26)), .inl (0, 6, .inl (MVSp w26)), .inl (3, 600, .inl (MVBf w26)), .inl (0, 150, .inl (MVSm w26)), .inl (0, 40, .inl (MVOr w26)), .inl (3, 240, .inl (MVOu w26))]) (st2 := []) (ih _ _ _ _ hq24) ⟨rfl, rfl⟩ rfl k_X9_writeFrom l_X9_411 rfl rfl rfl rfl rfl (fit_of hR (by omega) (by decide) (by decide) (by decide)) (Nat.le_of_ble_eq_true rfl) (by decide) rfl rfl rfl ?_
        refine go_s 2 X (pc2 := 58) (st2 := [.int 41, .ref 0]) rfl ?_
        obtain ⟨r28, w29, hq27, h⟩ := bnd2_inv h
        refine q_callV X [0, 1, 2, 3, 4, 5, 6, 7, 8, 9] [] (AH2 := [.inr (9, [.ref 1, .ref 2, .ref 3, .ref 4, .int (MVPc w29), .int (MVIs w29), .int (MVTh w29), .ref 5, .int (MVSl w29), .ref 6, .int (MVLn w29), .int (MVEc w29), .int (MVEo w29), .int (MVSa w29), .int (MVEn w29), .int (MVTk w29), .int (MVVa w29), .int (MVFa w29), .int (MVFo w29), .ref 7, .int (MVSc w29), .ref 8, .ref 9, .int (MVOl w29)]), .inl (0, 500, .inl (MVSt w29)), .inl (0, 500, .inl (MVAs w29)), .inl (0, 500, .inl (MVSv w29)), .inl (0, 4000, .inl (MVPt w29)), .inl (0, 6, .inl (MVSp w29)), .inl (3, 600, .inl (MVBf w29)), .inl (0, 150, .inl (MVSm w29)), .inl (0, 40, .inl (MVOr w29)), .inl (3, 240, .inl (MVOu w29))]) (st2 := []) (c_X9_write _ _ _ _ hq27) ⟨rfl, rfl⟩ rfl k_X9_write l_X9_405 rfl rfl rfl rfl rfl (fit_of hR (by omega) (by decide) (by decide) (by decide)) (Nat.le_of_ble_eq_true rfl) (by decide) rfl rfl rfl ?_
        cases h
        exact r_vret X rfl rfl ⟨rfl, rfl⟩ (by decide) (by decide)
      · rw [if_pos c8] at h
        cases h
        exact r_vret X rfl rfl ⟨rfl, rfl⟩ (by decide) (by decide)
    · rw [if_pos c1] at h
      cases h
      exact r_vret X rfl rfl ⟨rfl, rfl⟩ (by decide) (by decide)
set_option maxHeartbeats 400000 in
set_option maxRecDepth 20000 in
theorem c_X9_writeHeap (v : MV) (a : Int32) (r : Int32) (w : MV) (h : f_X9_writeHeap v a = some (r, w)) : Sem z_X9_writeHeap 53 0 0 [.ref 0, .int a] (WM v) (PST (.inl (some (.int r))) (WM w)) := by
  refine Sem.of zo_X9_writeHeap (by decide +kernel) (Nat.le_of_ble_eq_true rfl) fun κ X hE hR hN => ?_
  unfold f_X9_writeHeap at h
  refine AW.eq (pc' := 0) (ls' := [some (.ref 0), some (.int a)]) (st' := []) (AH' := [.inr (9, [.ref 1, .ref 2, .ref 3, .ref 4, .int (MVPc v), .int (MVIs v), .int (MVTh v), .ref 5, .int (MVSl v), .ref 6, .int (MVLn v), .int (MVEc v), .int (MVEo v), .int (MVSa v), .int (MVEn v), .int (MVTk v), .int (MVVa v), .int (MVFa v), .int (MVFo v), .ref 7, .int (MVSc v), .ref 8, .ref 9, .int (MVOl v)]), .inl (0, 500, .inl (MVSt v)), .inl (0, 500, .inl (MVAs v)), .inl (0, 500, .inl (MVSv v)), .inl (0, 4000, .inl (MVPt v)), .inl (0, 6, .inl (MVSp v)), .inl (3, 600, .inl (MVBf v)), .inl (0, 150, .inl (MVSm v)), .inl (0, 40, .inl (MVOr v)), .inl (3, 240, .inl (MVOu v))]) ?_ rfl rfl rfl rfl
  refine go_s 2 X (pc2 := 2) (st2 := [.int a, .ref 0]) rfl ?_
  obtain ⟨r2, w3, hq1, h⟩ := bnd2_inv h
  refine q_callV X [0, 1, 2, 3, 4, 5, 6, 7, 8, 9] [] (AH2 := [.inr (9, [.ref 1, .ref 2, .ref 3, .ref 4, .int (MVPc w3), .int (MVIs w3), .int (MVTh w3), .ref 5, .int (MVSl w3), .ref 6, .int (MVLn w3), .int (MVEc w3), .int (MVEo w3), .int (MVSa w3), .int (MVEn w3), .int (MVTk w3), .int (MVVa w3), .int (MVFa w3), .int (MVFo w3), .ref 7, .int (MVSc w3), .ref 8, .ref 9, .int (MVOl w3)]), .inl (0, 500, .inl (MVSt w3)), .inl (0, 500, .inl (MVAs w3)), .inl (0, 500, .inl (MVSv w3)), .inl (0, 4000, .inl (MVPt w3)), .inl (0, 6, .inl (MVSp w3)), .inl (3, 600, .inl (MVBf w3)), .inl (0, 150, .inl (MVSm w3)), .inl (0, 40, .inl (MVOr w3)), .inl (3, 240, .inl (MVOu w3))]) (st2 := [.int r2]) (c_X9_checkQueue _ _ _ _ hq1) ⟨rfl, rfl⟩ rfl k_X9_checkQueue l_X9_342 rfl rfl rfl rfl rfl (fit_of hR (by decide) (by decide) (by decide) (by decide)) (Nat.le_of_ble_eq_true rfl) (by decide) rfl rfl rfl ?_
  refine r_if_ne X 10 rfl rfl (fun c4 => ?_) (fun c4 => ?_)
  · rw [if_neg c4] at h
    refine go 6 X (pc2 := 18) (ls2 := [some (.ref 0), some (.int a)]) (st2 := [.int a, .ref 0, .ref 0]) (AH2 := [.inr (9, [.ref 1, .ref 2, .ref 3, .ref 4, .int (MVPc w3), .int (MVIs w3), .int (MVTh w3), .ref 5, .int (MVSl w3), .ref 6, .int (MVLn w3), .int (MVEc w3), .int (MVEo w3), .int (MVSa w3), .int (MVEn w3), .int (MVTk w3), .int (MVVa w3), .int (MVFa w3), .int (MVFo w3), .ref 7, .int (MVSc w3), .ref 8, .ref 9, .int 0]), .inl (0, 500, .inl (MVSt w3)), .inl (0, 500, .inl (MVAs w3)), .inl (0, 500, .inl (MVSv w3)), .inl (0, 4000, .inl (MVPt w3)), .inl (0, 6, .inl (MVSp w3)), .inl (3, 600, .inl (MVBf w3)), .inl (0, 150, .inl (MVSm w3)), .inl (0, 40, .inl (MVOr w3)), .inl (3, 240, .inl (MVOu w3))]) rfl ?_
    obtain ⟨r6, hq5, h⟩ := obind_inv h
    refine q_callV X [0, 1, 2, 3, 4, 5, 6, 7, 8, 9] [] (AH2 := [.inr (9, [.ref 1, .ref 2, .ref 3, .ref 4, .int (MVPc w3), .int (MVIs w3), .int (MVTh w3), .ref 5, .int (MVSl w3), .ref 6, .int (MVLn w3), .int (MVEc w3), .int (MVEo w3), .int (MVSa w3), .int (MVEn w3), .int (MVTk w3), .int (MVVa w3), .int (MVFa w3), .int (MVFo w3), .ref 7, .int (MVSc w3), .ref 8, .ref 9, .int 0]), .inl (0, 500, .inl (MVSt w3)), .inl (0, 500, .inl (MVAs w3)), .inl (0, 500, .inl (MVSv w3)), .inl (0, 4000, .inl (MVPt w3)), .inl (0, 6, .inl (MVSp w3)), .inl (3, 600, .inl (MVBf w3)), .inl (0, 150, .inl (MVSm w3)), .inl (0, 40, .inl (MVOr w3)), .inl (3, 240, .inl (MVOu w3))]) (st2 := [.int r6, .ref 0]) (c_X9_rootOf _ _ _ hq5) ⟨rfl, rfl⟩ rfl k_X9_rootOf l_X9_117 rfl rfl rfl rfl rfl (fit_of hR (by decide) (by decide) (by decide) (by decide)) (Nat.le_of_ble_eq_true rfl) (by decide) rfl rfl rfl ?_
    obtain ⟨r9, w10, hq8, h⟩ := bnd2_inv h
    refine q_callV X [0, 1, 2, 3, 4, 5, 6, 7, 8, 9] [] (AH2 := [.inr (9, [.ref 1, .ref 2, .ref 3, .ref 4, .int (MVPc w10), .int (MVIs w10), .int (MVTh w10), .ref 5, .int (MVSl w10), .ref 6, .int (MVLn w10), .int (MVEc w10), .int (MVEo w10), .int (MVSa w10), .int (MVEn w10), .int (MVTk w10), .int (MVVa w10), .int (MVFa w10), .int (MVFo w10), .ref 7, .int (MVSc w10), .ref 8, .ref 9, .int (MVOl w10)]), .inl (0, 500, .inl (MVSt w10)), .inl (0, 500, .inl (MVAs w10)), .inl (0, 500, .inl (MVSv w10)), .inl (0, 4000, .inl (MVPt w10)), .inl (0, 6, .inl (MVSp w10)), .inl (3, 600, .inl (MVBf w10)), .inl (0, 150, .inl (MVSm w10)), .inl (0, 40, .inl (MVOr w10)), .inl (3, 240, .inl (MVOu w10))]) (st2 := []) (c_X9_writeFrom 50 _ _ _ _ hq8) ⟨rfl, rfl⟩ rfl k_X9_writeFrom l_X9_411 rfl rfl rfl rfl rfl (fit_of hR (by decide) (by decide) (by decide) (by decide)) (Nat.le_of_ble_eq_true rfl) (by decide) rfl rfl rfl ?_
    refine go_s 2 X (pc2 := 28) (st2 := [.int (MVOl w10)]) rfl ?_
    cases h
    exact r_iret X rfl rfl ⟨rfl, rfl⟩ (by decide) (by decide)
  · rw [if_pos c4] at h
    refine go_s 1 X (pc2 := 9) (st2 := [.int 0]) rfl ?_
    cases h
    exact r_iret X rfl rfl ⟨rfl, rfl⟩ (by decide) (by decide)
