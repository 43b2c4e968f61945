/-! ===== 15ef: contracts, by program ===== -/
set_option maxHeartbeats 400000 in
set_option maxRecDepth 20000 in
theorem a_X9_parseNumber_j14 {κ : KX} (X : CX κ z_X9_parseNumber) (hR : κR κ = rmM 3 0 0) : ∀ (l1 : Int32) (l2 : Int32) (s0 : Int32) (v : MV) (r : Int32) (w : MV) (h : f_X9_parseNumber_j14 l1 l2 s0 v = some (r, w)), AW κ (QM κ (PST (.inl (some (.int r))) (WM w)) 0 0) 14 [some (.ref 0), some (.int l1), some (.int l2), none] [.int s0, .ref 0] (WM v) 0 0 := by
  intro l1 l2 s0 v r w h
  unfold f_X9_parseNumber_j14 at h
  refine AW.eq (pc' := 14) (ls' := [some (.ref 0), some (.int l1), some (.int l2), none]) (st' := [.int s0, .ref 0]) (AH' := [.inr (9, [.ref 1, .ref 2, .ref 3, .ref 4, .int (MVPc v), .int (MVIs v), .int (MVTh v), .ref 5, .int (MVSl v), .ref 6, .int (MVLn v), .int (MVEc v), .int (MVEo v), .int (MVSa v), .int (MVEn v), .int (MVTk v), .int (MVVa v), .int (MVFa v), .int (MVFo v), .ref 7, .int (MVSc v), .ref 8, .ref 9, .int (MVOl v)]), .inl (0, 500, .inl (MVSt v)), .inl (0, 500, .inl (MVAs v)), .inl (0, 500, .inl (MVSv v)), .inl (0, 4000, .inl (MVPt v)), .inl (0, 6, .inl (MVSp v)), .inl (3, 600, .inl (MVBf v)), .inl (0, 150, .inl (MVSm v)), .inl (0, 40, .inl (MVOr v)), .inl (3, 240, .inl (MVOu v))]) ?_ rfl rfl rfl rfl
  refine go_s 1 X (pc2 := 15) (st2 := [.int 1, .int s0, .ref 0]) rfl ?_
  obtain ⟨r3, w4, hq2, h⟩ := bnd2_inv h
  refine q_callV X [0, 1, 2, 3, 4, 5, 6, 7, 8, 9] [] (AH2 := [.inr (9, [.ref 1, .ref 2, .ref 3, .ref 4, .int (MVPc w4), .int (MVIs w4), .int (MVTh w4), .ref 5, .int (MVSl w4), .ref 6, .int (MVLn w4), .int (MVEc w4), .int (MVEo w4), .int (MVSa w4), .int (MVEn w4), .int (MVTk w4), .int (MVVa w4), .int (MVFa w4), .int (MVFo w4), .ref 7, .int (MVSc w4), .ref 8, .ref 9, .int (MVOl w4)]), .inl (0, 500, .inl (MVSt w4)), .inl (0, 500, .inl (MVAs w4)), .inl (0, 500, .inl (MVSv w4)), .inl (0, 4000, .inl (MVPt w4)), .inl (0, 6, .inl (MVSp w4)), .inl (3, 600, .inl (MVBf w4)), .inl (0, 150, .inl (MVSm w4)), .inl (0, 40, .inl (MVOr w4)), .inl (3, 240, .inl (MVOu w4))]) (st2 := []) (c_X9_expect _ _ _ _ _ hq2) ⟨rfl, rfl⟩ rfl k_X9_expect l_X9_197 rfl rfl rfl rfl rfl (fit_of hR (by decide) (by decide) (by decide) (by decide)) (Nat.le_of_ble_eq_true rfl) (by decide) rfl rfl rfl ?_
  refine go_s 8 X (pc2 := 28) (st2 := [.long (Int32.toInt64 l2), .long (Int32.toInt64 l1), .long (Int32.toInt64 (MVVa w4)), .ref 0]) rfl ?_
  obtain ⟨r6, hq5, h⟩ := obind_inv h
  refine q_callS X [] [] (AH2 := [.inr (9, [.ref 1, .ref 2, .ref 3, .ref 4, .int (MVPc w4), .int (MVIs w4), .int (MVTh w4), .ref 5, .int (MVSl w4), .ref 6, .int (MVLn w4), .int (MVEc w4), .int (MVEo w4), .int (MVSa w4), .int (MVEn w4), .int (MVTk w4), .int (MVVa w4), .int (MVFa w4), .int (MVFo w4), .ref 7, .int (MVSc w4), .ref 8, .ref 9, .int (MVOl w4)]), .inl (0, 500, .inl (MVSt w4)), .inl (0, 500, .inl (MVAs w4)), .inl (0, 500, .inl (MVSv w4)), .inl (0, 4000, .inl (MVPt w4)), .inl (0, 6, .inl (MVSp w4)), .inl (3, 600, .inl (MVBf w4)), .inl (0, 150, .inl (MVSm w4)), .inl (0, 40, .inl (MVOr w4)), .inl (3, 240, .inl (MVOu w4))]) (st2 := [.int r6, .ref 0]) (c_X9_isWithin _ _ _ _ hq5) ⟨rfl, rfl⟩ rfl k_X9_isWithin l_X9_152 rfl rfl (fit_of hR (by decide) (by decide) (by decide) (by decide)) (Nat.le_of_ble_eq_true rfl) (by decide) rfl rfl rfl ?_
  refine go_s 1 X (pc2 := 32) (st2 := [.int 2, .int r6, .ref 0]) rfl ?_
  obtain ⟨r9, w10, hq8, h⟩ := bnd2_inv h
  refine q_callV X [0, 1, 2, 3, 4, 5, 6, 7, 8, 9] [] (AH2 := [.inr (9, [.ref 1, .ref 2, .ref 3, .ref 4, .int (MVPc w10), .int (MVIs w10), .int (MVTh w10), .ref 5, .int (MVSl w10), .ref 6, .int (MVLn w10), .int (MVEc w10), .int (MVEo w10), .int (MVSa w10), .int (MVEn w10), .int (MVTk w10), .int (MVVa w10), .int (MVFa w10), .int (MVFo w10), .ref 7, .int (MVSc w10), .ref 8, .ref 9, .int (MVOl w10)]), .inl (0, 500, .inl (MVSt w10)), .inl (0, 500, .inl (MVAs w10)), .inl (0, 500, .inl (MVSv w10)), .inl (0, 4000, .inl (MVPt w10)), .inl (0, 6, .inl (MVSp w10)), .inl (3, 600, .inl (MVBf w10)), .inl (0, 150, .inl (MVSm w10)), .inl (0, 40, .inl (MVOr w10)), .inl (3, 240, .inl (MVOu w10))]) (st2 := []) (c_X9_expect _ _ _ _ _ hq8) ⟨rfl, rfl⟩ rfl k_X9_expect l_X9_197 rfl rfl rfl rfl rfl (fit_of hR (by decide) (by decide) (by decide) (by decide)) (Nat.le_of_ble_eq_true rfl) (by decide) rfl rfl rfl ?_
  refine go_s 2 X (pc2 := 39) (st2 := [.int (MVFa w10)]) rfl ?_
  refine r_if_ne X 49 rfl rfl (fun c11 => ?_) (fun c11 => ?_)
  · rw [if_neg c11] at h
    refine go_s 1 X (pc2 := 50) (st2 := [.int l1]) rfl ?_
    refine AW.forget (ls' := [some (.ref 0), none, none, none]) rfl (subL_of ⟨rfl, trivial⟩) ?_
    exact AW.eq (a_X9_parseNumber_j50 X hR _ _ _ _ h) rfl rfl rfl rfl
  · rw [if_pos c11] at h
    refine go_s 3 X (pc2 := 50) (st2 := [.int (MVVa w10)]) rfl ?_
    refine AW.forget (ls' := [some (.ref 0), none, none, none]) rfl (subL_of ⟨rfl, trivial⟩) ?_
    exact AW.eq (a_X9_parseNumber_j50 X hR _ _ _ _ h) rfl rfl rfl rfl
set_option maxHeartbeats 400000 in
set_option maxRecDepth 20000 in
theorem c_X9_parseNumber (v : MV) (a : Int32) (b : Int32) (r : Int32) (w : MV) (h : f_X9_parseNumber v a b = some (r, w)) : Sem z_X9_parseNumber 3 0 0 [.ref 0, .int a, .int b] (WM v) (PST (.inl (some (.int r))) (WM w)) := by
  refine Sem.of zo_X9_parseNumber (by decide +kernel) (Nat.le_of_ble_eq_true rfl) fun κ X hE hR hN => ?_
  unfold f_X9_parseNumber at h
  refine AW.eq (pc' := 0) (ls' := [some (.ref 0), some (.int a), some (.int b), none]) (st' := []) (AH' := [.inr (9, [.ref 1, .ref 2, .ref 3, .ref 4, .int (MVPc v), .int (MVIs v), .int (MVTh v), .ref 5, .int (MVSl v), .ref 6, .int (MVLn v), .int (MVEc v), .int (MVEo v), .int (MVSa v), .int (MVEn v), .int (MVTk v), .int (MVVa v), .int (MVFa v), .int (MVFo v), .ref 7, .int (MVSc v), .ref 8, .ref 9, .int (MVOl v)]), .inl (0, 500, .inl (MVSt v)), .inl (0, 500, .inl (MVAs v)), .inl (0, 500, .inl (MVSv v)), .inl (0, 4000, .inl (MVPt v)), .inl (0, 6, .inl (MVSp v)), .inl (3, 600, .inl (MVBf v)), .inl (0, 150, .inl (MVSm v)), .inl (0, 40, .inl (MVOr v)), .inl (3, 240, .inl (MVOu v))]) ?_ rfl rfl rfl rfl
  refine go_s 4 X (pc2 := 6) (st2 := [.int 2, .int (MVTk v), .ref 0]) rfl ?_
  refine r_icmp_ne X 13 rfl rfl (fun c1 => ?_) (fun c1 => ?_)
  · rw [if_neg c1] at h
    refine go_s 1 X (pc2 := 14) (st2 := [.int 0, .ref 0]) rfl ?_
    exact AW.eq (a_X9_parseNumber_j14 X hR _ _ _ _ _ _ h) rfl rfl rfl rfl
  · rw [if_pos c1] at h
    refine go_s 2 X (pc2 := 14) (st2 := [.int 1, .ref 0]) rfl ?_
    exact AW.eq (a_X9_parseNumber_j14 X hR _ _ _ _ _ _ h) rfl rfl rfl rfl
set_option maxHeartbeats 400000 in
set_option maxRecDepth 20000 in
theorem a_X9_parseJob_j17 {κ : KX} (X : CX κ z_X9_parseJob) (hR : κR κ = rmM 57 0 0) : ∀ (s0 : Int32) (v : MV) (r : Unit) (w : MV) (h : f_X9_parseJob_j17 s0 v = some (r, w)), AW κ (QM κ (PST (.inl none) (WM w)) 0 0) 17 [some (.ref 0), none, none, none, none, none] [.int s0, .ref 0] (WM v) 0 0 := by
  intro s0 v r w h
  unfold f_X9_parseJob_j17 at h
  refine AW.eq (pc' := 17) (ls' := [some (.ref 0), none, none, none, none, none]) (st' := [.int s0, .ref 0]) (AH' := [.inr (9, [.ref 1, .ref 2, .ref 3, .ref 4, .int (MVPc v), .int (MVIs v), .int (MVTh v), .ref 5, .int (MVSl v), .ref 6, .int (MVLn v), .int (MVEc v), .int (MVEo v), .int (MVSa v), .int (MVEn v), .int (MVTk v), .int (MVVa v), .int (MVFa v), .int (MVFo v), .ref 7, .int (MVSc v), .ref 8, .ref 9, .int (MVOl v)]), .inl (0, 500, .inl (MVSt v)), .inl (0, 500, .inl (MVAs v)), .inl (0, 500, .inl (MVSv v)), .inl (0, 4000, .inl (MVPt v)), .inl (0, 6, .inl (MVSp v)), .inl (3, 600, .inl (MVBf v)), .inl (0, 150, .inl (MVSm v)), .inl (0, 40, .inl (MVOr v)), .inl (3, 240, .inl (MVOu v))]) ?_ rfl rfl rfl rfl
  refine go_s 1 X (pc2 := 18) (st2 := [.int 4, .int s0, .ref 0]) rfl ?_
  obtain ⟨r4, w5, hq3, h⟩ := bnd2_inv h
  refine q_callV X [0, 1, 2, 3, 4, 5, 6, 7, 8, 9] [] (AH2 := [.inr (9, [.ref 1, .ref 2, .ref 3, .ref 4, .int (MVPc w5), .int (MVIs w5), .int (MVTh w5), .ref 5, .int (MVSl w5), .ref 6, .int (MVLn w5), .int (MVEc w5), .int (MVEo w5), .int (MVSa w5), .int (MVEn w5), .int (MVTk w5), .int (MVVa w5), .int (MVFa w5), .int (MVFo w5), .ref 7, .int (MVSc w5), .ref 8, .ref 9, .int (MVOl w5)]), .inl (0, 500, .inl (MVSt w5)), .inl (0, 500, .inl (MVAs w5)), .inl (0, 500, .inl (MVSv w5)), .inl (0, 4000, .inl (MVPt w5)), .inl (0, 6, .inl (MVSp w5)), .inl (3, 600, .inl (MVBf w5)), .inl (0, 150, .inl (MVSm w5)), .inl (0, 40, .inl (MVOr w5)), .inl (3, 240, .inl (MVOu w5))]) (st2 := []) (c_X9_expect _ _ _ _ _ hq3) ⟨rfl, rfl⟩ rfl k_X9_expect l_X9_197 rfl rfl rfl rfl rfl (fit_of hR (by decide) (by decide) (by decide) (by decide)) (Nat.le_of_ble_eq_true rfl) (by decide) rfl rfl rfl ?_
  refine go_s 1 X (pc2 := 22) (st2 := [.ref 0]) rfl ?_
  obtain ⟨r7, w8, hq6, h⟩ := bnd2_inv h
  refine q_callV X [0, 1, 2, 3, 4, 5, 6, 7, 8, 9] [] (AH2 := [.inr (9, [.ref 1, .ref 2, .ref 3, .ref 4, .int (MVPc w8), .int (MVIs w8), .int (MVTh w8), .ref 5, .int (MVSl w8), .ref 6, .int (MVLn w8), .int (MVEc w8), .int (MVEo w8), .int (MVSa w8), .int (MVEn w8), .int (MVTk w8), .int (MVVa w8), .int (MVFa w8), .int (MVFo w8), .ref 7, .int (MVSc w8), .ref 8, .ref 9, .int (MVOl w8)]), .inl (0, 500, .inl (MVSt w8)), .inl (0, 500, .inl (MVAs w8)), .inl (0, 500, .inl (MVSv w8)), .inl (0, 4000, .inl (MVPt w8)), .inl (0, 6, .inl (MVSp w8)), .inl (3, 600, .inl (MVBf w8)), .inl (0, 150, .inl (MVSm w8)), .inl (0, 40, .inl (MVOr w8)), .inl (3, 240, .inl (MVOu w8))]) (st2 := []) (c_X9_advanceToken _ _ _ hq6) ⟨rfl, rfl⟩ rfl k_X9_advanceToken l_X9_191 rfl rfl rfl rfl rfl (fit_of hR (by decide) (by decide) (by decide) (by decide)) (Nat.le_of_ble_eq_true rfl) (by decide) rfl rfl rfl ?_
  refine go_s 2 X (pc2 := 27) (st2 := [.int (-1), .ref 0]) rfl ?_
  obtain ⟨r10, w11, hq9, h⟩ := bnd2_inv h
  refine q_callV X [0, 1, 2, 3, 4, 5, 6, 7, 8, 9] [] (AH2 := [.inr (9, [.ref 1, .ref 2, .ref 3, .ref 4, .int (MVPc w11), .int (MVIs w11), .int (MVTh w11), .ref 5, .int (MVSl w11), .ref 6, .int (MVLn w11), .int (MVEc w11), .int (MVEo w11), .int (MVSa w11), .int (MVEn w11), .int (MVTk w11), .int (MVVa w11), .int (MVFa w11), .int (MVFo w11), .ref 7, .int (MVSc w11), .ref 8, .ref 9, .int (MVOl w11)]), .inl (0, 500, .inl (MVSt w11)), .inl (0, 500, .inl (MVAs w11)), .inl (0, 500, .inl (MVSv w11)), .inl (0, 4000, .inl (MVPt w11)), .inl (0, 6, .inl (MVSp w11)), .inl (3, 600, .inl (MVBf w11)), .inl (0, 150, .inl (MVSm w11)), .inl (0, 40, .inl (MVOr w11)), .inl (3, 240, .inl (MVOu w11))]) (st2 := [.int r10]) (c_X9_parseKnownQueue _ _ _ _ hq9) ⟨rfl, rfl⟩ rfl k_X9_parseKnownQueue l_X9_218 rfl rfl rfl rfl rfl (fit_of hR (by decide) (by decide) (by decide) (by decide)) (Nat.le_of_ble_eq_true rfl) (by decide) rfl rfl rfl ?_
  refine go_l 2 X (pc2 := 32) (ls2 := [some (.ref 0), some (.int r10), none, none, none, none]) (st2 := [.ref 0]) rfl ?_
  obtain ⟨r13, w14, hq12, h⟩ := bnd2_inv h
  refine q_callV X [0, 1, 2, 3, 4, 5, 6, 7, 8, 9] [] (AH2 := [.inr (9, [.ref 1, .ref 2, .ref 3, .ref 4, .int (MVPc w14), .int (MVIs w14), .int (MVTh w14), .ref 5, .int (MVSl w14), .ref 6, .int (MVLn w14), .int (MVEc w14), .int (MVEo w14), .int (MVSa w14), .int (MVEn w14), .int (MVTk w14), .int (MVVa w14), .int (MVFa w14), .int (MVFo w14), .ref 7, .int (MVSc w14), .ref 8, .ref 9, .int (MVOl w14)]), .inl (0, 500, .inl (MVSt w14)), .inl (0, 500, .inl (MVAs w14)), .inl (0, 500, .inl (MVSv w14)), .inl (0, 4000, .inl (MVPt w14)), .inl (0, 6, .inl (MVSp w14)), .inl (3, 600, .inl (MVBf w14)), .inl (0, 150, .inl (MVSm w14)), .inl (0, 40, .inl (MVOr w14)), .inl (3, 240, .inl (MVOu w14))]) (st2 := [.int r13]) (c_X9_parseKnownOwner _ _ _ hq12) ⟨rfl, rfl⟩ rfl k_X9_parseKnownOwner l_X9_221 rfl rfl rfl rfl rfl (fit_of hR (by decide) (by decide) (by decide) (by decide)) (Nat.le_of_ble_eq_true rfl) (by decide) rfl rfl rfl ?_
  refine go_l 4 X (pc2 := 40) (ls2 := [some (.ref 0), some (.int r10), some (.int r13), none, none, none]) (st2 := [.int 99, .int 0, .ref 0]) rfl ?_
  obtain ⟨r16, w17, hq15, h⟩ := bnd2_inv h
  refine q_callV X [0, 1, 2, 3, 4, 5, 6, 7, 8, 9] [] (AH2 := [.inr (9, [.ref 1, .ref 2, .ref 3, .ref 4, .int (MVPc w17), .int (MVIs w17), .int (MVTh w17), .ref 5, .int (MVSl w17), .ref 6, .int (MVLn w17), .int (MVEc w17), .int (MVEo w17), .int (MVSa w17), .int (MVEn w17), .int (MVTk w17), .int (MVVa w17), .int (MVFa w17), .int (MVFo w17), .ref 7, .int (MVSc w17), .ref 8, .ref 9, .int (MVOl w17)]), .inl (0, 500, .inl (MVSt w17)), .inl (0, 500, .inl (MVAs w17)), .inl (0, 500, .inl (MVSv w17)), .inl (0, 4000, .inl (MVPt w17)), .inl (0, 6, .inl (MVSp w17)), .inl (3, 600, .inl (MVBf w17)), .inl (0, 150, .inl (MVSm w17)), .inl (0, 40, .inl (MVOr w17)), .inl (3, 240, .inl (MVOu w17))]) (st2 := [.int r16]) (c_X9_parseNumber _ _ _ _ _ hq15) ⟨rfl, rfl⟩ rfl k_X9_parseNumber l_X9_215 rfl rfl rfl rfl rfl (fit_of hR (by decide) (by decide) (by decide) (by decide)) (Nat.le_of_ble_eq_true rfl) (by decide) rfl rfl rfl ?_
  refine go_l 4 X (pc2 := 48) (ls2 := [some (.ref 0), some (.int r10), some (.int r13), some (.int r16), none, none]) (st2 := [.int 99, .int 1, .ref 0]) rfl ?_
  obtain ⟨r19, w20, hq18, h⟩ := bnd2_inv h
  refine q_callV X [0, 1, 2, 3, 4, 5, 6, 7, 8, 9] [] (AH2 := [.inr (9, [.ref 1, .ref 2, .ref 3, .ref 4, .int (MVPc w20), .int (MVIs w20), .int (MVTh w20), .ref 5, .int (MVSl w20), .ref 6, .int (MVLn w20), .int (MVEc w20), .int (MVEo w20), .int (MVSa w20), .int (MVEn w20), .int (MVTk w20), .int (MVVa w20), .int (MVFa w20), .int (MVFo w20), .ref 7, .int (MVSc w20), .ref 8, .ref 9, .int (MVOl w20)]), .inl (0, 500, .inl (MVSt w20)), .inl (0, 500, .inl (MVAs w20)), .inl (0, 500, .inl (MVSv w20)), .inl (0, 4000, .inl (MVPt w20)), .inl (0, 6, .inl (MVSp w20)), .inl (3, 600, .inl (MVBf w20)), .inl (0, 150, .inl (MVSm w20)), .inl (0, 40, .inl (MVOr w20)), .inl (3, 240, .inl (MVOu w20))]) (st2 := [.int r19]) (c_X9_parseNumber _ _ _ _ _ hq18) ⟨rfl, rfl⟩ rfl k_X9_parseNumber l_X9_215 rfl rfl rfl rfl rfl (fit_of hR (by decide) (by decide) (by decide) (by decide)) (Nat.le_of_ble_eq_true rfl) (by decide) rfl rfl rfl ?_
  refine go_l 3 X (pc2 := 57) (ls2 := [some (.ref 0), some (.int r10), some (.int r13), some (.int r16), some (.int r19), none]) (st2 := [.int (MVFa w20)]) rfl ?_
  refine r_if_ne X 71 rfl rfl (fun c21 => ?_) (fun c21 => ?_)
  · rw [if_neg c21] at h
    cases h
    exact r_vret X rfl rfl ⟨rfl, rfl⟩ (by decide) (by decide)
  · rw [if_pos c21] at h
    refine go_s 5 X (pc2 := 66) (st2 := [.int r19, .int r16, .int r13, .int r10, .ref 0]) rfl ?_
    obtain ⟨r23, w24, hq22, h⟩ := bnd2_inv h
    refine q_callV X [0, 1, 2, 3, 4, 5, 6, 7, 8, 9] [] (AH2 := [.inr (9, [.ref 1, .ref 2, .ref 3, .ref 4, .int (MVPc w24), .int (MVIs w24), .int (MVTh w24), .ref 5, .int (MVSl w24), .ref 6, .int (MVLn w24), .int (MVEc w24), .int (MVEo w24), .int (MVSa w24), .int (MVEn w24), .int (MVTk w24), .int (MVVa w24), .int (MVFa w24), .int (MVFo w24), .ref 7, .int (MVSc w24), .ref 8, .ref 9, .int (MVOl w24)]), .inl (0, 500, .inl (MVSt w24)), .inl (0, 500, .inl (MVAs w24)), .inl (0, 500, .inl (MVSv w24)), .inl (0, 4000, .inl (MVPt w24)), .inl (0, 6, .inl (MVSp w24)), .inl (3, 600, .inl (MVBf w24)), .inl (0, 150, .inl (MVSm w24)), .inl (0, 40, .inl (MVOr w24)), .inl (3, 240, .inl (MVOu w24))]) (st2 := [.int r23]) (c_X9_addJob _ _ _ _ _ _ _ hq22) ⟨rfl, rfl⟩ rfl k_X9_addJob l_X9_60 rfl rfl rfl rfl rfl (fit_of hR (by decide) (by decide) (by decide) (by decide)) (Nat.le_of_ble_eq_true rfl) (by decide) rfl rfl rfl ?_
    refine go_l 1 X (pc2 := 71) (ls2 := [some (.ref 0), some (.int r10), some (.int r13), some (.int r16), some (.int r19), some (.int r23)]) (st2 := []) rfl ?_
    cases h
    exact r_vret X rfl rfl ⟨rfl, rfl⟩ (by decide) (by decide)
set_option maxHeartbeats 400000 in
set_option maxRecDepth 20000 in
theorem c_X9_parseJob (v : MV) (r : Unit) (w : MV) (h : f_X9_parseJob v = some (r, w)) : Sem z_X9_parseJob 57 0 0 [.ref 0] (WM v) (PST (.inl none) (WM w)) := by
  refine Sem.of zo_X9_parseJob (by decide +kernel) (Nat.le_of_ble_eq_true rfl) fun κ X hE hR hN => ?_
  unfold f_X9_parseJob at h
  refine AW.eq (pc' := 0) (ls' := [some (.ref 0), none, none, none, none, none]) (st' := []) (AH' := [.inr (9, [.ref 1, .ref 2, .ref 3, .ref 4, .int (MVPc v), .int (MVIs v), .int (MVTh v), .ref 5, .int (MVSl v), .ref 6, .int (MVLn v), .int (MVEc v), .int (MVEo v), .int (MVSa v), .int (MVEn v), .int (MVTk v), .int (MVVa v), .int (MVFa v), .int (MVFo v), .ref 7, .int (MVSc v), .ref 8, .ref 9, .int (MVOl v)]), .inl (0, 500, .inl (MVSt v)), .inl (0, 500, .inl (MVAs v)), .inl (0, 500, .inl (MVSv v)), .inl (0, 4000, .inl (MVPt v)), .inl (0, 6, .inl (MVSp v)), .inl (3, 600, .inl (MVBf v)), .inl (0, 150, .inl (MVSm v)), .inl (0, 40, .inl (MVOr v)), .inl (3, 240, .inl (MVOu v))]) ?_ rfl rfl rfl rfl
  refine go_s 4 X (pc2 := 6) (st2 := [.int 2, .ref 1, .ref 0]) rfl ?_
  by_cases b1 : oob 2 500
  · rw [if_pos b1] at h; cases h
  rw [if_neg b1] at h
  refine r_iald X rfl rfl b1 ?_
  refine go_s 1 X (pc2 := 9) (st2 := [.int 40, .int ((MVSt v) (Int32.toNatClampNeg 2)), .ref 0]) rfl ?_
  refine r_icmp_ge X 16 rfl rfl (fun c2 => ?_) (fun c2 => ?_)
  · rw [if_pos c2] at h
    refine go_s 1 X (pc2 := 17) (st2 := [.int 0, .ref 0]) rfl ?_
    exact AW.eq (a_X9_parseJob_j17 X hR _ _ _ _ h) rfl rfl rfl rfl
  · rw [if_neg c2] at h
    refine go_s 2 X (pc2 := 17) (st2 := [.int 1, .ref 0]) rfl ?_
    exact AW.eq (a_X9_parseJob_j17 X hR _ _ _ _ h) rfl rfl rfl rfl
set_option maxHeartbeats 400000 in
set_option maxRecDepth 20000 in
theorem a_X9_parseOwner_j65 {κ : KX} (X : CX κ z_X9_parseOwner) (hR : κR κ = rmM 3 0 0) : ∀ (v : MV) (r : Unit) (w : MV) (h : f_X9_parseOwner_j65 v = some (r, w)), AW κ (QM κ (PST (.inl none) (WM w)) 0 0) 65 [some (.ref 0)] [] (WM v) 0 0 := by
  intro v r w h
  unfold f_X9_parseOwner_j65 at h
  refine AW.eq (pc' := 65) (ls' := [some (.ref 0)]) (st' := []) (AH' := [.inr (9, [.ref 1, .ref 2, .ref 3, .ref 4, .int (MVPc v), .int (MVIs v), .int (MVTh v), .ref 5, .int (MVSl v), .ref 6, .int (MVLn v), .int (MVEc v), .int (MVEo v), .int (MVSa v), .int (MVEn v), .int (MVTk v), .int (MVVa v), .int (MVFa v), .int (MVFo v), .ref 7, .int (MVSc v), .ref 8, .ref 9, .int (MVOl v)]), .inl (0, 500, .inl (MVSt v)), .inl (0, 500, .inl (MVAs v)), .inl (0, 500, .inl (MVSv v)), .inl (0, 4000, .inl (MVPt v)), .inl (0, 6, .inl (MVSp v)), .inl (3, 600, .inl (MVBf v)), .inl (0, 150, .inl (MVSm v)), .inl (0, 40, .inl (MVOr v)), .inl (3, 240, .inl (MVOu v))]) ?_ rfl rfl rfl rfl
  refine go_s 1 X (pc2 := 66) (st2 := [.ref 0]) rfl ?_
  obtain ⟨r18, w19, hq17, h⟩ := bnd2_inv h
  refine q_callV X [0, 1, 2, 3, 4, 5, 6, 7, 8, 9] [] (AH2 := [.inr (9, [.ref 1, .ref 2, .ref 3, .ref 4, .int (MVPc w19), .int (MVIs w19), .int (MVTh w19), .ref 5, .int (MVSl w19), .ref 6, .int (MVLn w19), .int (MVEc w19), .int (MVEo w19), .int (MVSa w19), .int (MVEn w19), .int (MVTk w19), .int (MVVa w19), .int (MVFa w19), .int (MVFo w19), .ref 7, .int (MVSc w19), .ref 8, .ref 9, .int (MVOl w19)]), .inl (0, 500, .inl (MVSt w19)), .inl (0, 500, .inl (MVAs w19)), .inl (0, 500, .inl (MVSv w19)), .inl (0, 4000, .inl (MVPt w19)), .inl (0, 6, .inl (MVSp w19)), .inl (3, 600, .inl (MVBf w19)), .inl (0, 150, .inl (MVSm w19)), .inl (0, 40, .inl (MVOr w19)), .inl (3, 240, .inl (MVOu w19))]) (st2 := []) (c_X9_advanceToken _ _ _ hq17) ⟨rfl, rfl⟩ rfl k_X9_advanceToken l_X9_191 rfl rfl rfl rfl rfl (fit_of hR (by decide) (by decide) (by decide) (by decide)) (Nat.le_of_ble_eq_true rfl) (by decide) rfl rfl rfl ?_
  cases h
  exact r_vret X rfl rfl ⟨rfl, rfl⟩ (by decide) (by decide)
set_option maxHeartbeats 400000 in
set_option maxRecDepth 20000 in
theorem a_X9_parseOwner_j50 {κ : KX} (X : CX κ z_X9_parseOwner) (hR : κR κ = rmM 3 0 0) : ∀ (s0 : Int32) (v : MV) (r : Unit) (w : MV) (h : f_X9_parseOwner_j50 s0 v = some (r, w)), AW κ (QM κ (PST (.inl none) (WM w)) 0 0) 50 [some (.ref 0)] [.int s0, .ref 0] (WM v) 0 0 := by
  intro s0 v r w h
  unfold f_X9_parseOwner_j50 at h
  refine AW.eq (pc' := 50) (ls' := [some (.ref 0)]) (st' := [.int s0, .ref 0]) (AH' := [.inr (9, [.ref 1, .ref 2, .ref 3, .ref 4, .int (MVPc v), .int (MVIs v), .int (MVTh v), .ref 5, .int (MVSl v), .ref 6, .int (MVLn v), .int (MVEc v), .int (MVEo v), .int (MVSa v), .int (MVEn v), .int (MVTk v), .int (MVVa v), .int (MVFa v), .int (MVFo v), .ref 7, .int (MVSc v), .ref 8, .ref 9, .int (MVOl v)]), .inl (0, 500, .inl (MVSt v)), .inl (0, 500, .inl (MVAs v)), .inl (0, 500, .inl (MVSv v)), .inl (0, 4000, .inl (MVPt v)), .inl (0, 6, .inl (MVSp v)), .inl (3, 600, .inl (MVBf v)), .inl (0, 150, .inl (MVSm v)), .inl (0, 40, .inl (MVOr v)), .inl (3, 240, .inl (MVOu v))]) ?_ rfl rfl rfl rfl
  refine go_s 1 X (pc2 := 51) (st2 := [.int 3, .int s0, .ref 0]) rfl ?_
  obtain ⟨r14, w15, hq13, h⟩ := bnd2_inv h
  refine q_callV X [0, 1, 2, 3, 4, 5, 6, 7, 8, 9] [] (AH2 := [.inr (9, [.ref 1, .ref 2, .ref 3, .ref 4, .int (MVPc w15), .int (MVIs w15), .int (MVTh w15), .ref 5, .int (MVSl w15), .ref 6, .int (MVLn w15), .int (MVEc w15), .int (MVEo w15), .int (MVSa w15), .int (MVEn w15), .int (MVTk w15), .int (MVVa w15), .int (MVFa w15), .int (MVFo w15), .ref 7, .int (MVSc w15), .ref 8, .ref 9, .int (MVOl w15)]), .inl (0, 500, .inl (MVSt w15)), .inl (0, 500, .inl (MVAs w15)), .inl (0, 500, .inl (MVSv w15)), .inl (0, 4000, .inl (MVPt w15)), .inl (0, 6, .inl (MVSp w15)), .inl (3, 600, .inl (MVBf w15)), .inl (0, 150, .inl (MVSm w15)), .inl (0, 40, .inl (MVOr w15)), .inl (3, 240, .inl (MVOu w15))]) (st2 := []) (c_X9_expect _ _ _ _ _ hq13) ⟨rfl, rfl⟩ rfl k_X9_expect l_X9_197 rfl rfl rfl rfl rfl (fit_of hR (by decide) (by decide) (by decide) (by decide)) (Nat.le_of_ble_eq_true rfl) (by decide) rfl rfl rfl ?_
  refine go_s 2 X (pc2 := 58) (st2 := [.int (MVFa w15)]) rfl ?_
  refine r_if_ne X 65 rfl rfl (fun c16 => ?_) (fun c16 => ?_)
  · rw [if_neg c16] at h
    exact AW.eq (a_X9_parseOwner_j65 X hR _ _ _ h) rfl rfl rfl rfl
  · rw [if_pos c16] at h
    refine go_s 1 X (pc2 := 62) (st2 := [.ref 0]) rfl ?_
    obtain ⟨r21, w22, hq20, h⟩ := bnd2_inv h
    refine q_callV X [0, 1, 2, 3, 4, 5, 6, 7, 8, 9] [] (AH2 := [.inr (9, [.ref 1, .ref 2, .ref 3, .ref 4, .int (MVPc w22), .int (MVIs w22), .int (MVTh w22), .ref 5, .int (MVSl w22), .ref 6, .int (MVLn w22), .int (MVEc w22), .int (MVEo w22), .int (MVSa w22), .int (MVEn w22), .int (MVTk w22), .int (MVVa w22), .int (MVFa w22), .int (MVFo w22), .ref 7, .int (MVSc w22), .ref 8, .ref 9, .int (MVOl w22)]), .inl (0, 500, .inl (MVSt w22)), .inl (0, 500, .inl (MVAs w22)), .inl (0, 500, .inl (MVSv w22)), .inl (0, 4000, .inl (MVPt w22)), .inl (0, 6, .inl (MVSp w22)), .inl (3, 600, .inl (MVBf w22)), .inl (0, 150, .inl (MVSm w22)), .inl (0, 40, .inl (MVOr w22)), .inl (3, 240, .inl (MVOu w22))]) (st2 := []) (c_X9_addOwner _ _ _ hq20) ⟨rfl, rfl⟩ rfl k_X9_addOwner l_X9_57 rfl rfl rfl rfl rfl (fit_of hR (by decide) (by decide) (by decide) (by decide)) (Nat.le_of_ble_eq_true rfl) (by decide) rfl rfl rfl ?_
    exact AW.eq (a_X9_parseOwner_j65 X hR _ _ _ h) rfl rfl rfl rfl
set_option maxHeartbeats 400000 in
set_option maxRecDepth 20000 in
theorem a_X9_parseOwner_j45 {κ : KX} (X : CX κ z_X9_parseOwner) (hR : κR κ = rmM 3 0 0) : ∀ (v : MV) (r : Unit) (w : MV) (h : f_X9_parseOwner_j45 v = some (r, w)), AW κ (QM κ (PST (.inl none) (WM w)) 0 0) 45 [some (.ref 0)] [.ref 0] (WM v) 0 0 := by
  intro v r w h
  unfold f_X9_parseOwner_j45 at h
  refine AW.eq (pc' := 45) (ls' := [some (.ref 0)]) (st' := [.ref 0]) (AH' := [.inr (9, [.ref 1, .ref 2, .ref 3, .ref 4, .int (MVPc v), .int (MVIs v), .int (MVTh v), .ref 5, .int (MVSl v), .ref 6, .int (MVLn v), .int (MVEc v), .int (MVEo v), .int (MVSa v), .int (MVEn v), .int (MVTk v), .int (MVVa v), .int (MVFa v), .int (MVFo v), .ref 7, .int (MVSc v), .ref 8, .ref 9, .int (MVOl v)]), .inl (0, 500, .inl (MVSt v)), .inl (0, 500, .inl (MVAs v)), .inl (0, 500, .inl (MVSv v)), .inl (0, 4000, .inl (MVPt v)), .inl (0, 6, .inl (MVSp v)), .inl (3, 600, .inl (MVBf v)), .inl (0, 150, .inl (MVSm v)), .inl (0, 40, .inl (MVOr v)), .inl (3, 240, .inl (MVOu v))]) ?_ rfl rfl rfl rfl
  refine go_s 2 X (pc2 := 50) (st2 := [.int 1, .ref 0]) rfl ?_
  exact AW.eq (a_X9_parseOwner_j50 X hR _ _ _ _ h) rfl rfl rfl rfl
set_option maxHeartbeats 400000 in
set_option maxRecDepth 20000 in
theorem a_X9_parseOwner_j17 {κ : KX} (X : CX κ z_X9_parseOwner) (hR : κR κ = rmM 3 0 0) : ∀ (s0 : Int32) (v : MV) (r : Unit) (w : MV) (h : f_X9_parseOwner_j17 s0 v = some (r, w)), AW κ (QM κ (PST (.inl none) (WM w)) 0 0) 17 [some (.ref 0)] [.int s0, .ref 0] (WM v) 0 0 := by
  intro s0 v r w h
  unfold f_X9_parseOwner_j17 at h
  refine AW.eq (pc' := 17) (ls' := [some (.ref 0)]) (st' := [.int s0, .ref 0]) (AH' := [.inr (9, [.ref 1, .ref 2, .ref 3, .ref 4, .int (MVPc v), .int (MVIs v), .int (MVTh v), .ref 5, .int (MVSl v), .ref 6, .int (MVLn v), .int (MVEc v), .int (MVEo v), .int (MVSa v), .int (MVEn v), .int (MVTk v), .int (MVVa v), .int (MVFa v), .int (MVFo v), .ref 7, .int (MVSc v), .ref 8, .ref 9, .int (MVOl v)]), .inl (0, 500, .inl (MVSt v)), .inl (0, 500, .inl (MVAs v)), .inl (0, 500, .inl (MVSv v)), .inl (0, 4000, .inl (MVPt v)), .inl (0, 6, .inl (MVSp v)), .inl (3, 600, .inl (MVBf v)), .inl (0, 150, .inl (MVSm v)), .inl (0, 40, .inl (MVOr v)), .inl (3, 240, .inl (MVOu v))]) ?_ rfl rfl rfl rfl
  refine go_s 1 X (pc2 := 18) (st2 := [.int 4, .int s0, .ref 0]) rfl ?_
  obtain ⟨r4, w5, hq3, h⟩ := bnd2_inv h
  refine q_callV X [0, 1, 2, 3, 4, 5, 6, 7, 8, 9] [] (AH2 := [.inr (9, [.ref 1, .ref 2, .ref 3, .ref 4, .int (MVPc w5), .int (MVIs w5), .int (MVTh w5), .ref 5, .int (MVSl w5), .ref 6, .int (MVLn w5), .int (MVEc w5), .int (MVEo w5), .int (MVSa w5), .int (MVEn w5), .int (MVTk w5), .int (MVVa w5), .int (MVFa w5), .int (MVFo w5), .ref 7, .int (MVSc w5), .ref 8, .ref 9, .int (MVOl w5)]), .inl (0, 500, .inl (MVSt w5)), .inl (0, 500, .inl (MVAs w5)), .inl (0, 500, .inl (MVSv w5)), .inl (0, 4000, .inl (MVPt w5)), .inl (0, 6, .inl (MVSp w5)), .inl (3, 600, .inl (MVBf w5)), .inl (0, 150, .inl (MVSm w5)), .inl (0, 40, .inl (MVOr w5)), .inl (3, 240, .inl (MVOu w5))]) (st2 := []) (c_X9_expect _ _ _ _ _ hq3) ⟨rfl, rfl⟩ rfl k_X9_expect l_X9_197 rfl rfl rfl rfl rfl (fit_of hR (by decide) (by decide) (by decide) (by decide)) (Nat.le_of_ble_eq_true rfl) (by decide) rfl rfl rfl ?_
  refine go_s 1 X (pc2 := 22) (st2 := [.ref 0]) rfl ?_
  obtain ⟨r7, w8, hq6, h⟩ := bnd2_inv h
  refine q_callV X [0, 1, 2, 3, 4, 5, 6, 7, 8, 9] [] (AH2 := [.inr (9, [.ref 1, .ref 2, .ref 3, .ref 4, .int (MVPc w8), .int (MVIs w8), .int (MVTh w8), .ref 5, .int (MVSl w8), .ref 6, .int (MVLn w8), .int (MVEc w8), .int (MVEo w8), .int (MVSa w8), .int (MVEn w8), .int (MVTk w8), .int (MVVa w8), .int (MVFa w8), .int (MVFo w8), .ref 7, .int (MVSc w8), .ref 8, .ref 9, .int (MVOl w8)]), .inl (0, 500, .inl (MVSt w8)), .inl (0, 500, .inl (MVAs w8)), .inl (0, 500, .inl (MVSv w8)), .inl (0, 4000, .inl (MVPt w8)), .inl (0, 6, .inl (MVSp w8)), .inl (3, 600, .inl (MVBf w8)), .inl (0, 150, .inl (MVSm w8)), .inl (0, 40, .inl (MVOr w8)), .inl (3, 240, .inl (MVOu w8))]) (st2 := []) (c_X9_advanceToken _ _ _ hq6) ⟨rfl, rfl⟩ rfl k_X9_advanceToken l_X9_191 rfl rfl rfl rfl rfl (fit_of hR (by decide) (by decide) (by decide) (by decide)) (Nat.le_of_ble_eq_true rfl) (by decide) rfl rfl rfl ?_
  refine go_s 1 X (pc2 := 26) (st2 := [.ref 0]) rfl ?_
  obtain ⟨r10, w11, hq9, h⟩ := bnd2_inv h
  refine q_callV X [0, 1, 2, 3, 4, 5, 6, 7, 8, 9] [] (AH2 := [.inr (9, [.ref 1, .ref 2, .ref 3, .ref 4, .int (MVPc w11), .int (MVIs w11), .int (MVTh w11), .ref 5, .int (MVSl w11), .ref 6, .int (MVLn w11), .int (MVEc w11), .int (MVEo w11), .int (MVSa w11), .int (MVEn w11), .int (MVTk w11), .int (MVVa w11), .int (MVFa w11), .int (MVFo w11), .ref 7, .int (MVSc w11), .ref 8, .ref 9, .int (MVOl w11)]), .inl (0, 500, .inl (MVSt w11)), .inl (0, 500, .inl (MVAs w11)), .inl (0, 500, .inl (MVSv w11)), .inl (0, 4000, .inl (MVPt w11)), .inl (0, 6, .inl (MVSp w11)), .inl (3, 600, .inl (MVBf w11)), .inl (0, 150, .inl (MVSm w11)), .inl (0, 40, .inl (MVOr w11)), .inl (3, 240, .inl (MVOu w11))]) (st2 := []) (c_X9_spellName _ _ _ hq9) ⟨rfl, rfl⟩ rfl k_X9_spellName l_X9_201 rfl rfl rfl rfl rfl (fit_of hR (by decide) (by decide) (by decide) (by decide)) (Nat.le_of_ble_eq_true rfl) (by decide) rfl rfl rfl ?_
  refine go_s 3 X (pc2 := 34) (st2 := [.int (MVFa w11), .ref 0]) rfl ?_
  refine r_if_gt X 45 rfl rfl (fun c12 => ?_) (fun c12 => ?_)
  · rw [if_pos c12] at h
    exact AW.eq (a_X9_parseOwner_j45 X hR _ _ _ h) rfl rfl rfl rfl
  · rw [if_neg c12] at h
    refine go_s 1 X (pc2 := 38) (st2 := [.ref 0, .ref 0]) rfl ?_
    obtain ⟨r24, hq23, h⟩ := obind_inv h
    refine q_callV X [0, 1, 2, 3, 4, 5, 6, 7, 8, 9] [] (AH2 := [.inr (9, [.ref 1, .ref 2, .ref 3, .ref 4, .int (MVPc w11), .int (MVIs w11), .int (MVTh w11), .ref 5, .int (MVSl w11), .ref 6, .int (MVLn w11), .int (MVEc w11), .int (MVEo w11), .int (MVSa w11), .int (MVEn w11), .int (MVTk w11), .int (MVVa w11), .int (MVFa w11), .int (MVFo w11), .ref 7, .int (MVSc w11), .ref 8, .ref 9, .int (MVOl w11)]), .inl (0, 500, .inl (MVSt w11)), .inl (0, 500, .inl (MVAs w11)), .inl (0, 500, .inl (MVSv w11)), .inl (0, 4000, .inl (MVPt w11)), .inl (0, 6, .inl (MVSp w11)), .inl (3, 600, .inl (MVBf w11)), .inl (0, 150, .inl (MVSm w11)), .inl (0, 40, .inl (MVOr w11)), .inl (3, 240, .inl (MVOu w11))]) (st2 := [.int r24, .ref 0]) (c_X9_spelledOwner _ _ hq23) ⟨rfl, rfl⟩ rfl k_X9_spelledOwner l_X9_212 rfl rfl rfl rfl rfl (fit_of hR (by decide) (by decide) (by decide) (by decide)) (Nat.le_of_ble_eq_true rfl) (by decide) rfl rfl rfl ?_
    refine go_s 1 X (pc2 := 42) (st2 := [.int (-1), .int r24, .ref 0]) rfl ?_
    refine r_icmp_ne X 49 rfl rfl (fun c26 => ?_) (fun c26 => ?_)
    · rw [if_neg c26] at h
      refine go_s 1 X (pc2 := 50) (st2 := [.int 0, .ref 0]) rfl ?_
      exact AW.eq (a_X9_parseOwner_j50 X hR _ _ _ _ h) rfl rfl rfl rfl
    · rw [if_pos c26] at h
      exact AW.eq (a_X9_parseOwner_j45 X hR _ _ _ h) rfl rfl rfl rfl
set_option maxHeartbeats 400000 in
set_option maxRecDepth 20000 in
theorem c_X9_parseOwner (v : MV) (r : Unit) (w : MV) (h : f_X9_parseOwner v = some (r, w)) : Sem z_X9_parseOwner 3 0 0 [.ref 0] (WM v) (PST (.inl none) (WM w)) := by
  refine Sem.of zo_X9_parseOwner (by decide +kernel) (Nat.le_of_ble_eq_true rfl) fun κ X hE hR hN => ?_
  unfold f_X9_parseOwner at h
  refine AW.eq (pc' := 0) (ls' := [some (.ref 0)]) (st' := []) (AH' := [.inr (9, [.ref 1, .ref 2, .ref 3, .ref 4, .int (MVPc v), .int (MVIs v), .int (MVTh v), .ref 5, .int (MVSl v), .ref 6, .int (MVLn v), .int (MVEc v), .int (MVEo v), .int (MVSa v), .int (MVEn v), .int (MVTk v), .int (MVVa v), .int (MVFa v), .int (MVFo v), .ref 7, .int (MVSc v), .ref 8, .ref 9, .int (MVOl v)]), .inl (0, 500, .inl (MVSt v)), .inl (0, 500, .inl (MVAs v)), .inl (0, 500, .inl (MVSv v)), .inl (0, 4000, .inl (MVPt v)), .inl (0, 6, .inl (MVSp v)), .inl (3, 600, .inl (MVBf v)), .inl (0, 150, .inl (MVSm v)), .inl (0, 40, .inl (MVOr v)), .inl (3, 240, .inl (MVOu v))]) ?_ rfl rfl rfl rfl
  refine go_s 4 X (pc2 := 6) (st2 := [.int 1, .ref 1, .ref 0]) rfl ?_
  by_cases b1 : oob 1 500
  · rw [if_pos b1] at h; cases h
  rw [if_neg b1] at h
  refine r_iald X rfl rfl b1 ?_
  refine go_s 1 X (pc2 := 9) (st2 := [.int 8, .int ((MVSt v) (Int32.toNatClampNeg 1)), .ref 0]) rfl ?_
  refine r_icmp_ge X 16 rfl rfl (fun c2 => ?_) (fun c2 => ?_)
  · rw [if_pos c2] at h
    refine go_s 1 X (pc2 := 17) (st2 := [.int 0, .ref 0]) rfl ?_
    exact AW.eq (a_X9_parseOwner_j17 X hR _ _ _ _ h) rfl rfl rfl rfl
  · rw [if_neg c2] at h
    refine go_s 2 X (pc2 := 17) (st2 := [.int 1, .ref 0]) rfl ?_
    exact AW.eq (a_X9_parseOwner_j17 X hR _ _ _ _ h) rfl rfl rfl rfl
set_option maxHeartbeats 400000 in
set_option maxRecDepth 20000 in
theorem a_X9_parseQueue_j50 {κ : KX} (X : CX κ z_X9_parseQueue) (hR : κR κ = rmM 4 0 0) : ∀ (s0 : Int32) (v : MV) (r : Unit) (w : MV) (h : f_X9_parseQueue_j50 s0 v = some (r, w)), AW κ (QM κ (PST (.inl none) (WM w)) 0 0) 50 [some (.ref 0), none] [.int s0, .ref 0] (WM v) 0 0 := by
  intro s0 v r w h
  unfold f_X9_parseQueue_j50 at h
  refine AW.eq (pc' := 50) (ls' := [some (.ref 0), none]) (st' := [.int s0, .ref 0]) (AH' := [.inr (9, [.ref 1, .ref 2, .ref 3, .ref 4, .int (MVPc v), .int (MVIs v), .int (MVTh v), .ref 5, .int (MVSl v), .ref 6, .int (MVLn v), .int (MVEc v), .int (MVEo v), .int (MVSa v), .int (MVEn v), .int (MVTk v), .int (MVVa v), .int (MVFa v), .int (MVFo v), .ref 7, .int (MVSc v), .ref 8, .ref 9, .int (MVOl v)]), .inl (0, 500, .inl (MVSt v)), .inl (0, 500, .inl (MVAs v)), .inl (0, 500, .inl (MVSv v)), .inl (0, 4000, .inl (MVPt v)), .inl (0, 6, .inl (MVSp v)), .inl (3, 600, .inl (MVBf v)), .inl (0, 150, .inl (MVSm v)), .inl (0, 40, .inl (MVOr v)), .inl (3, 240, .inl (MVOu v))]) ?_ rfl rfl rfl rfl
  refine go_s 1 X (pc2 := 51) (st2 := [.int 3, .int s0, .ref 0]) rfl ?_
  obtain ⟨r14, w15, hq13, h⟩ := bnd2_inv h
  refine q_callV X [0, 1, 2, 3, 4, 5, 6, 7, 8, 9] [] (AH2 := [.inr (9, [.ref 1, .ref 2, .ref 3, .ref 4, .int (MVPc w15), .int (MVIs w15), .int (MVTh w15), .ref 5, .int (MVSl w15), .ref 6, .int (MVLn w15), .int (MVEc w15), .int (MVEo w15), .int (MVSa w15), .int (MVEn w15), .int (MVTk w15), .int (MVVa w15), .int (MVFa w15), .int (MVFo w15), .ref 7, .int (MVSc w15), .ref 8, .ref 9, .int (MVOl w15)]), .inl (0, 500, .inl (MVSt w15)), .inl (0, 500, .inl (MVAs w15)), .inl (0, 500, .inl (MVSv w15)), .inl (0, 4000, .inl (MVPt w15)), .inl (0, 6, .inl (MVSp w15)), .inl (3, 600, .inl (MVBf w15)), .inl (0, 150, .inl (MVSm w15)), .inl (0, 40, .inl (MVOr w15)), .inl (3, 240, .inl (MVOu w15))]) (st2 := []) (c_X9_expect _ _ _ _ _ hq13) ⟨rfl, rfl⟩ rfl k_X9_expect l_X9_197 rfl rfl rfl rfl rfl (fit_of hR (by decide) (by decide) (by decide) (by decide)) (Nat.le_of_ble_eq_true rfl) (by decide) rfl rfl rfl ?_
  refine go_s 1 X (pc2 := 55) (st2 := [.ref 0]) rfl ?_
  obtain ⟨r17, w18, hq16, h⟩ := bnd2_inv h
  refine q_callV X [0, 1, 2, 3, 4, 5, 6, 7, 8, 9] [] (AH2 := [.inr (9, [.ref 1, .ref 2, .ref 3, .ref 4, .int (MVPc w18), .int (MVIs w18), .int (MVTh w18), .ref 5, .int (MVSl w18), .ref 6, .int (MVLn w18), .int (MVEc w18), .int (MVEo w18), .int (MVSa w18), .int (MVEn w18), .int (MVTk w18), .int (MVVa w18), .int (MVFa w18), .int (MVFo w18), .ref 7, .int (MVSc w18), .ref 8, .ref 9, .int (MVOl w18)]), .inl (0, 500, .inl (MVSt w18)), .inl (0, 500, .inl (MVAs w18)), .inl (0, 500, .inl (MVSv w18)), .inl (0, 4000, .inl (MVPt w18)), .inl (0, 6, .inl (MVSp w18)), .inl (3, 600, .inl (MVBf w18)), .inl (0, 150, .inl (MVSm w18)), .inl (0, 40, .inl (MVOr w18)), .inl (3, 240, .inl (MVOu w18))]) (st2 := []) (c_X9_advanceToken _ _ _ hq16) ⟨rfl, rfl⟩ rfl k_X9_advanceToken l_X9_191 rfl rfl rfl rfl rfl (fit_of hR (by decide) (by decide) (by decide) (by decide)) (Nat.le_of_ble_eq_true rfl) (by decide) rfl rfl rfl ?_
  refine go_s 3 X (pc2 := 62) (st2 := [.int 50, .int 1, .ref 0]) rfl ?_
  obtain ⟨r20, w21, hq19, h⟩ := bnd2_inv h
  refine q_callV X [0, 1, 2, 3, 4, 5, 6, 7, 8, 9] [] (AH2 := [.inr (9, [.ref 1, .ref 2, .ref 3, .ref 4, .int (MVPc w21), .int (MVIs w21), .int (MVTh w21), .ref 5, .int (MVSl w21), .ref 6, .int (MVLn w21), .int (MVEc w21), .int (MVEo w21), .int (MVSa w21), .int (MVEn w21), .int (MVTk w21), .int (MVVa w21), .int (MVFa w21), .int (MVFo w21), .ref 7, .int (MVSc w21), .ref 8, .ref 9, .int (MVOl w21)]), .inl (0, 500, .inl (MVSt w21)), .inl (0, 500, .inl (MVAs w21)), .inl (0, 500, .inl (MVSv w21)), .inl (0, 4000, .inl (MVPt w21)), .inl (0, 6, .inl (MVSp w21)), .inl (3, 600, .inl (MVBf w21)), .inl (0, 150, .inl (MVSm w21)), .inl (0, 40, .inl (MVOr w21)), .inl (3, 240, .inl (MVOu w21))]) (st2 := [.int r20]) (c_X9_parseNumber _ _ _ _ _ hq19) ⟨rfl, rfl⟩ rfl k_X9_parseNumber l_X9_215 rfl rfl rfl rfl rfl (fit_of hR (by decide) (by decide) (by decide) (by decide)) (Nat.le_of_ble_eq_true rfl) (by decide) rfl rfl rfl ?_
  refine go_l 3 X (pc2 := 70) (ls2 := [some (.ref 0), some (.int r20)]) (st2 := [.int (MVFa w21)]) rfl ?_
  refine r_if_ne X 78 rfl rfl (fun c22 => ?_) (fun c22 => ?_)
  · rw [if_neg c22] at h
    cases h
    exact r_vret X rfl rfl ⟨rfl, rfl⟩ (by decide) (by decide)
  · rw [if_pos c22] at h
    refine go_s 2 X (pc2 := 75) (st2 := [.int r20, .ref 0]) rfl ?_
    obtain ⟨r24, w25, hq23, h⟩ := bnd2_inv h
    refine q_callV X [0, 1, 2, 3, 4, 5, 6, 7, 8, 9] [] (AH2 := [.inr (9, [.ref 1, .ref 2, .ref 3, .ref 4, .int (MVPc w25), .int (MVIs w25), .int (MVTh w25), .ref 5, .int (MVSl w25), .ref 6, .int (MVLn w25), .int (MVEc w25), .int (MVEo w25), .int (MVSa w25), .int (MVEn w25), .int (MVTk w25), .int (MVVa w25), .int (MVFa w25), .int (MVFo w25), .ref 7, .int (MVSc w25), .ref 8, .ref 9, .int (MVOl w25)]), .inl (0, 500, .inl (MVSt w25)), .inl (0, 500, .inl (MVAs w25)), .inl (0, 500, .inl (MVSv w25)), .inl (0, 4000, .inl (MVPt w25)), .inl (0, 6, .inl (MVSp w25)), .inl (3, 600, .inl (MVBf w25)), .inl (0, 150, .inl (MVSm w25)), .inl (0, 40, .inl (MVOr w25)), .inl (3, 240, .inl (MVOu w25))]) (st2 := []) (c_X9_addQueue _ _ _ _ hq23) ⟨rfl, rfl⟩ rfl k_X9_addQueue l_X9_53 rfl rfl rfl rfl rfl (fit_of hR (by decide) (by decide) (by decide) (by decide)) (Nat.le_of_ble_eq_true rfl) (by decide) rfl rfl rfl ?_
    cases h
    exact r_vret X rfl rfl ⟨rfl, rfl⟩ (by decide) (by decide)
set_option maxHeartbeats 400000 in
set_option maxRecDepth 20000 in
theorem a_X9_parseQueue_j45 {κ : KX} (X : CX κ z_X9_parseQueue) (hR : κR κ = rmM 4 0 0) : ∀ (v : MV) (r : Unit) (w : MV) (h : f_X9_parseQueue_j45 v = some (r, w)), AW κ (QM κ (PST (.inl none) (WM w)) 0 0) 45 [some (.ref 0), none] [.ref 0] (WM v) 0 0 := by
  intro v r w h
  unfold f_X9_parseQueue_j45 at h
  refine AW.eq (pc' := 45) (ls' := [some (.ref 0), none]) (st' := [.ref 0]) (AH' := [.inr (9, [.ref 1, .ref 2, .ref 3, .ref 4, .int (MVPc v), .int (MVIs v), .int (MVTh v), .ref 5, .int (MVSl v), .ref 6, .int (MVLn v), .int (MVEc v), .int (MVEo v), .int (MVSa v), .int (MVEn v), .int (MVTk v), .int (MVVa v), .int (MVFa v), .int (MVFo v), .ref 7, .int (MVSc v), .ref 8, .ref 9, .int (MVOl v)]), .inl (0, 500, .inl (MVSt v)), .inl (0, 500, .inl (MVAs v)), .inl (0, 500, .inl (MVSv v)), .inl (0, 4000, .inl (MVPt v)), .inl (0, 6, .inl (MVSp v)), .inl (3, 600, .inl (MVBf v)), .inl (0, 150, .inl (MVSm v)), .inl (0, 40, .inl (MVOr v)), .inl (3, 240, .inl (MVOu v))]) ?_ rfl rfl rfl rfl
  refine go_s 2 X (pc2 := 50) (st2 := [.int 1, .ref 0]) rfl ?_
  exact AW.eq (a_X9_parseQueue_j50 X hR _ _ _ _ h) rfl rfl rfl rfl
set_option maxHeartbeats 400000 in
set_option maxRecDepth 20000 in
theorem a_X9_parseQueue_j17 {κ : KX} (X : CX κ z_X9_parseQueue) (hR : κR κ = rmM 4 0 0) : ∀ (s0 : Int32) (v : MV) (r : Unit) (w : MV) (h : f_X9_parseQueue_j17 s0 v = some (r, w)), AW κ (QM κ (PST (.inl none) (WM w)) 0 0) 17 [some (.ref 0), none] [.int s0, .ref 0] (WM v) 0 0 := by
  intro s0 v r w h
  unfold f_X9_parseQueue_j17 at h
  refine AW.eq (pc' := 17) (ls' := [some (.ref 0), none]) (st' := [.int s0, .ref 0]) (AH' := [.inr (9, [.ref 1, .ref 2, .ref 3, .ref 4, .int (MVPc v), .int (MVIs v), .int (MVTh v), .ref 5, .int (MVSl v), .ref 6, .int (MVLn v), .int (MVEc v), .int (MVEo v), .int (MVSa v), .int (MVEn v), .int (MVTk v), .int (MVVa v), .int (MVFa v), .int (MVFo v), .ref 7, .int (MVSc v), .ref 8, .ref 9, .int (MVOl v)]), .inl (0, 500, .inl (MVSt v)), .inl (0, 500, .inl (MVAs v)), .inl (0, 500, .inl (MVSv v)), .inl (0, 4000, .inl (MVPt v)), .inl (0, 6, .inl (MVSp v)), .inl (3, 600, .inl (MVBf v)), .inl (0, 150, .inl (MVSm v)), .inl (0, 40, .inl (MVOr v)), .inl (3, 240, .inl (MVOu v))]) ?_ rfl rfl rfl rfl
  refine go_s 1 X (pc2 := 18) (st2 := [.int 4, .int s0, .ref 0]) rfl ?_
  obtain ⟨r4, w5, hq3, h⟩ := bnd2_inv h
  refine q_callV X [0, 1, 2, 3, 4, 5, 6, 7, 8, 9] [] (AH2 := [.inr (9, [.ref 1, .ref 2, .ref 3, .ref 4, .int (MVPc w5), .int (MVIs w5), .int (MVTh w5), .ref 5, .int (MVSl w5), .ref 6, .int (MVLn w5), .int (MVEc w5), .int (MVEo w5), .int (MVSa w5), .int (MVEn w5), .int (MVTk w5), .int (MVVa w5), .int (MVFa w5), .int (MVFo w5), .ref 7, .int (MVSc w5), .ref 8, .ref 9, .int (MVOl w5)]), .inl (0, 500, .inl (MVSt w5)), .inl (0, 500, .inl (MVAs w5)), .inl (0, 500, .inl (MVSv w5)), .inl (0, 4000, .inl (MVPt w5)), .inl (0, 6, .inl (MVSp w5)), .inl (3, 600, .inl (MVBf w5)), .inl (0, 150, .inl (MVSm w5)), .inl (0, 40, .inl (MVOr w5)), .inl (3, 240, .inl (MVOu w5))]) (st2 := []) (c_X9_expect _ _ _ _ _ hq3) ⟨rfl, rfl⟩ rfl k_X9_expect l_X9_197 rfl rfl rfl rfl rfl (fit_of hR (by decide) (by decide) (by decide) (by decide)) (Nat.le_of_ble_eq_true rfl) (by decide) rfl rfl rfl ?_
  refine go_s 1 X (pc2 := 22) (st2 := [.ref 0]) rfl ?_
  obtain ⟨r7, w8, hq6, h⟩ := bnd2_inv h
  refine q_callV X [0, 1, 2, 3, 4, 5, 6, 7, 8, 9] [] (AH2 := [.inr (9, [.ref 1, .ref 2, .ref 3, .ref 4, .int (MVPc w8), .int (MVIs w8), .int (MVTh w8), .ref 5, .int (MVSl w8), .ref 6, .int (MVLn w8), .int (MVEc w8), .int (MVEo w8), .int (MVSa w8), .int (MVEn w8), .int (MVTk w8), .int (MVVa w8), .int (MVFa w8), .int (MVFo w8), .ref 7, .int (MVSc w8), .ref 8, .ref 9, .int (MVOl w8)]), .inl (0, 500, .inl (MVSt w8)), .inl (0, 500, .inl (MVAs w8)), .inl (0, 500, .inl (MVSv w8)), .inl (0, 4000, .inl (MVPt w8)), .inl (0, 6, .inl (MVSp w8)), .inl (3, 600, .inl (MVBf w8)), .inl (0, 150, .inl (MVSm w8)), .inl (0, 40, .inl (MVOr w8)), .inl (3, 240, .inl (MVOu w8))]) (st2 := []) (c_X9_advanceToken _ _ _ hq6) ⟨rfl, rfl⟩ rfl k_X9_advanceToken l_X9_191 rfl rfl rfl rfl rfl (fit_of hR (by decide) (by decide) (by decide) (by decide)) (Nat.le_of_ble_eq_true rfl) (by decide) rfl rfl rfl ?_
  refine go_s 1 X (pc2 := 26) (st2 := [.ref 0]) rfl ?_
  obtain ⟨r10, w11, hq9, h⟩ := bnd2_inv h
  refine q_callV X [0, 1, 2, 3, 4, 5, 6, 7, 8, 9] [] (AH2 := [.inr (9, [.ref 1, .ref 2, .ref 3, .ref 4, .int (MVPc w11), .int (MVIs w11), .int (MVTh w11), .ref 5, .int (MVSl w11), .ref 6, .int (MVLn w11), .int (MVEc w11), .int (MVEo w11), .int (MVSa w11), .int (MVEn w11), .int (MVTk w11), .int (MVVa w11), .int (MVFa w11), .int (MVFo w11), .ref 7, .int (MVSc w11), .ref 8, .ref 9, .int (MVOl w11)]), .inl (0, 500, .inl (MVSt w11)), .inl (0, 500, .inl (MVAs w11)), .inl (0, 500, .inl (MVSv w11)), .inl (0, 4000, .inl (MVPt w11)), .inl (0, 6, .inl (MVSp w11)), .inl (3, 600, .inl (MVBf w11)), .inl (0, 150, .inl (MVSm w11)), .inl (0, 40, .inl (MVOr w11)), .inl (3, 240, .inl (MVOu w11))]) (st2 := []) (c_X9_spellName _ _ _ hq9) ⟨rfl, rfl⟩ rfl k_X9_spellName l_X9_201 rfl rfl rfl rfl rfl (fit_of hR (by decide) (by decide) (by decide) (by decide)) (Nat.le_of_ble_eq_true rfl) (by decide) rfl rfl rfl ?_
  refine go_s 3 X (pc2 := 34) (st2 := [.int (MVFa w11), .ref 0]) rfl ?_
  refine r_if_gt X 45 rfl rfl (fun c12 => ?_) (fun c12 => ?_)
  · rw [if_pos c12] at h
    exact AW.eq (a_X9_parseQueue_j45 X hR _ _ _ h) rfl rfl rfl rfl
  · rw [if_neg c12] at h
    refine go_s 1 X (pc2 := 38) (st2 := [.ref 0, .ref 0]) rfl ?_
    obtain ⟨r27, hq26, h⟩ := obind_inv h
    refine q_callV X [0, 1, 2, 3, 4, 5, 6, 7, 8, 9] [] (AH2 := [.inr (9, [.ref 1, .ref 2, .ref 3, .ref 4, .int (MVPc w11), .int (MVIs w11), .int (MVTh w11), .ref 5, .int (MVSl w11), .ref 6, .int (MVLn w11), .int (MVEc w11), .int (MVEo w11), .int (MVSa w11), .int (MVEn w11), .int (MVTk w11), .int (MVVa w11), .int (MVFa w11), .int (MVFo w11), .ref 7, .int (MVSc w11), .ref 8, .ref 9, .int (MVOl w11)]), .inl (0, 500, .inl (MVSt w11)), .inl (0, 500, .inl (MVAs w11)), .inl (0, 500, .inl (MVSv w11)), .inl (0, 4000, .inl (MVPt w11)), .inl (0, 6, .inl (MVSp w11)), .inl (3, 600, .inl (MVBf w11)), .inl (0, 150, .inl (MVSm w11)), .inl (0, 40, .inl (MVOr w11)), .inl (3, 240, .inl (MVOu w11))]) (st2 := [.int r27, .ref 0]) (c_X9_spelledQueue _ _ hq26) ⟨rfl, rfl⟩ rfl k_X9_spelledQueue l_X9_204 rfl rfl rfl rfl rfl (fit_of hR (by decide) (by decide) (by decide) (by decide)) (Nat.le_of_ble_eq_true rfl) (by decide) rfl rfl rfl ?_
    refine go_s 1 X (pc2 := 42) (st2 := [.int (-1), .int r27, .ref 0]) rfl ?_
    refine r_icmp_ne X 49 rfl rfl (fun c29 => ?_) (fun c29 => ?_)
    · rw [if_neg c29] at h
      refine go_s 1 X (pc2 := 50) (st2 := [.int 0, .ref 0]) rfl ?_
      exact AW.eq (a_X9_parseQueue_j50 X hR _ _ _ _ h) rfl rfl rfl rfl
    · rw [if_pos c29] at h
      exact AW.eq (a_X9_parseQueue_j45 X hR _ _ _ h) rfl rfl rfl rfl
set_option maxHeartbeats 400000 in
set_option maxRecDepth 20000 in
theorem c_X9_parseQueue (v : MV) (r : Unit) (w : MV) (h : f_X9_parseQueue v = some (r, w)) : Sem z_X9_parseQueue 4 0 0 [.ref 0] (WM v) (PST (.inl none) (WM w)) := by
  refine Sem.of zo_X9_parseQueue (by decide +kernel) (Nat.le_of_ble_eq_true rfl) fun κ X hE hR hN => ?_
  unfold f_X9_parseQueue at h
  refine AW.eq (pc' := 0) (ls' := [some (.ref 0), none]) (st' := []) (AH' := [.inr (9, [.ref 1, .ref 2, .ref 3, .ref 4, .int (MVPc v), .int (MVIs v), .int (MVTh v), .ref 5, .int (MVSl v), .ref 6, .int (MVLn v), .int (MVEc v), .int (MVEo v), .int (MVSa v), .int (MVEn v), .int (MVTk v), .int (MVVa v), .int (MVFa v), .int (MVFo v), .ref 7, .int (MVSc v), .ref 8, .ref 9, .int (MVOl v)]), .inl (0, 500, .inl (MVSt v)), .inl (0, 500, .inl (MVAs v)), .inl (0, 500, .inl (MVSv v)), .inl (0, 4000, .inl (MVPt v)), .inl (0, 6, .inl (MVSp v)), .inl (3, 600, .inl (MVBf v)), .inl (0, 150, .inl (MVSm v)), .inl (0, 40, .inl (MVOr v)), .inl (3, 240, .inl (MVOu v))]) ?_ rfl rfl rfl rfl
  refine go_s 4 X (pc2 := 6) (st2 := [.int 0, .ref 1, .ref 0]) rfl ?_
  by_cases b1 : oob 0 500
  · rw [if_pos b1] at h; cases h
  rw [if_neg b1] at h
  refine r_iald X rfl rfl b1 ?_
  refine go_s 1 X (pc2 := 9) (st2 := [.int 6, .int ((MVSt v) (Int32.toNatClampNeg 0)), .ref 0]) rfl ?_
  refine r_icmp_ge X 16 rfl rfl (fun c2 => ?_) (fun c2 => ?_)
  · rw [if_pos c2] at h
    refine go_s 1 X (pc2 := 17) (st2 := [.int 0, .ref 0]) rfl ?_
    exact AW.eq (a_X9_parseQueue_j17 X hR _ _ _ _ h) rfl rfl rfl rfl
  · rw [if_neg c2] at h
    refine go_s 2 X (pc2 := 17) (st2 := [.int 1, .ref 0]) rfl ?_
    exact AW.eq (a_X9_parseQueue_j17 X hR _ _ _ _ h) rfl rfl rfl rfl
set_option maxHeartbeats 400000 in
set_option maxRecDepth 20000 in
theorem a_X9_parsePart_j54 {κ : KX} (X : CX κ z_X9_parsePart) (hR : κR κ = rmM 58 0 0) : ∀ (v : MV) (r : Unit) (w : MV) (h : f_X9_parsePart_j54 v = some (r, w)), AW κ (QM κ (PST (.inl none) (WM w)) 0 0) 54 [some (.ref 0)] [] (WM v) 0 0 := by
  intro v r w h
  unfold f_X9_parsePart_j54 at h
  refine AW.eq (pc' := 54) (ls' := [some (.ref 0)]) (st' := []) (AH' := [.inr (9, [.ref 1, .ref 2, .ref 3, .ref 4, .int (MVPc v), .int (MVIs v), .int (MVTh v), .ref 5, .int (MVSl v), .ref 6, .int (MVLn v), .int (MVEc v), .int (MVEo v), .int (MVSa v), .int (MVEn v), .int (MVTk v), .int (MVVa v), .int (MVFa v), .int (MVFo v), .ref 7, .int (MVSc v), .ref 8, .ref 9, .int (MVOl v)]), .inl (0, 500, .inl (MVSt v)), .inl (0, 500, .inl (MVAs v)), .inl (0, 500, .inl (MVSv v)), .inl (0, 4000, .inl (MVPt v)), .inl (0, 6, .inl (MVSp v)), .inl (3, 600, .inl (MVBf v)), .inl (0, 150, .inl (MVSm v)), .inl (0, 40, .inl (MVOr v)), .inl (3, 240, .inl (MVOu v))]) ?_ rfl rfl rfl rfl
  refine go_s 1 X (pc2 := 55) (st2 := [.ref 0]) rfl ?_
  obtain ⟨r17, w18, hq16, h⟩ := bnd2_inv h
  refine q_callV X [0, 1, 2, 3, 4, 5, 6, 7, 8, 9] [] (AH2 := [.inr (9, [.ref 1, .ref 2, .ref 3, .ref 4, .int (MVPc w18), .int (MVIs w18), .int (MVTh w18), .ref 5, .int (MVSl w18), .ref 6, .int (MVLn w18), .int (MVEc w18), .int (MVEo w18), .int (MVSa w18), .int (MVEn w18), .int (MVTk w18), .int (MVVa w18), .int (MVFa w18), .int (MVFo w18), .ref 7, .int (MVSc w18), .ref 8, .ref 9, .int (MVOl w18)]), .inl (0, 500, .inl (MVSt w18)), .inl (0, 500, .inl (MVAs w18)), .inl (0, 500, .inl (MVSv w18)), .inl (0, 4000, .inl (MVPt w18)), .inl (0, 6, .inl (MVSp w18)), .inl (3, 600, .inl (MVBf w18)), .inl (0, 150, .inl (MVSm w18)), .inl (0, 40, .inl (MVOr w18)), .inl (3, 240, .inl (MVOu w18))]) (st2 := []) (c_X9_parseSemicolon _ _ _ hq16) ⟨rfl, rfl⟩ rfl k_X9_parseSemicolon l_X9_243 rfl rfl rfl rfl rfl (fit_of hR (by decide) (by decide) (by decide) (by decide)) (Nat.le_of_ble_eq_true rfl) (by decide) rfl rfl rfl ?_
  cases h
  exact r_vret X rfl rfl ⟨rfl, rfl⟩ (by decide) (by decide)
set_option maxHeartbeats 400000 in
set_option maxRecDepth 20000 in
theorem c_X9_parsePart (v : MV) (r : Unit) (w : MV) (h : f_X9_parsePart v = some (r, w)) : Sem z_X9_parsePart 58 0 0 [.ref 0] (WM v) (PST (.inl none) (WM w)) := by
  refine Sem.of zo_X9_parsePart (by decide +kernel) (Nat.le_of_ble_eq_true rfl) fun κ X hE hR hN => ?_
  unfold f_X9_parsePart at h
  refine AW.eq (pc' := 0) (ls' := [some (.ref 0)]) (st' := []) (AH' := [.inr (9, [.ref 1, .ref 2, .ref 3, .ref 4, .int (MVPc v), .int (MVIs v), .int (MVTh v), .ref 5, .int (MVSl v), .ref 6, .int (MVLn v), .int (MVEc v), .int (MVEo v), .int (MVSa v), .int (MVEn v), .int (MVTk v), .int (MVVa v), .int (MVFa v), .int (MVFo v), .ref 7, .int (MVSc v), .ref 8, .ref 9, .int (MVOl v)]), .inl (0, 500, .inl (MVSt v)), .inl (0, 500, .inl (MVAs v)), .inl (0, 500, .inl (MVSv v)), .inl (0, 4000, .inl (MVPt v)), .inl (0, 6, .inl (MVSp v)), .inl (3, 600, .inl (MVBf v)), .inl (0, 150, .inl (MVSm v)), .inl (0, 40, .inl (MVOr v)), .inl (3, 240, .inl (MVOu v))]) ?_ rfl rfl rfl rfl
  refine go_s 1 X (pc2 := 1) (st2 := [.ref 0]) rfl ?_
  refine r_ldcS X 27 rfl rfl ?_
  obtain ⟨r2, hq1, h⟩ := obind_inv h
  refine q_callV X [0, 1, 2, 3, 4, 5, 6, 7, 8, 9] [] (AH2 := [.inr (9, [.ref 1, .ref 2, .ref 3, .ref 4, .int (MVPc v), .int (MVIs v), .int (MVTh v), .ref 5, .int (MVSl v), .ref 6, .int (MVLn v), .int (MVEc v), .int (MVEo v), .int (MVSa v), .int (MVEn v), .int (MVTk v), .int (MVVa v), .int (MVFa v), .int (MVFo v), .ref 7, .int (MVSc v), .ref 8, .ref 9, .int (MVOl v)]), .inl (0, 500, .inl (MVSt v)), .inl (0, 500, .inl (MVAs v)), .inl (0, 500, .inl (MVSv v)), .inl (0, 4000, .inl (MVPt v)), .inl (0, 6, .inl (MVSp v)), .inl (3, 600, .inl (MVBf v)), .inl (0, 150, .inl (MVSm v)), .inl (0, 40, .inl (MVOr v)), .inl (3, 240, .inl (MVOu v))]) (st2 := [.int r2]) (c_X9_isWord _ _ _ hq1 (by decide)) ⟨rfl, rfl⟩ rfl k_X9_isWord l_X9_226 rfl rfl rfl rfl rfl (fit_of hR (by decide) (by decide) (by decide) (by decide)) (Nat.le_of_ble_eq_true rfl) (by decide) rfl rfl rfl ?_
  refine r_if_eq X 16 rfl rfl (fun c4 => ?_) (fun c4 => ?_)
  · rw [if_pos c4] at h
    refine go_s 1 X (pc2 := 17) (st2 := [.ref 0]) rfl ?_
    refine r_ldcS X 28 rfl rfl ?_
    obtain ⟨r6, hq5, h⟩ := obind_inv h
    refine q_callV X [0, 1, 2, 3, 4, 5, 6, 7, 8, 9] [] (AH2 := [.inr (9, [.ref 1, .ref 2, .ref 3, .ref 4, .int (MVPc v), .int (MVIs v), .int (MVTh v), .ref 5, .int (MVSl v), .ref 6, .int (MVLn v), .int (MVEc v), .int (MVEo v), .int (MVSa v), .int (MVEn v), .int (MVTk v), .int (MVVa v), .int (MVFa v), .int (MVFo v), .ref 7, .int (MVSc v), .ref 8, .ref 9, .int (MVOl v)]), .inl (0, 500, .inl (MVSt v)), .inl (0, 500, .inl (MVAs v)), .inl (0, 500, .inl (MVSv v)), .inl (0, 4000, .inl (MVPt v)), .inl (0, 6, .inl (MVSp v)), .inl (3, 600, .inl (MVBf v)), .inl (0, 150, .inl (MVSm v)), .inl (0, 40, .inl (MVOr v)), .inl (3, 240, .inl (MVOu v))]) (st2 := [.int r6]) (c_X9_isWord _ _ _ hq5 (by decide)) ⟨rfl, rfl⟩ rfl k_X9_isWord l_X9_226 rfl rfl rfl rfl rfl (fit_of hR (by decide) (by decide) (by decide) (by decide)) (Nat.le_of_ble_eq_true rfl) (by decide) rfl rfl rfl ?_
    refine r_if_eq X 32 rfl rfl (fun c8 => ?_) (fun c8 => ?_)
    · rw [if_pos c8] at h
      refine go_s 1 X (pc2 := 33) (st2 := [.ref 0]) rfl ?_
      refine r_ldcS X 29 rfl rfl ?_
      obtain ⟨r10, hq9, h⟩ := obind_inv h
      refine q_callV X [0, 1, 2, 3, 4, 5, 6, 7, 8, 9] [] (AH2 := [.inr (9, [.ref 1, .ref 2, .ref 3, .ref 4, .int (MVPc v), .int (MVIs v), .int (MVTh v), .ref 5, .int (MVSl v), .ref 6, .int (MVLn v), .int (MVEc v), .int (MVEo v), .int (MVSa v), .int (MVEn v), .int (MVTk v), .int (MVVa v), .int (MVFa v), .int (MVFo v), .ref 7, .int (MVSc v), .ref 8, .ref 9, .int (MVOl v)]), .inl (0, 500, .inl (MVSt v)), .inl (0, 500, .inl (MVAs v)), .inl (0, 500, .inl (MVSv v)), .inl (0, 4000, .inl (MVPt v)), .inl (0, 6, .inl (MVSp v)), .inl (3, 600, .inl (MVBf v)), .inl (0, 150, .inl (MVSm v)), .inl (0, 40, .inl (MVOr v)), .inl (3, 240, .inl (MVOu v))]) (st2 := [.int r10]) (c_X9_isWord _ _ _ hq9 (by decide)) ⟨rfl, rfl⟩ rfl k_X9_isWord l_X9_226 rfl rfl rfl rfl rfl (fit_of hR (by decide) (by decide) (by decide) (by decide)) (Nat.le_of_ble_eq_true rfl) (by decide) rfl rfl rfl ?_
      refine r_if_eq X 48 rfl rfl (fun c12 => ?_) (fun c12 => ?_)
      · rw [if_pos c12] at h
        refine go_s 3 X (pc2 := 51) (st2 := [.int 1, .int 0, .ref 0]) rfl ?_
        obtain ⟨r14, w15, hq13, h⟩ := bnd2_inv h
        refine q_callV X [0, 1, 2, 3, 4, 5, 6, 7, 8, 9] [] (AH2 := [.inr (9, [.ref 1, .ref 2, .ref 3, .ref 4, .int (MVPc w15), .int (MVIs w15), .int (MVTh w15), .ref 5, .int (MVSl w15), .ref 6, .int (MVLn w15), .int (MVEc w15), .int (MVEo w15), .int (MVSa w15), .int (MVEn w15), .int (MVTk w15), .int (MVVa w15), .int (MVFa w15), .int (MVFo w15), .ref 7, .int (MVSc w15), .ref 8, .ref 9, .int (MVOl w15)]), .inl (0, 500, .inl (MVSt w15)), .inl (0, 500, .inl (MVAs w15)), .inl (0, 500, .inl (MVSv w15)), .inl (0, 4000, .inl (MVPt w15)), .inl (0, 6, .inl (MVSp w15)), .inl (3, 600, .inl (MVBf w15)), .inl (0, 150, .inl (MVSm w15)), .inl (0, 40, .inl (MVOr w15)), .inl (3, 240, .inl (MVOu w15))]) (st2 := []) (c_X9_expect _ _ _ _ _ hq13) ⟨rfl, rfl⟩ rfl k_X9_expect l_X9_197 rfl rfl rfl rfl rfl (fit_of hR (by decide) (by decide) (by decide) (by decide)) (Nat.le_of_ble_eq_true rfl) (by decide) rfl rfl rfl ?_
        exact AW.eq (a_X9_parsePart_j54 X hR _ _ _ h) rfl rfl rfl rfl
      · rw [if_neg c12] at h
        refine go_s 1 X (pc2 := 42) (st2 := [.ref 0]) rfl ?_
        obtain ⟨r20, w21, hq19, h⟩ := bnd2_inv h
        refine q_callV X [0, 1, 2, 3, 4, 5, 6, 7, 8, 9] [] (AH2 := [.inr (9, [.ref 1, .ref 2, .ref 3, .ref 4, .int (MVPc w21), .int (MVIs w21), .int (MVTh w21), .ref 5, .int (MVSl w21), .ref 6, .int (MVLn w21), .int (MVEc w21), .int (MVEo w21), .int (MVSa w21), .int (MVEn w21), .int (MVTk w21), .int (MVVa w21), .int (MVFa w21), .int (MVFo w21), .ref 7, .int (MVSc w21), .ref 8, .ref 9, .int (MVOl w21)]), .inl (0, 500, .inl (MVSt w21)), .inl (0, 500, .inl (MVAs w21)), .inl (0, 500, .inl (MVSv w21)), .inl (0, 4000, .inl (MVPt w21)), .inl (0, 6, .inl (MVSp w21)), .inl (3, 600, .inl (MVBf w21)), .inl (0, 150, .inl (MVSm w21)), .inl (0, 40, .inl (MVOr w21)), .inl (3, 240, .inl (MVOu w21))]) (st2 := []) (c_X9_parseJob _ _ _ hq19) ⟨rfl, rfl⟩ rfl k_X9_parseJob l_X9_240 rfl rfl rfl rfl rfl (fit_of hR (by decide) (by decide) (by decide) (by decide)) (Nat.le_of_ble_eq_true rfl) (by decide) rfl rfl rfl ?_
        refine go_s 1 X (pc2 := 54) (st2 := []) rfl ?_
        exact AW.eq (a_X9_parsePart_j54 X hR _ _ _ h) rfl rfl rfl rfl
    · rw [if_neg c8] at h
      refine go_s 1 X (pc2 := 26) (st2 := [.ref 0]) rfl ?_
      obtain ⟨r23, w24, hq22, h⟩ := bnd2_inv h
      refine q_callV X [0, 1, 2, 3, 4, 5, 6, 7, 8, 9] [] (AH2 := [.inr (9, [.ref 1, .ref 2, .ref 3, .ref 4, .int (MVPc w24), .int (MVIs w24), .int (MVTh w24), .ref 5, .int (MVSl w24), .ref 6, .int (MVLn w24), .int (MVEc w24), .int (MVEo w24), .int (MVSa w24), .int (MVEn w24), .int (MVTk w24), .int (MVVa w24), .int (MVFa w24), .int (MVFo w24), .ref 7, .int (MVSc w24), .ref 8, .ref 9, .int (MVOl w24)]), .inl (0, 500, .inl (MVSt w24)), .inl (0, 500, .inl (MVAs w24)), .inl (0, 500, .inl (MVSv w24)), .inl (0, 4000, .inl (MVPt w24)), .inl (0, 6, .inl (MVSp w24)), .inl (3, 600, .inl (MVBf w24)), .inl (0, 150, .inl (MVSm w24)), .inl (0, 40, .inl (MVOr w24)), .inl (3, 240, .inl (MVOu w24))]) (st2 := []) (c_X9_parseOwner _ _ _ hq22) ⟨rfl, rfl⟩ rfl k_X9_parseOwner l_X9_235 rfl rfl rfl rfl rfl (fit_of hR (by decide) (by decide) (by decide) (by decide)) (Nat.le_of_ble_eq_true rfl) (by decide) rfl rfl rfl ?_
      refine go_s 1 X (pc2 := 54) (st2 := []) rfl ?_
      exact AW.eq (a_X9_parsePart_j54 X hR _ _ _ h) rfl rfl rfl rfl
  · rw [if_neg c4] at h
    refine go_s 1 X (pc2 := 10) (st2 := [.ref 0]) rfl ?_
    obtain ⟨r26, w27, hq25, h⟩ := bnd2_inv h
    refine q_callV X [0, 1, 2, 3, 4, 5, 6, 7, 8, 9] [] (AH2 := [.inr (9, [.ref 1, .ref 2, .ref 3, .ref 4, .int (MVPc w27), .int (MVIs w27), .int (MVTh w27), .ref 5, .int (MVSl w27), .ref 6, .int (MVLn w27), .int (MVEc w27), .int (MVEo w27), .int (MVSa w27), .int (MVEn w27), .int (MVTk w27), .int (MVVa w27), .int (MVFa w27), .int (MVFo w27), .ref 7, .int (MVSc w27), .ref 8, .ref 9, .int (MVOl w27)]), .inl (0, 500, .inl (MVSt w27)), .inl (0, 500, .inl (MVAs w27)), .inl (0, 500, .inl (MVSv w27)), .inl (0, 4000, .inl (MVPt w27)), .inl (0, 6, .inl (MVSp w27)), .inl (3, 600, .inl (MVBf w27)), .inl (0, 150, .inl (MVSm w27)), .inl (0, 40, .inl (MVOr w27)), .inl (3, 240, .inl (MVOu w27))]) (st2 := []) (c_X9_parseQueue _ _ _ hq25) ⟨rfl, rfl⟩ rfl k_X9_parseQueue l_X9_230 rfl rfl rfl rfl rfl (fit_of hR (by decide) (by decide) (by decide) (by decide)) (Nat.le_of_ble_eq_true rfl) (by decide) rfl rfl rfl ?_
    refine go_s 1 X (pc2 := 54) (st2 := []) rfl ?_
    exact AW.eq (a_X9_parsePart_j54 X hR _ _ _ h) rfl rfl rfl rfl
set_option maxHeartbeats 400000 in
set_option maxRecDepth 20000 in
theorem a_X9_loadSetup_j66 {κ : KX} (X : CX κ z_X9_loadSetup) (hR : κR κ = rmM 59 0 0) : ∀ (s0 : Int32) (v : MV) (r : Int32) (w : MV) (h : f_X9_loadSetup_j66 s0 v = some (r, w)), AW κ (QM κ (PST (.inl (some (.int r))) (WM w)) 0 0) 66 [some (.ref 0)] [.int s0, .ref 0] (WM v) 0 0 := by
  intro s0 v r w h
  unfold f_X9_loadSetup_j66 at h
  refine AW.eq (pc' := 66) (ls' := [some (.ref 0)]) (st' := [.int s0, .ref 0]) (AH' := [.inr (9, [.ref 1, .ref 2, .ref 3, .ref 4, .int (MVPc v), .int (MVIs v), .int (MVTh v), .ref 5, .int (MVSl v), .ref 6, .int (MVLn v), .int (MVEc v), .int (MVEo v), .int (MVSa v), .int (MVEn v), .int (MVTk v), .int (MVVa v), .int (MVFa v), .int (MVFo v), .ref 7, .int (MVSc v), .ref 8, .ref 9, .int (MVOl v)]), .inl (0, 500, .inl (MVSt v)), .inl (0, 500, .inl (MVAs v)), .inl (0, 500, .inl (MVSv v)), .inl (0, 4000, .inl (MVPt v)), .inl (0, 6, .inl (MVSp v)), .inl (3, 600, .inl (MVBf v)), .inl (0, 150, .inl (MVSm v)), .inl (0, 40, .inl (MVOr v)), .inl (3, 240, .inl (MVOu v))]) ?_ rfl rfl rfl rfl
  refine go_s 1 X (pc2 := 67) (st2 := [.int 5, .int s0, .ref 0]) rfl ?_
  obtain ⟨r14, w15, hq13, h⟩ := bnd2_inv h
  refine q_callV X [0, 1, 2, 3, 4, 5, 6, 7, 8, 9] [] (AH2 := [.inr (9, [.ref 1, .ref 2, .ref 3, .ref 4, .int (MVPc w15), .int (MVIs w15), .int (MVTh w15), .ref 5, .int (MVSl w15), .ref 6, .int (MVLn w15), .int (MVEc w15), .int (MVEo w15), .int (MVSa w15), .int (MVEn w15), .int (MVTk w15), .int (MVVa w15), .int (MVFa w15), .int (MVFo w15), .ref 7, .int (MVSc w15), .ref 8, .ref 9, .int (MVOl w15)]), .inl (0, 500, .inl (MVSt w15)), .inl (0, 500, .inl (MVAs w15)), .inl (0, 500, .inl (MVSv w15)), .inl (0, 4000, .inl (MVPt w15)), .inl (0, 6, .inl (MVSp w15)), .inl (3, 600, .inl (MVBf w15)), .inl (0, 150, .inl (MVSm w15)), .inl (0, 40, .inl (MVOr w15)), .inl (3, 240, .inl (MVOu w15))]) (st2 := []) (c_X9_expect _ _ _ _ _ hq13) ⟨rfl, rfl⟩ rfl k_X9_expect l_X9_197 rfl rfl rfl rfl rfl (fit_of hR (by decide) (by decide) (by decide) (by decide)) (Nat.le_of_ble_eq_true rfl) (by decide) rfl rfl rfl ?_
  refine go_s 1 X (pc2 := 71) (st2 := [.ref 0]) rfl ?_
  obtain ⟨r17, w18, hq16, h⟩ := bnd2_inv h
  refine q_callV X [0, 1, 2, 3, 4, 5, 6, 7, 8, 9] [] (AH2 := [.inr (9, [.ref 1, .ref 2, .ref 3, .ref 4, .int (MVPc w18), .int (MVIs w18), .int (MVTh w18), .ref 5, .int (MVSl w18), .ref 6, .int (MVLn w18), .int (MVEc w18), .int (MVEo w18), .int (MVSa w18), .int (MVEn w18), .int (MVTk w18), .int (MVVa w18), .int (MVFa w18), .int (MVFo w18), .ref 7, .int (MVSc w18), .ref 8, .ref 9, .int (MVOl w18)]), .inl (0, 500, .inl (MVSt w18)), .inl (0, 500, .inl (MVAs w18)), .inl (0, 500, .inl (MVSv w18)), .inl (0, 4000, .inl (MVPt w18)), .inl (0, 6, .inl (MVSp w18)), .inl (3, 600, .inl (MVBf w18)), .inl (0, 150, .inl (MVSm w18)), .inl (0, 40, .inl (MVOr w18)), .inl (3, 240, .inl (MVOu w18))]) (st2 := []) (c_X9_endText _ _ _ hq16) ⟨rfl, rfl⟩ rfl k_X9_endText l_X9_259 rfl rfl rfl rfl rfl (fit_of hR (by decide) (by decide) (by decide) (by decide)) (Nat.le_of_ble_eq_true rfl) (by decide) rfl rfl rfl ?_
  refine go_s 2 X (pc2 := 78) (st2 := [.int (MVFa w18)]) rfl ?_
  refine r_if_le X 91 rfl rfl (fun c19 => ?_) (fun c19 => ?_)
  · rw [if_pos c19] at h
    refine go_s 1 X (pc2 := 92) (st2 := [.ref 0]) rfl ?_
    obtain ⟨r21, w22, hq20, h⟩ := bnd2_inv h
    refine q_callV X [0, 1, 2, 3, 4, 5, 6, 7, 8, 9] [] (AH2 := [.inr (9, [.ref 1, .ref 2, .ref 3, .ref 4, .int (MVPc w22), .int (MVIs w22), .int (MVTh w22), .ref 5, .int (MVSl w22), .ref 6, .int (MVLn w22), .int (MVEc w22), .int (MVEo w22), .int (MVSa w22), .int (MVEn w22), .int (MVTk w22), .int (MVVa w22), .int (MVFa w22), .int (MVFo w22), .ref 7, .int (MVSc w22), .ref 8, .ref 9, .int (MVOl w22)]), .inl (0, 500, .inl (MVSt w22)), .inl (0, 500, .inl (MVAs w22)), .inl (0, 500, .inl (MVSv w22)), .inl (0, 4000, .inl (MVPt w22)), .inl (0, 6, .inl (MVSp w22)), .inl (3, 600, .inl (MVBf w22)), .inl (0, 150, .inl (MVSm w22)), .inl (0, 40, .inl (MVOr w22)), .inl (3, 240, .inl (MVOu w22))]) (st2 := []) (c_X9_clearCounters _ _ _ hq20) ⟨rfl, rfl⟩ rfl k_X9_clearCounters l_X9_64 rfl rfl rfl rfl rfl (fit_of hR (by decide) (by decide) (by decide) (by decide)) (Nat.le_of_ble_eq_true rfl) (by decide) rfl rfl rfl ?_
    refine go 5 X (pc2 := 102) (ls2 := [some (.ref 0)]) (st2 := [.int 0, .ref 0]) (AH2 := [.inr (9, [.ref 1, .ref 2, .ref 3, .ref 4, .int 0, .int (MVIs w22), .int (MVTh w22), .ref 5, .int (MVSl w22), .ref 6, .int (MVLn w22), .int (MVEc w22), .int (MVEo w22), .int (MVSa w22), .int (MVEn w22), .int (MVTk w22), .int (MVVa w22), .int (MVFa w22), .int (MVFo w22), .ref 7, .int (MVSc w22), .ref 8, .ref 9, .int (MVOl w22)]), .inl (0, 500, .inl (MVSt w22)), .inl (0, 500, .inl (MVAs w22)), .inl (0, 500, .inl (MVSv w22)), .inl (0, 4000, .inl (MVPt w22)), .inl (0, 6, .inl (MVSp w22)), .inl (3, 600, .inl (MVBf w22)), .inl (0, 150, .inl (MVSm w22)), .inl (0, 40, .inl (MVOr w22)), .inl (3, 240, .inl (MVOu w22))]) rfl ?_
    refine r_putZ X rfl rfl rfl rfl rfl rfl rfl (by decide) (Nat.le_of_ble_eq_true rfl) ?_
    refine AW.eq (pc' := 105) (ls' := [some (.ref 0)]) (st' := []) (AH' := [.inr (9, [.ref 1, .ref 2, .ref 3, .ref 4, .int 0, .int 0, .int (MVTh w22), .ref 5, .int (MVSl w22), .ref 6, .int (MVLn w22), .int (MVEc w22), .int (MVEo w22), .int (MVSa w22), .int (MVEn w22), .int (MVTk w22), .int (MVVa w22), .int (MVFa w22), .int (MVFo w22), .ref 7, .int (MVSc w22), .ref 8, .ref 9, .int (MVOl w22)]), .inl (0, 500, .inl (MVSt w22)), .inl (0, 500, .inl (MVAs w22)), .inl (0, 500, .inl (MVSv w22)), .inl (0, 4000, .inl (MVPt w22)), .inl (0, 6, .inl (MVSp w22)), .inl (3, 600, .inl (MVBf w22)), .inl (0, 150, .inl (MVSm w22)), .inl (0, 40, .inl (MVOr w22)), .inl (3, 240, .inl (MVOu w22))]) ?_ rfl rfl rfl rfl
    refine go_s 3 X (pc2 := 110) (st2 := [.int 2, .ref 1]) rfl ?_
    by_cases b23 : oob 2 500
    · rw [if_pos b23] at h; cases h
    rw [if_neg b23] at h
    refine r_iald X rfl rfl b23 ?_
    cases h
    exact r_iret X rfl rfl ⟨rfl, rfl⟩ (by decide) (by decide)
  · rw [if_neg c19] at h
    refine go_s 3 X (pc2 := 86) (st2 := [.ref 2, .ref 0]) rfl ?_
    obtain ⟨r25, w26, hq24, h⟩ := bnd2_inv h
    refine q_callV X [0, 1, 2, 3, 4, 5, 6, 7, 8, 9] [] (AH2 := [.inr (9, [.ref 1, .ref 2, .ref 3, .ref 4, .int (MVPc w26), .int (MVIs w26), .int (MVTh w26), .ref 5, .int (MVSl w26), .ref 6, .int (MVLn w26), .int (MVEc w26), .int (MVEo w26), .int (MVSa w26), .int (MVEn w26), .int (MVTk w26), .int (MVVa w26), .int (MVFa w26), .int (MVFo w26), .ref 7, .int (MVSc w26), .ref 8, .ref 9, .int (MVOl w26)]), .inl (0, 500, .inl (MVSt w26)), .inl (0, 500, .inl (MVAs w26)), .inl (0, 500, .inl (MVSv w26)), .inl (0, 4000, .inl (MVPt w26)), .inl (0, 6, .inl (MVSp w26)), .inl (3, 600, .inl (MVBf w26)), .inl (0, 150, .inl (MVSm w26)), .inl (0, 40, .inl (MVOr w26)), .inl (3, 240, .inl (MVOu w26))]) (st2 := []) (c_X9_copyFrom_2 _ _ _ hq24) ⟨rfl, rfl⟩ rfl k_X9_copyFrom l_X9_262 rfl rfl rfl rfl rfl (fit_of hR (by decide) (by decide) (by decide) (by decide)) (Nat.le_of_ble_eq_true rfl) (by decide) rfl rfl rfl ?_
    refine go_s 1 X (pc2 := 90) (st2 := [.int (-1)]) rfl ?_
    cases h
    exact r_iret X rfl rfl ⟨rfl, rfl⟩ (by decide) (by decide)
set_option maxHeartbeats 400000 in
set_option maxRecDepth 20000 in
theorem a_X9_loadSetup_j65 {κ : KX} (X : CX κ z_X9_loadSetup) (hR : κR κ = rmM 59 0 0) : ∀ (v : MV) (r : Int32) (w : MV) (h : f_X9_loadSetup_j65 v = some (r, w)), AW κ (QM κ (PST (.inl (some (.int r))) (WM w)) 0 0) 65 [some (.ref 0)] [.ref 0] (WM v) 0 0 := by
  intro v r w h
  unfold f_X9_loadSetup_j65 at h
  refine AW.eq (pc' := 65) (ls' := [some (.ref 0)]) (st' := [.ref 0]) (AH' := [.inr (9, [.ref 1, .ref 2, .ref 3, .ref 4, .int (MVPc v), .int (MVIs v), .int (MVTh v), .ref 5, .int (MVSl v), .ref 6, .int (MVLn v), .int (MVEc v), .int (MVEo v), .int (MVSa v), .int (MVEn v), .int (MVTk v), .int (MVVa v), .int (MVFa v), .int (MVFo v), .ref 7, .int (MVSc v), .ref 8, .ref 9, .int (MVOl v)]), .inl (0, 500, .inl (MVSt v)), .inl (0, 500, .inl (MVAs v)), .inl (0, 500, .inl (MVSv v)), .inl (0, 4000, .inl (MVPt v)), .inl (0, 6, .inl (MVSp v)), .inl (3, 600, .inl (MVBf v)), .inl (0, 150, .inl (MVSm v)), .inl (0, 40, .inl (MVOr v)), .inl (3, 240, .inl (MVOu v))]) ?_ rfl rfl rfl rfl
  refine go_s 1 X (pc2 := 66) (st2 := [.int 0, .ref 0]) rfl ?_
  exact AW.eq (a_X9_loadSetup_j66 X hR _ _ _ _ h) rfl rfl rfl rfl
set_option maxHeartbeats 400000 in
set_option maxRecDepth 20000 in
theorem a_X9_loadSetup_j42 {κ : KX} (X : CX κ z_X9_loadSetup) (hR : κR κ = rmM 59 0 0) : ∀ (v : MV) (r : Int32) (w : MV) (h : f_X9_loadSetup_j42 v = some (r, w)), AW κ (QM κ (PST (.inl (some (.int r))) (WM w)) 0 0) 42 [some (.ref 0)] [] (WM v) 0 0 := by
  intro v r w h
  unfold f_X9_loadSetup_j42 at h
  refine AW.eq (pc' := 42) (ls' := [some (.ref 0)]) (st' := []) (AH' := [.inr (9, [.ref 1, .ref 2, .ref 3, .ref 4, .int (MVPc v), .int (MVIs v), .int (MVTh v), .ref 5, .int (MVSl v), .ref 6, .int (MVLn v), .int (MVEc v), .int (MVEo v), .int (MVSa v), .int (MVEn v), .int (MVTk v), .int (MVVa v), .int (MVFa v), .int (MVFo v), .ref 7, .int (MVSc v), .ref 8, .ref 9, .int (MVOl v)]), .inl (0, 500, .inl (MVSt v)), .inl (0, 500, .inl (MVAs v)), .inl (0, 500, .inl (MVSv v)), .inl (0, 4000, .inl (MVPt v)), .inl (0, 6, .inl (MVSp v)), .inl (3, 600, .inl (MVBf v)), .inl (0, 150, .inl (MVSm v)), .inl (0, 40, .inl (MVOr v)), .inl (3, 240, .inl (MVOu v))]) ?_ rfl rfl rfl rfl
  refine go_s 4 X (pc2 := 48) (st2 := [.int 0, .ref 1, .ref 0]) rfl ?_
  by_cases b11 : oob 0 500
  · rw [if_pos b11] at h; cases h
  rw [if_neg b11] at h
  refine r_iald X rfl rfl b11 ?_
  refine r_if_le X 65 rfl rfl (fun c12 => ?_) (fun c12 => ?_)
  · rw [if_pos c12] at h
    exact AW.eq (a_X9_loadSetup_j65 X hR _ _ _ h) rfl rfl rfl rfl
  · rw [if_neg c12] at h
    refine go_s 3 X (pc2 := 57) (st2 := [.int 1, .ref 1, .ref 0]) rfl ?_
    by_cases b27 : oob 1 500
    · rw [if_pos b27] at h; cases h
    rw [if_neg b27] at h
    refine r_iald X rfl rfl b27 ?_
    refine r_if_le X 65 rfl rfl (fun c28 => ?_) (fun c28 => ?_)
    · rw [if_pos c28] at h
      exact AW.eq (a_X9_loadSetup_j65 X hR _ _ _ h) rfl rfl rfl rfl
    · rw [if_neg c28] at h
      refine go_s 2 X (pc2 := 66) (st2 := [.int 1, .ref 0]) rfl ?_
      exact AW.eq (a_X9_loadSetup_j66 X hR _ _ _ _ h) rfl rfl rfl rfl
set_option maxHeartbeats 400000 in
set_option maxRecDepth 20000 in
theorem a_X9_loadSetup_h21 {κ : KX} (X : CX κ z_X9_loadSetup) (hR : κR κ = rmM 59 0 0) : ∀ (n : Nat) (v : MV) (r : Int32) (w : MV) (h : f_X9_loadSetup_h21 n v = some (r, w)), AW κ (QM κ (PST (.inl (some (.int r))) (WM w)) 0 0) 21 [some (.ref 0)] [] (WM v) 0 0 := by
  intro n
  induction n with
  | zero =>
    intro v r w h
    unfold f_X9_loadSetup_h21 at h
    cases h
  | succ n ih =>
    intro v r w h
    unfold f_X9_loadSetup_h21 at h
    refine AW.eq (pc' := 21) (ls' := [some (.ref 0)]) (st' := []) (AH' := [.inr (9, [.ref 1, .ref 2, .ref 3, .ref 4, .int (MVPc v), .int (MVIs v), .int (MVTh v), .ref 5, .int (MVSl v), .ref 6, .int (MVLn v), .int (MVEc v), .int (MVEo v), .int (MVSa v), .int (MVEn v), .int (MVTk v), .int (MVVa v), .int (MVFa v), .int (MVFo v), .ref 7, .int (MVSc v), .ref 8, .ref 9, .int (MVOl v)]), .inl (0, 500, .inl (MVSt v)), .inl (0, 500, .inl (MVAs v)), .inl (0, 500, .inl (MVSv v)), .inl (0, 4000, .inl (MVPt v)), .inl (0, 6, .inl (MVSp v)), .inl (3, 600, .inl (MVBf v)), .inl (0, 150, .inl (MVSm v)), .inl (0, 40, .inl (MVOr v)), .inl (3, 240, .inl (MVOu v))]) ?_ rfl rfl rfl rfl
    refine go_s 2 X (pc2 := 25) (st2 := [.int (MVFa v)]) rfl ?_
    refine r_if_ne X 42 rfl rfl (fun c10 => ?_) (fun c10 => ?_)
    · rw [if_neg c10] at h
      exact AW.eq (a_X9_loadSetup_j42 X hR _ _ _ h) rfl rfl rfl rfl
    · rw [if_pos c10] at h
      refine go_s 2 X (pc2 := 32) (st2 := [.int (MVTk v)]) rfl ?_
      refine r_if_eq X 42 rfl rfl (fun c29 => ?_) (fun c29 => ?_)
      · rw [if_pos c29] at h
        exact AW.eq (a_X9_loadSetup_j42 X hR _ _ _ h) rfl rfl rfl rfl
      · rw [if_neg c29] at h
        refine go_s 1 X (pc2 := 36) (st2 := [.ref 0]) rfl ?_
        obtain ⟨r31, w32, hq30, h⟩ := bnd2_inv h
        refine q_callV X [0, 1, 2, 3, 4, 5, 6, 7, 8, 9] [] (AH2 := [.inr (9, [.ref 1, .ref 2, .ref 3, .ref 4, .int (MVPc w32), .int (MVIs w32), .int (MVTh w32), .ref 5, .int (MVSl w32), .ref 6, .int (MVLn w32), .int (MVEc w32), .int (MVEo w32), .int (MVSa w32), .int (MVEn w32), .int (MVTk w32), .int (MVVa w32), .int (MVFa w32), .int (MVFo w32), .ref 7, .int (MVSc w32), .ref 8, .ref 9, .int (MVOl w32)]), .inl (0, 500, .inl (MVSt w32)), .inl (0, 500, .inl (MVAs w32)), .inl (0, 500, .inl (MVSv w32)), .inl (0, 4000, .inl (MVPt w32)), .inl (0, 6, .inl (MVSp w32)), .inl (3, 600, .inl (MVBf w32)), .inl (0, 150, .inl (MVSm w32)), .inl (0, 40, .inl (MVOr w32)), .inl (3, 240, .inl (MVOu w32))]) (st2 := []) (c_X9_parsePart _ _ _ hq30) ⟨rfl, rfl⟩ rfl k_X9_parsePart l_X9_256 rfl rfl rfl rfl rfl (fit_of hR (by decide) (by decide) (by decide) (by decide)) (Nat.le_of_ble_eq_true rfl) (by decide) rfl rfl rfl ?_
        refine go_s 1 X (pc2 := 21) (st2 := []) rfl ?_
        exact AW.eq (ih _ _ _ h) rfl rfl rfl rfl
set_option maxHeartbeats 400000 in
set_option maxRecDepth 20000 in
theorem c_X9_loadSetup (v : MV) (r : Int32) (w : MV) (h : f_X9_loadSetup v = some (r, w)) : Sem z_X9_loadSetup 59 0 0 [.ref 0] (WM v) (PST (.inl (some (.int r))) (WM w)) := by
  refine Sem.of zo_X9_loadSetup (by decide +kernel) (Nat.le_of_ble_eq_true rfl) fun κ X hE hR hN => ?_
  unfold f_X9_loadSetup at h
  refine AW.eq (pc' := 0) (ls' := [some (.ref 0)]) (st' := []) (AH' := [.inr (9, [.ref 1, .ref 2, .ref 3, .ref 4, .int (MVPc v), .int (MVIs v), .int (MVTh v), .ref 5, .int (MVSl v), .ref 6, .int (MVLn v), .int (MVEc v), .int (MVEo v), .int (MVSa v), .int (MVEn v), .int (MVTk v), .int (MVVa v), .int (MVFa v), .int (MVFo v), .ref 7, .int (MVSc v), .ref 8, .ref 9, .int (MVOl v)]), .inl (0, 500, .inl (MVSt v)), .inl (0, 500, .inl (MVAs v)), .inl (0, 500, .inl (MVSv v)), .inl (0, 4000, .inl (MVPt v)), .inl (0, 6, .inl (MVSp v)), .inl (3, 600, .inl (MVBf v)), .inl (0, 150, .inl (MVSm v)), .inl (0, 40, .inl (MVOr v)), .inl (3, 240, .inl (MVOu v))]) ?_ rfl rfl rfl rfl
  refine go 6 X (pc2 := 10) (ls2 := [some (.ref 0)]) (st2 := [.ref 2, .ref 0]) (AH2 := [.inr (9, [.ref 1, .ref 2, .ref 3, .ref 4, .int (MVPc v), .int (MVIs v), .int 0, .ref 5, .int (MVSl v), .ref 6, .int (MVLn v), .int (MVEc v), .int (MVEo v), .int (MVSa v), .int (MVEn v), .int (MVTk v), .int (MVVa v), .int (MVFa v), .int (MVFo v), .ref 7, .int (MVSc v), .ref 8, .ref 9, .int (MVOl v)]), .inl (0, 500, .inl (MVSt v)), .inl (0, 500, .inl (MVAs v)), .inl (0, 500, .inl (MVSv v)), .inl (0, 4000, .inl (MVPt v)), .inl (0, 6, .inl (MVSp v)), .inl (3, 600, .inl (MVBf v)), .inl (0, 150, .inl (MVSm v)), .inl (0, 40, .inl (MVOr v)), .inl (3, 240, .inl (MVOu v))]) rfl ?_
  obtain ⟨r2, w3, hq1, h⟩ := bnd2_inv h
  refine q_callV X [0, 1, 2, 3, 4, 5, 6, 7, 8, 9] [] (AH2 := [.inr (9, [.ref 1, .ref 2, .ref 3, .ref 4, .int (MVPc w3), .int (MVIs w3), .int (MVTh w3), .ref 5, .int (MVSl w3), .ref 6, .int (MVLn w3), .int (MVEc w3), .int (MVEo w3), .int (MVSa w3), .int (MVEn w3), .int (MVTk w3), .int (MVVa w3), .int (MVFa w3), .int (MVFo w3), .ref 7, .int (MVSc w3), .ref 8, .ref 9, .int (MVOl w3)]), .inl (0, 500, .inl (MVSt w3)), .inl (0, 500, .inl (MVAs w3)), .inl (0, 500, .inl (MVSv w3)), .inl (0, 4000, .inl (MVPt w3)), .inl (0, 6, .inl (MVSp w3)), .inl (3, 600, .inl (MVBf w3)), .inl (0, 150, .inl (MVSm w3)), .inl (0, 40, .inl (MVOr w3)), .inl (3, 240, .inl (MVOu w3))]) (st2 := []) (c_X9_copyTo_2 _ _ _ hq1) ⟨rfl, rfl⟩ rfl k_X9_copyTo l_X9_246 rfl rfl rfl rfl rfl (fit_of hR (by decide) (by decide) (by decide) (by decide)) (Nat.le_of_ble_eq_true rfl) (by decide) rfl rfl rfl ?_
  refine go_s 1 X (pc2 := 14) (st2 := [.ref 0]) rfl ?_
  obtain ⟨r5, w6, hq4, h⟩ := bnd2_inv h
  refine q_callV X [0, 1, 2, 3, 4, 5, 6, 7, 8, 9] [] (AH2 := [.inr (9, [.ref 1, .ref 2, .ref 3, .ref 4, .int (MVPc w6), .int (MVIs w6), .int (MVTh w6), .ref 5, .int (MVSl w6), .ref 6, .int (MVLn w6), .int (MVEc w6), .int (MVEo w6), .int (MVSa w6), .int (MVEn w6), .int (MVTk w6), .int (MVVa w6), .int (MVFa w6), .int (MVFo w6), .ref 7, .int (MVSc w6), .ref 8, .ref 9, .int (MVOl w6)]), .inl (0, 500, .inl (MVSt w6)), .inl (0, 500, .inl (MVAs w6)), .inl (0, 500, .inl (MVSv w6)), .inl (0, 4000, .inl (MVPt w6)), .inl (0, 6, .inl (MVSp w6)), .inl (3, 600, .inl (MVBf w6)), .inl (0, 150, .inl (MVSm w6)), .inl (0, 40, .inl (MVOr w6)), .inl (3, 240, .inl (MVOu w6))]) (st2 := []) (c_X9_clear _ _ _ hq4) ⟨rfl, rfl⟩ rfl k_X9_clear l_X9_250 rfl rfl rfl rfl rfl (fit_of hR (by decide) (by decide) (by decide) (by decide)) (Nat.le_of_ble_eq_true rfl) (by decide) rfl rfl rfl ?_
  refine go_s 1 X (pc2 := 18) (st2 := [.ref 0]) rfl ?_
  obtain ⟨r8, w9, hq7, h⟩ := bnd2_inv h
  refine q_callV X [0, 1, 2, 3, 4, 5, 6, 7, 8, 9] [] (AH2 := [.inr (9, [.ref 1, .ref 2, .ref 3, .ref 4, .int (MVPc w9), .int (MVIs w9), .int (MVTh w9), .ref 5, .int (MVSl w9), .ref 6, .int (MVLn w9), .int (MVEc w9), .int (MVEo w9), .int (MVSa w9), .int (MVEn w9), .int (MVTk w9), .int (MVVa w9), .int (MVFa w9), .int (MVFo w9), .ref 7, .int (MVSc w9), .ref 8, .ref 9, .int (MVOl w9)]), .inl (0, 500, .inl (MVSt w9)), .inl (0, 500, .inl (MVAs w9)), .inl (0, 500, .inl (MVSv w9)), .inl (0, 4000, .inl (MVPt w9)), .inl (0, 6, .inl (MVSp w9)), .inl (3, 600, .inl (MVBf w9)), .inl (0, 150, .inl (MVSm w9)), .inl (0, 40, .inl (MVOr w9)), .inl (3, 240, .inl (MVOu w9))]) (st2 := []) (c_X9_beginText _ _ _ hq7) ⟨rfl, rfl⟩ rfl k_X9_beginText l_X9_253 rfl rfl rfl rfl rfl (fit_of hR (by decide) (by decide) (by decide) (by decide)) (Nat.le_of_ble_eq_true rfl) (by decide) rfl rfl rfl ?_
  exact AW.eq (a_X9_loadSetup_h21 X hR FU _ _ _ h) rfl rfl rfl rfl
set_option maxHeartbeats 400000 in
set_option maxRecDepth 20000 in
theorem a_X9_meanRank_h9 {κ : KX} (X : CX κ z_X9_meanRank) (hR : κR κ = rmM 4 0 0) : ∀ (n : Nat) (l1 : Int32) (l2 : Int32) (v : MV) (r : UInt64) (w : MV) (h : f_X9_meanRank_h9 n l1 l2 v = some (r, w)), AW κ (QM κ (PST (.inl (some (.double r))) (WM w)) 0 0) 9 [some (.ref 0), some (.int l1), some (.int l2)] [] (WM v) 0 0 := by
  intro n
  induction n with
  | zero =>
    intro l1 l2 v r w h
    unfold f_X9_meanRank_h9 at h
    cases h
  | succ n ih =>
    intro l1 l2 v r w h
    unfold f_X9_meanRank_h9 at h
    refine AW.eq (pc' := 9) (ls' := [some (.ref 0), some (.int l1), some (.int l2)]) (st' := []) (AH' := [.inr (9, [.ref 1, .ref 2, .ref 3, .ref 4, .int (MVPc v), .int (MVIs v), .int (MVTh v), .ref 5, .int (MVSl v), .ref 6, .int (MVLn v), .int (MVEc v), .int (MVEo v), .int (MVSa v), .int (MVEn v), .int (MVTk v), .int (MVVa v), .int (MVFa v), .int (MVFo v), .ref 7, .int (MVSc v), .ref 8, .ref 9, .int (MVOl v)]), .inl (0, 500, .inl (MVSt v)), .inl (0, 500, .inl (MVAs v)), .inl (0, 500, .inl (MVSv v)), .inl (0, 4000, .inl (MVPt v)), .inl (0, 6, .inl (MVSp v)), .inl (3, 600, .inl (MVBf v)), .inl (0, 150, .inl (MVSm v)), .inl (0, 40, .inl (MVOr v)), .inl (3, 240, .inl (MVOu v))]) ?_ rfl rfl rfl rfl
    refine go_s 4 X (pc2 := 15) (st2 := [.int 2, .ref 1, .int l2]) rfl ?_
    by_cases b1 : oob 2 500
    · rw [if_pos b1] at h; cases h
    rw [if_neg b1] at h
    refine r_iald X rfl rfl b1 ?_
    refine r_icmp_ge X 47 rfl rfl (fun c2 => ?_) (fun c2 => ?_)
    · rw [if_pos c2] at h
      refine go_s 1 X (pc2 := 48) (st2 := [.ref 0]) rfl ?_
      obtain ⟨r4, hq3, h⟩ := obind_inv h
      refine q_callV X [0, 1, 2, 3, 4, 5, 6, 7, 8, 9] [] (AH2 := [.inr (9, [.ref 1, .ref 2, .ref 3, .ref 4, .int (MVPc v), .int (MVIs v), .int (MVTh v), .ref 5, .int (MVSl v), .ref 6, .int (MVLn v), .int (MVEc v), .int (MVEo v), .int (MVSa v), .int (MVEn v), .int (MVTk v), .int (MVVa v), .int (MVFa v), .int (MVFo v), .ref 7, .int (MVSc v), .ref 8, .ref 9, .int (MVOl v)]), .inl (0, 500, .inl (MVSt v)), .inl (0, 500, .inl (MVAs v)), .inl (0, 500, .inl (MVSv v)), .inl (0, 4000, .inl (MVPt v)), .inl (0, 6, .inl (MVSp v)), .inl (3, 600, .inl (MVBf v)), .inl (0, 150, .inl (MVSm v)), .inl (0, 40, .inl (MVOr v)), .inl (3, 240, .inl (MVOu v))]) (st2 := [.int r4]) (c_X9_waitingCount _ _ hq3) ⟨rfl, rfl⟩ rfl k_X9_waitingCount l_X9_383 rfl rfl rfl rfl rfl (fit_of hR (by decide) (by decide) (by decide) (by decide)) (Nat.le_of_ble_eq_true rfl) (by decide) rfl rfl rfl ?_
      refine go_l 2 X (pc2 := 53) (ls2 := [some (.ref 0), some (.int l1), some (.int r4)]) (st2 := [.int r4]) rfl ?_
      refine r_if_ne X 60 rfl rfl (fun c6 => ?_) (fun c6 => ?_)
      · rw [if_neg c6] at h
        refine go_s 4 X (pc2 := 64) (st2 := [.double (FP.i2d r4), .double (FP.i2d l1)]) rfl ?_
        by_cases b7 : ¬ ((FP.ddiv (FP.i2d l1) (FP.i2d r4)) &&& 0x7fffffffffffffff ≤ 0x7ff0000000000000)
        · rw [if_pos b7] at h; cases h
        rw [if_neg b7] at h
        refine r_ddiv X rfl (Classical.not_not.mp b7) ?_
        cases h
        exact r_dret X rfl rfl ⟨rfl, rfl⟩ (by decide) (by decide)
      · rw [if_pos c6] at h
        refine go_s 2 X (pc2 := 65) (st2 := [.double FP.dconst0]) rfl ?_
        cases h
        exact r_dret X rfl rfl ⟨rfl, rfl⟩ (by decide) (by decide)
    · rw [if_neg c2] at h
      refine go_s 3 X (pc2 := 22) (st2 := [.int l2, .ref 0, .int l1]) rfl ?_
      obtain ⟨r9, hq8, h⟩ := obind_inv h
      refine q_callV X [0, 1, 2, 3, 4, 5, 6, 7, 8, 9] [] (AH2 := [.inr (9, [.ref 1, .ref 2, .ref 3, .ref 4, .int (MVPc v), .int (MVIs v), .int (MVTh v), .ref 5, .int (MVSl v), .ref 6, .int (MVLn v), .int (MVEc v), .int (MVEo v), .int (MVSa v), .int (MVEn v), .int (MVTk v), .int (MVVa v), .int (MVFa v), .int (MVFo v), .ref 7, .int (MVSc v), .ref 8, .ref 9, .int (MVOl v)]), .inl (0, 500, .inl (MVSt v)), .inl (0, 500, .inl (MVAs v)), .inl (0, 500, .inl (MVSv v)), .inl (0, 4000, .inl (MVPt v)), .inl (0, 6, .inl (MVSp v)), .inl (3, 600, .inl (MVBf v)), .inl (0, 150, .inl (MVSm v)), .inl (0, 40, .inl (MVOr v)), .inl (3, 240, .inl (MVOu v))]) (st2 := [.int r9, .int l1]) (c_X9_waits _ _ _ hq8) ⟨rfl, rfl⟩ rfl k_X9_waits l_X9_130 rfl rfl rfl rfl rfl (fit_of hR (by decide) (by decide) (by decide) (by decide)) (Nat.le_of_ble_eq_true rfl) (by decide) rfl rfl rfl ?_
      refine r_if_eq X 38 rfl rfl (fun c11 => ?_) (fun c11 => ?_)
      · rw [if_pos c11] at h
        refine go_l 5 X (pc2 := 9) (ls2 := [some (.ref 0), some (.int (l1 + 0)), some (.int (l2 + 1))]) (st2 := []) rfl ?_
        exact AW.eq (ih _ _ _ _ _ h) rfl rfl rfl rfl
      · rw [if_neg c11] at h
        refine go_s 3 X (pc2 := 32) (st2 := [.int 8, .int l2, .ref 0, .int l1]) rfl ?_
        obtain ⟨r13, hq12, h⟩ := obind_inv h
        refine q_callV X [0, 1, 2, 3, 4, 5, 6, 7, 8, 9] [] (AH2 := [.inr (9, [.ref 1, .ref 2, .ref 3, .ref 4, .int (MVPc v), .int (MVIs v), .int (MVTh v), .ref 5, .int (MVSl v), .ref 6, .int (MVLn v), .int (MVEc v), .int (MVEo v), .int (MVSa v), .int (MVEn v), .int (MVTk v), .int (MVVa v), .int (MVFa v), .int (MVFo v), .ref 7, .int (MVSc v), .ref 8, .ref 9, .int (MVOl v)]), .inl (0, 500, .inl (MVSt v)), .inl (0, 500, .inl (MVAs v)), .inl (0, 500, .inl (MVSv v)), .inl (0, 4000, .inl (MVPt v)), .inl (0, 6, .inl (MVSp v)), .inl (3, 600, .inl (MVBf v)), .inl (0, 150, .inl (MVSm v)), .inl (0, 40, .inl (MVOr v)), .inl (3, 240, .inl (MVOu v))]) (st2 := [.int r13, .int l1]) (c_X9_get _ _ _ _ hq12) ⟨rfl, rfl⟩ rfl k_X9_get l_X9_90 rfl rfl rfl rfl rfl (fit_of hR (by decide) (by decide) (by decide) (by decide)) (Nat.le_of_ble_eq_true rfl) (by decide) rfl rfl rfl ?_
        refine go_l 5 X (pc2 := 9) (ls2 := [some (.ref 0), some (.int (l1 + r13)), some (.int (l2 + 1))]) (st2 := []) rfl ?_
        exact AW.eq (ih _ _ _ _ _ h) rfl rfl rfl rfl
set_option maxHeartbeats 400000 in
set_option maxRecDepth 20000 in
theorem c_X9_meanRank (v : MV) (r : UInt64) (w : MV) (h : f_X9_meanRank v = some (r, w)) : Sem z_X9_meanRank 4 0 0 [.ref 0] (WM v) (PST (.inl (some (.double r))) (WM w)) := by
  refine Sem.of zo_X9_meanRank (by decide +kernel) (Nat.le_of_ble_eq_true rfl) fun κ X hE hR hN => ?_
  unfold f_X9_meanRank at h
  refine AW.eq (pc' := 0) (ls' := [some (.ref 0), none, none]) (st' := []) (AH' := [.inr (9, [.ref 1, .ref 2, .ref 3, .ref 4, .int (MVPc v), .int (MVIs v), .int (MVTh v), .ref 5, .int (MVSl v), .ref 6, .int (MVLn v), .int (MVEc v), .int (MVEo v), .int (MVSa v), .int (MVEn v), .int (MVTk v), .int (MVVa v), .int (MVFa v), .int (MVFo v), .ref 7, .int (MVSc v), .ref 8, .ref 9, .int (MVOl v)]), .inl (0, 500, .inl (MVSt v)), .inl (0, 500, .inl (MVAs v)), .inl (0, 500, .inl (MVSv v)), .inl (0, 4000, .inl (MVPt v)), .inl (0, 6, .inl (MVSp v)), .inl (3, 600, .inl (MVBf v)), .inl (0, 150, .inl (MVSm v)), .inl (0, 40, .inl (MVOr v)), .inl (3, 240, .inl (MVOu v))]) ?_ rfl rfl rfl rfl
  refine go 7 X (pc2 := 9) (ls2 := [some (.ref 0), some (.int 0), some (.int 0)]) (st2 := []) (AH2 := [.inr (9, [.ref 1, .ref 2, .ref 3, .ref 4, .int (MVPc v), .int (MVIs v), .int 0, .ref 5, .int (MVSl v), .ref 6, .int (MVLn v), .int (MVEc v), .int (MVEo v), .int (MVSa v), .int (MVEn v), .int (MVTk v), .int (MVVa v), .int (MVFa v), .int (MVFo v), .ref 7, .int (MVSc v), .ref 8, .ref 9, .int (MVOl v)]), .inl (0, 500, .inl (MVSt v)), .inl (0, 500, .inl (MVAs v)), .inl (0, 500, .inl (MVSv v)), .inl (0, 4000, .inl (MVPt v)), .inl (0, 6, .inl (MVSp v)), .inl (3, 600, .inl (MVBf v)), .inl (0, 150, .inl (MVSm v)), .inl (0, 40, .inl (MVOr v)), .inl (3, 240, .inl (MVOu v))]) rfl ?_
  exact AW.eq (a_X9_meanRank_h9 X hR FU _ _ _ _ _ h) rfl rfl rfl rfl
set_option maxHeartbeats 400000 in
set_option maxRecDepth 20000 in
theorem c_X9_mergeCost (v : MV) (a : Int32) (b : Int32) (r : Int32) (w : MV) (h : f_X9_mergeCost v a b = some (r, w)) : Sem z_X9_mergeCost 56 0 0 [.ref 0, .int a, .int b] (WM v) (PST (.inl (some (.int r))) (WM w)) := by
  refine Sem.of zo_X9_mergeCost (by decide +kernel) (Nat.le_of_ble_eq_true rfl) fun κ X hE hR hN => ?_
  unfold f_X9_mergeCost at h
  refine AW.eq (pc' := 0) (ls' := [some (.ref 0), some (.int a), some (.int b), none, none, none]) (st' := []) (AH' := [.inr (9, [.ref 1, .ref 2, .ref 3, .ref 4, .int (MVPc v), .int (MVIs v), .int (MVTh v), .ref 5, .int (MVSl v), .ref 6, .int (MVLn v), .int (MVEc v), .int (MVEo v), .int (MVSa v), .int (MVEn v), .int (MVTk v), .int (MVVa v), .int (MVFa v), .int (MVFo v), .ref 7, .int (MVSc v), .ref 8, .ref 9, .int (MVOl v)]), .inl (0, 500, .inl (MVSt v)), .inl (0, 500, .inl (MVAs v)), .inl (0, 500, .inl (MVSv v)), .inl (0, 4000, .inl (MVPt v)), .inl (0, 6, .inl (MVSp v)), .inl (3, 600, .inl (MVBf v)), .inl (0, 150, .inl (MVSm v)), .inl (0, 40, .inl (MVOr v)), .inl (3, 240, .inl (MVOu v))]) ?_ rfl rfl rfl rfl
  refine go_s 3 X (pc2 := 3) (st2 := [.int b, .int a, .ref 0]) rfl ?_
  obtain ⟨r2, w3, hq1, h⟩ := bnd2_inv h
  refine q_callV X [0, 1, 2, 3, 4, 5, 6, 7, 8, 9] [] (AH2 := [.inr (9, [.ref 1, .ref 2, .ref 3, .ref 4, .int (MVPc w3), .int (MVIs w3), .int (MVTh w3), .ref 5, .int (MVSl w3), .ref 6, .int (MVLn w3), .int (MVEc w3), .int (MVEo w3), .int (MVSa w3), .int (MVEn w3), .int (MVTk w3), .int (MVVa w3), .int (MVFa w3), .int (MVFo w3), .ref 7, .int (MVSc w3), .ref 8, .ref 9, .int (MVOl w3)]), .inl (0, 500, .inl (MVSt w3)), .inl (0, 500, .inl (MVAs w3)), .inl (0, 500, .inl (MVSv w3)), .inl (0, 4000, .inl (MVPt w3)), .inl (0, 6, .inl (MVSp w3)), .inl (3, 600, .inl (MVBf w3)), .inl (0, 150, .inl (MVSm w3)), .inl (0, 40, .inl (MVOr w3)), .inl (3, 240, .inl (MVOu w3))]) (st2 := [.int r2]) (c_X9_checkTwo _ _ _ _ _ hq1) ⟨rfl, rfl⟩ rfl k_X9_checkTwo l_X9_378 rfl rfl rfl rfl rfl (fit_of hR (by decide) (by decide) (by decide) (by decide)) (Nat.le_of_ble_eq_true rfl) (by decide) rfl rfl rfl ?_
  refine r_if_ne X 11 rfl rfl (fun c4 => ?_) (fun c4 => ?_)
  · rw [if_neg c4] at h
    refine go_s 3 X (pc2 := 16) (st2 := [.int 3, .ref 1]) rfl ?_
    by_cases b5 : oob 3 500
    · rw [if_pos b5] at h; cases h
    rw [if_neg b5] at h
    refine r_iald X rfl rfl b5 ?_
    refine go_l 4 X (pc2 := 23) (ls2 := [some (.ref 0), some (.int a), some (.int b), some (.int ((MVSt w3) (Int32.toNatClampNeg 3))), none, none]) (st2 := [.ref 2, .ref 0]) rfl ?_
    obtain ⟨r7, w8, hq6, h⟩ := bnd2_inv h
    refine q_callV X [0, 1, 2, 3, 4, 5, 6, 7, 8, 9] [] (AH2 := [.inr (9, [.ref 1, .ref 2, .ref 3, .ref 4, .int (MVPc w8), .int (MVIs w8), .int (MVTh w8), .ref 5, .int (MVSl w8), .ref 6, .int (MVLn w8), .int (MVEc w8), .int (MVEo w8), .int (MVSa w8), .int (MVEn w8), .int (MVTk w8), .int (MVVa w8), .int (MVFa w8), .int (MVFo w8), .ref 7, .int (MVSc w8), .ref 8, .ref 9, .int (MVOl w8)]), .inl (0, 500, .inl (MVSt w8)), .inl (0, 500, .inl (MVAs w8)), .inl (0, 500, .inl (MVSv w8)), .inl (0, 4000, .inl (MVPt w8)), .inl (0, 6, .inl (MVSp w8)), .inl (3, 600, .inl (MVBf w8)), .inl (0, 150, .inl (MVSm w8)), .inl (0, 40, .inl (MVOr w8)), .inl (3, 240, .inl (MVOu w8))]) (st2 := []) (c_X9_copyTo_2 _ _ _ hq6) ⟨rfl, rfl⟩ rfl k_X9_copyTo l_X9_246 rfl rfl rfl rfl rfl (fit_of hR (by decide) (by decide) (by decide) (by decide)) (Nat.le_of_ble_eq_true rfl) (by decide) rfl rfl rfl ?_
    refine go_s 3 X (pc2 := 29) (st2 := [.int b, .int a, .ref 0]) rfl ?_
    obtain ⟨r10, w11, hq9, h⟩ := bnd2_inv h
    refine q_callV X [0, 1, 2, 3, 4, 5, 6, 7, 8, 9] [] (AH2 := [.inr (9, [.ref 1, .ref 2, .ref 3, .ref 4, .int (MVPc w11), .int (MVIs w11), .int (MVTh w11), .ref 5, .int (MVSl w11), .ref 6, .int (MVLn w11), .int (MVEc w11), .int (MVEo w11), .int (MVSa w11), .int (MVEn w11), .int (MVTk w11), .int (MVVa w11), .int (MVFa w11), .int (MVFo w11), .ref 7, .int (MVSc w11), .ref 8, .ref 9, .int (MVOl w11)]), .inl (0, 500, .inl (MVSt w11)), .inl (0, 500, .inl (MVAs w11)), .inl (0, 500, .inl (MVSv w11)), .inl (0, 4000, .inl (MVPt w11)), .inl (0, 6, .inl (MVSp w11)), .inl (3, 600, .inl (MVBf w11)), .inl (0, 150, .inl (MVSm w11)), .inl (0, 40, .inl (MVOr w11)), .inl (3, 240, .inl (MVOu w11))]) (st2 := [.int r10]) (c_X9_mergeInto _ _ _ _ _ hq9) ⟨rfl, rfl⟩ rfl k_X9_mergeInto l_X9_317 rfl rfl rfl rfl rfl (fit_of hR (by decide) (by decide) (by decide) (by decide)) (Nat.le_of_ble_eq_true rfl) (by decide) rfl rfl rfl ?_
    refine go_l 4 X (pc2 := 39) (ls2 := [some (.ref 0), some (.int a), some (.int b), some (.int ((MVSt w3) (Int32.toNatClampNeg 3))), some (.int r10), none]) (st2 := [.int 3, .ref 1]) rfl ?_
    by_cases b12 : oob 3 500
    · rw [if_pos b12] at h; cases h
    rw [if_neg b12] at h
    refine r_iald X rfl rfl b12 ?_
    refine go_l 6 X (pc2 := 49) (ls2 := [some (.ref 0), some (.int a), some (.int b), some (.int ((MVSt w3) (Int32.toNatClampNeg 3))), some (.int r10), some (.int (((MVSt w11) (Int32.toNatClampNeg 3)) - ((MVSt w3) (Int32.toNatClampNeg 3))))]) (st2 := [.ref 2, .ref 0]) rfl ?_
    obtain ⟨r14, w15, hq13, h⟩ := bnd2_inv h
    refine q_callV X [0, 1, 2, 3, 4, 5, 6, 7, 8, 9] [] (AH2 := [.inr (9, [.ref 1, .ref 2, .ref 3, .ref 4, .int (MVPc w15), .int (MVIs w15), .int (MVTh w15), .ref 5, .int (MVSl w15), .ref 6, .int (MVLn w15), .int (MVEc w15), .int (MVEo w15), .int (MVSa w15), .int (MVEn w15), .int (MVTk w15), .int (MVVa w15), .int (MVFa w15), .int (MVFo w15), .ref 7, .int (MVSc w15), .ref 8, .ref 9, .int (MVOl w15)]), .inl (0, 500, .inl (MVSt w15)), .inl (0, 500, .inl (MVAs w15)), .inl (0, 500, .inl (MVSv w15)), .inl (0, 4000, .inl (MVPt w15)), .inl (0, 6, .inl (MVSp w15)), .inl (3, 600, .inl (MVBf w15)), .inl (0, 150, .inl (MVSm w15)), .inl (0, 40, .inl (MVOr w15)), .inl (3, 240, .inl (MVOu w15))]) (st2 := []) (c_X9_copyFrom_2 _ _ _ hq13) ⟨rfl, rfl⟩ rfl k_X9_copyFrom l_X9_262 rfl rfl rfl rfl rfl (fit_of hR (by decide) (by decide) (by decide) (by decide)) (Nat.le_of_ble_eq_true rfl) (by decide) rfl rfl rfl ?_
    refine go_s 1 X (pc2 := 54) (st2 := [.int (((MVSt w11) (Int32.toNatClampNeg 3)) - ((MVSt w3) (Int32.toNatClampNeg 3)))]) rfl ?_
    cases h
    exact r_iret X rfl rfl ⟨rfl, rfl⟩ (by decide) (by decide)
  · rw [if_pos c4] at h
    refine go_s 1 X (pc2 := 10) (st2 := [.int 0]) rfl ?_
    cases h
    exact r_iret X rfl rfl ⟨rfl, rfl⟩ (by decide) (by decide)
set_option maxHeartbeats 400000 in
set_option maxRecDepth 20000 in
theorem c_X9_mergeQueues (v : MV) (a : Int32) (b : Int32) (r : Int32) (w : MV) (h : f_X9_mergeQueues v a b = some (r, w)) : Sem z_X9_mergeQueues 56 0 0 [.ref 0, .int a, .int b] (WM v) (PST (.inl (some (.int r))) (WM w)) := by
  refine Sem.of zo_X9_mergeQueues (by decide +kernel) (Nat.le_of_ble_eq_true rfl) fun κ X hE hR hN => ?_
  unfold f_X9_mergeQueues at h
  refine AW.eq (pc' := 0) (ls' := [some (.ref 0), some (.int a), some (.int b)]) (st' := []) (AH' := [.inr (9, [.ref 1, .ref 2, .ref 3, .ref 4, .int (MVPc v), .int (MVIs v), .int (MVTh v), .ref 5, .int (MVSl v), .ref 6, .int (MVLn v), .int (MVEc v), .int (MVEo v), .int (MVSa v), .int (MVEn v), .int (MVTk v), .int (MVVa v), .int (MVFa v), .int (MVFo v), .ref 7, .int (MVSc v), .ref 8, .ref 9, .int (MVOl v)]), .inl (0, 500, .inl (MVSt v)), .inl (0, 500, .inl (MVAs v)), .inl (0, 500, .inl (MVSv v)), .inl (0, 4000, .inl (MVPt v)), .inl (0, 6, .inl (MVSp v)), .inl (3, 600, .inl (MVBf v)), .inl (0, 150, .inl (MVSm v)), .inl (0, 40, .inl (MVOr v)), .inl (3, 240, .inl (MVOu v))]) ?_ rfl rfl rfl rfl
  refine go_s 3 X (pc2 := 3) (st2 := [.int b, .int a, .ref 0]) rfl ?_
  obtain ⟨r2, w3, hq1, h⟩ := bnd2_inv h
  refine q_callV X [0, 1, 2, 3, 4, 5, 6, 7, 8, 9] [] (AH2 := [.inr (9, [.ref 1, .ref 2, .ref 3, .ref 4, .int (MVPc w3), .int (MVIs w3), .int (MVTh w3), .ref 5, .int (MVSl w3), .ref 6, .int (MVLn w3), .int (MVEc w3), .int (MVEo w3), .int (MVSa w3), .int (MVEn w3), .int (MVTk w3), .int (MVVa w3), .int (MVFa w3), .int (MVFo w3), .ref 7, .int (MVSc w3), .ref 8, .ref 9, .int (MVOl w3)]), .inl (0, 500, .inl (MVSt w3)), .inl (0, 500, .inl (MVAs w3)), .inl (0, 500, .inl (MVSv w3)), .inl (0, 4000, .inl (MVPt w3)), .inl (0, 6, .inl (MVSp w3)), .inl (3, 600, .inl (MVBf w3)), .inl (0, 150, .inl (MVSm w3)), .inl (0, 40, .inl (MVOr w3)), .inl (3, 240, .inl (MVOu w3))]) (st2 := [.int r2]) (c_X9_checkTwo _ _ _ _ _ hq1) ⟨rfl, rfl⟩ rfl k_X9_checkTwo l_X9_378 rfl rfl rfl rfl rfl (fit_of hR (by decide) (by decide) (by decide) (by decide)) (Nat.le_of_ble_eq_true rfl) (by decide) rfl rfl rfl ?_
  refine r_if_ne X 11 rfl rfl (fun c4 => ?_) (fun c4 => ?_)
  · rw [if_neg c4] at h
    refine go_s 1 X (pc2 := 12) (st2 := [.ref 0]) rfl ?_
    obtain ⟨r6, w7, hq5, h⟩ := bnd2_inv h
    refine q_callV X [0, 1, 2, 3, 4, 5, 6, 7, 8, 9] [] (AH2 := [.inr (9, [.ref 1, .ref 2, .ref 3, .ref 4, .int (MVPc w7), .int (MVIs w7), .int (MVTh w7), .ref 5, .int (MVSl w7), .ref 6, .int (MVLn w7), .int (MVEc w7), .int (MVEo w7), .int (MVSa w7), .int (MVEn w7), .int (MVTk w7), .int (MVVa w7), .int (MVFa w7), .int (MVFo w7), .ref 7, .int (MVSc w7), .ref 8, .ref 9, .int (MVOl w7)]), .inl (0, 500, .inl (MVSt w7)), .inl (0, 500, .inl (MVAs w7)), .inl (0, 500, .inl (MVSv w7)), .inl (0, 4000, .inl (MVPt w7)), .inl (0, 6, .inl (MVSp w7)), .inl (3, 600, .inl (MVBf w7)), .inl (0, 150, .inl (MVSm w7)), .inl (0, 40, .inl (MVOr w7)), .inl (3, 240, .inl (MVOu w7))]) (st2 := []) (c_X9_remember _ _ _ hq5) ⟨rfl, rfl⟩ rfl k_X9_remember l_X9_326 rfl rfl rfl rfl rfl (fit_of hR (by decide) (by decide) (by decide) (by decide)) (Nat.le_of_ble_eq_true rfl) (by decide) rfl rfl rfl ?_
    refine go_s 3 X (pc2 := 18) (st2 := [.int b, .int a, .ref 0]) rfl ?_
    obtain ⟨r9, w10, hq8, h⟩ := bnd2_inv h
    refine q_callV X [0, 1, 2, 3, 4, 5, 6, 7, 8, 9] [] (AH2 := [.inr (9, [.ref 1, .ref 2, .ref 3, .ref 4, .int (MVPc w10), .int (MVIs w10), .int (MVTh w10), .ref 5, .int (MVSl w10), .ref 6, .int (MVLn w10), .int (MVEc w10), .int (MVEo w10), .int (MVSa w10), .int (MVEn w10), .int (MVTk w10), .int (MVVa w10), .int (MVFa w10), .int (MVFo w10), .ref 7, .int (MVSc w10), .ref 8, .ref 9, .int (MVOl w10)]), .inl (0, 500, .inl (MVSt w10)), .inl (0, 500, .inl (MVAs w10)), .inl (0, 500, .inl (MVSv w10)), .inl (0, 4000, .inl (MVPt w10)), .inl (0, 6, .inl (MVSp w10)), .inl (3, 600, .inl (MVBf w10)), .inl (0, 150, .inl (MVSm w10)), .inl (0, 40, .inl (MVOr w10)), .inl (3, 240, .inl (MVOu w10))]) (st2 := [.int r9]) (c_X9_mergeInto _ _ _ _ _ hq8) ⟨rfl, rfl⟩ rfl k_X9_mergeInto l_X9_317 rfl rfl rfl rfl rfl (fit_of hR (by decide) (by decide) (by decide) (by decide)) (Nat.le_of_ble_eq_true rfl) (by decide) rfl rfl rfl ?_
    cases h
    exact r_iret X rfl rfl ⟨rfl, rfl⟩ (by decide) (by decide)
  · rw [if_pos c4] at h
    refine go_s 1 X (pc2 := 10) (st2 := [.int 0]) rfl ?_
    cases h
    exact r_iret X rfl rfl ⟨rfl, rfl⟩ (by decide) (by decide)
set_option maxHeartbeats 400000 in
set_option maxRecDepth 20000 in
theorem a_X9_pagesAhead_h4 {κ : KX} (X : CX κ z_X9_pagesAhead) (hR : κR κ = rmM 4 0 0) : ∀ (n : Nat) (l1 : Int32) (l2 : Int32) (l3 : Int32) (v : MV) (r : Int32) (h : f_X9_pagesAhead_h4 n l1 l2 l3 v = some r), AW κ (QM κ (PST (.inl (some (.int r))) (WM v)) 0 0) 4 [some (.ref 0), some (.int l1), some (.int l2), some (.int l3), none] [] (WM v) 0 0 := by
  intro n
  induction n with
  | zero =>
    intro l1 l2 l3 v r h
    unfold f_X9_pagesAhead_h4 at h
    cases h
  | succ n ih =>
    intro l1 l2 l3 v r h
    unfold f_X9_pagesAhead_h4 at h
    refine AW.eq (pc' := 4) (ls' := [some (.ref 0), some (.int l1), some (.int l2), some (.int l3), none]) (st' := []) (AH' := [.inr (9, [.ref 1, .ref 2, .ref 3, .ref 4, .int (MVPc v), .int (MVIs v), .int (MVTh v), .ref 5, .int (MVSl v), .ref 6, .int (MVLn v), .int (MVEc v), .int (MVEo v), .int (MVSa v), .int (MVEn v), .int (MVTk v), .int (MVVa v), .int (MVFa v), .int (MVFo v), .ref 7, .int (MVSc v), .ref 8, .ref 9, .int (MVOl v)]), .inl (0, 500, .inl (MVSt v)), .inl (0, 500, .inl (MVAs v)), .inl (0, 500, .inl (MVSv v)), .inl (0, 4000, .inl (MVPt v)), .inl (0, 6, .inl (MVSp v)), .inl (3, 600, .inl (MVBf v)), .inl (0, 150, .inl (MVSm v)), .inl (0, 40, .inl (MVOr v)), .inl (3, 240, .inl (MVOu v))]) ?_ rfl rfl rfl rfl
    refine go_s 4 X (pc2 := 10) (st2 := [.int 2, .ref 1, .int l3]) rfl ?_
    by_cases b1 : oob 2 500
    · rw [if_pos b1] at h; cases h
    rw [if_neg b1] at h
    refine r_iald X rfl rfl b1 ?_
    refine r_icmp_ge X 68 rfl rfl (fun c2 => ?_) (fun c2 => ?_)
    · rw [if_pos c2] at h
      refine go_s 1 X (pc2 := 69) (st2 := [.int l2]) rfl ?_
      cases h
      exact r_iret X rfl rfl ⟨rfl, rfl⟩ (by decide) (by decide)
    · rw [if_neg c2] at h
      refine go_s 5 X (pc2 := 19) (st2 := [.int 4, .int l1, .ref 0, .int l3, .ref 0]) rfl ?_
      obtain ⟨r4, hq3, h⟩ := obind_inv h
      refine q_callV X [0, 1, 2, 3, 4, 5, 6, 7, 8, 9] [] (AH2 := [.inr (9, [.ref 1, .ref 2, .ref 3, .ref 4, .int (MVPc v), .int (MVIs v), .int (MVTh v), .ref 5, .int (MVSl v), .ref 6, .int (MVLn v), .int (MVEc v), .int (MVEo v), .int (MVSa v), .int (MVEn v), .int (MVTk v), .int (MVVa v), .int (MVFa v), .int (MVFo v), .ref 7, .int (MVSc v), .ref 8, .ref 9, .int (MVOl v)]), .inl (0, 500, .inl (MVSt v)), .inl (0, 500, .inl (MVAs v)), .inl (0, 500, .inl (MVSv v)), .inl (0, 4000, .inl (MVPt v)), .inl (0, 6, .inl (MVSp v)), .inl (3, 600, .inl (MVBf v)), .inl (0, 150, .inl (MVSm v)), .inl (0, 40, .inl (MVOr v)), .inl (3, 240, .inl (MVOu v))]) (st2 := [.int r4, .int l3, .ref 0]) (c_X9_get _ _ _ _ hq3) ⟨rfl, rfl⟩ rfl k_X9_get l_X9_90 rfl rfl rfl rfl rfl (fit_of hR (by decide) (by decide) (by decide) (by decide)) (Nat.le_of_ble_eq_true rfl) (by decide) rfl rfl rfl ?_
      obtain ⟨r7, hq6, h⟩ := obind_inv h
      refine q_callV X [0, 1, 2, 3, 4, 5, 6, 7, 8, 9] [] (AH2 := [.inr (9, [.ref 1, .ref 2, .ref 3, .ref 4, .int (MVPc v), .int (MVIs v), .int (MVTh v), .ref 5, .int (MVSl v), .ref 6, .int (MVLn v), .int (MVEc v), .int (MVEo v), .int (MVSa v), .int (MVEn v), .int (MVTk v), .int (MVVa v), .int (MVFa v), .int (MVFo v), .ref 7, .int (MVSc v), .ref 8, .ref 9, .int (MVOl v)]), .inl (0, 500, .inl (MVSt v)), .inl (0, 500, .inl (MVAs v)), .inl (0, 500, .inl (MVSv v)), .inl (0, 4000, .inl (MVPt v)), .inl (0, 6, .inl (MVSp v)), .inl (3, 600, .inl (MVBf v)), .inl (0, 150, .inl (MVSm v)), .inl (0, 40, .inl (MVOr v)), .inl (3, 240, .inl (MVOu v))]) (st2 := [.int r7]) (c_X9_isIn _ _ _ _ hq6) ⟨rfl, rfl⟩ rfl k_X9_isIn l_X9_133 rfl rfl rfl rfl rfl (fit_of hR (by decide) (by decide) (by decide) (by decide)) (Nat.le_of_ble_eq_true rfl) (by decide) rfl rfl rfl ?_
      refine r_if_eq X 41 rfl rfl (fun c9 => ?_) (fun c9 => ?_)
      · rw [if_pos c9] at h
        refine go_l 4 X (pc2 := 47) (ls2 := [some (.ref 0), some (.int l1), some (.int l2), some (.int l3), some (.int 0)]) (st2 := [.int 0, .int l2]) rfl ?_
        refine r_if_eq X 59 rfl rfl (fun c10 => ?_) (fun c10 => ?_)
        · refine go_l 5 X (pc2 := 4) (ls2 := [some (.ref 0), some (.int l1), some (.int (l2 + 0)), some (.int (l3 + 1)), some (.int 0)]) (st2 := []) rfl ?_
          refine AW.forget (ls' := [some (.ref 0), some (.int l1), some (.int (l2 + 0)), some (.int (l3 + 1)), none]) rfl (subL_of ⟨rfl, ⟨rfl, ⟨rfl, ⟨rfl, trivial⟩⟩⟩⟩) ?_
          exact AW.eq (ih _ _ _ _ _ h) rfl rfl rfl rfl
        · exact absurd c10 (by decide)
      · rw [if_neg c9] at h
        refine go_s 3 X (pc2 := 31) (st2 := [.int l1, .int l3, .ref 0]) rfl ?_
        obtain ⟨r12, hq11, h⟩ := obind_inv h
        refine q_callV X [0, 1, 2, 3, 4, 5, 6, 7, 8, 9] [] (AH2 := [.inr (9, [.ref 1, .ref 2, .ref 3, .ref 4, .int (MVPc v), .int (MVIs v), .int (MVTh v), .ref 5, .int (MVSl v), .ref 6, .int (MVLn v), .int (MVEc v), .int (MVEo v), .int (MVSa v), .int (MVEn v), .int (MVTk v), .int (MVVa v), .int (MVFa v), .int (MVFo v), .ref 7, .int (MVSc v), .ref 8, .ref 9, .int (MVOl v)]), .inl (0, 500, .inl (MVSt v)), .inl (0, 500, .inl (MVAs v)), .inl (0, 500, .inl (MVSv v)), .inl (0, 4000, .inl (MVPt v)), .inl (0, 6, .inl (MVSp v)), .inl (3, 600, .inl (MVBf v)), .inl (0, 150, .inl (MVSm v)), .inl (0, 40, .inl (MVOr v)), .inl (3, 240, .inl (MVOu v))]) (st2 := [.int r12]) (c_X9_precedes _ _ _ _ hq11) ⟨rfl, rfl⟩ rfl k_X9_precedes l_X9_101 rfl rfl rfl rfl rfl (fit_of hR (by decide) (by decide) (by decide) (by decide)) (Nat.le_of_ble_eq_true rfl) (by decide) rfl rfl rfl ?_
        refine r_if_eq X 41 rfl rfl (fun c14 => ?_) (fun c14 => ?_)
        · rw [if_pos c14] at h
          refine go_l 4 X (pc2 := 47) (ls2 := [some (.ref 0), some (.int l1), some (.int l2), some (.int l3), some (.int 0)]) (st2 := [.int 0, .int l2]) rfl ?_
          refine r_if_eq X 59 rfl rfl (fun c15 => ?_) (fun c15 => ?_)
          · refine go_l 5 X (pc2 := 4) (ls2 := [some (.ref 0), some (.int l1), some (.int (l2 + 0)), some (.int (l3 + 1)), some (.int 0)]) (st2 := []) rfl ?_
            refine AW.forget (ls' := [some (.ref 0), some (.int l1), some (.int (l2 + 0)), some (.int (l3 + 1)), none]) rfl (subL_of ⟨rfl, ⟨rfl, ⟨rfl, ⟨rfl, trivial⟩⟩⟩⟩) ?_
            exact AW.eq (ih _ _ _ _ _ h) rfl rfl rfl rfl
          · exact absurd c15 (by decide)
        · rw [if_neg c14] at h
          refine go_l 5 X (pc2 := 47) (ls2 := [some (.ref 0), some (.int l1), some (.int l2), some (.int l3), some (.int 1)]) (st2 := [.int 1, .int l2]) rfl ?_
          refine r_if_eq X 59 rfl rfl (fun c16 => ?_) (fun c16 => ?_)
          · exact absurd c16 (by decide)
          · refine go_s 3 X (pc2 := 53) (st2 := [.int 2, .int l3, .ref 0, .int l2]) rfl ?_
            obtain ⟨r18, hq17, h⟩ := obind_inv h
            refine q_callV X [0, 1, 2, 3, 4, 5, 6, 7, 8, 9] [] (AH2 := [.inr (9, [.ref 1, .ref 2, .ref 3, .ref 4, .int (MVPc v), .int (MVIs v), .int (MVTh v), .ref 5, .int (MVSl v), .ref 6, .int (MVLn v), .int (MVEc v), .int (MVEo v), .int (MVSa v), .int (MVEn v), .int (MVTk v), .int (MVVa v), .int (MVFa v), .int (MVFo v), .ref 7, .int (MVSc v), .ref 8, .ref 9, .int (MVOl v)]), .inl (0, 500, .inl (MVSt v)), .inl (0, 500, .inl (MVAs v)), .inl (0, 500, .inl (MVSv v)), .inl (0, 4000, .inl (MVPt v)), .inl (0, 6, .inl (MVSp v)), .inl (3, 600, .inl (MVBf v)), .inl (0, 150, .inl (MVSm v)), .inl (0, 40, .inl (MVOr v)), .inl (3, 240, .inl (MVOu v))]) (st2 := [.int r18, .int l2]) (c_X9_get _ _ _ _ hq17) ⟨rfl, rfl⟩ rfl k_X9_get l_X9_90 rfl rfl rfl rfl rfl (fit_of hR (by decide) (by decide) (by decide) (by decide)) (Nat.le_of_ble_eq_true rfl) (by decide) rfl rfl rfl ?_
            refine go_l 5 X (pc2 := 4) (ls2 := [some (.ref 0), some (.int l1), some (.int (l2 + r18)), some (.int (l3 + 1)), some (.int 1)]) (st2 := []) rfl ?_
            refine AW.forget (ls' := [some (.ref 0), some (.int l1), some (.int (l2 + r18)), some (.int (l3 + 1)), none]) rfl (subL_of ⟨rfl, ⟨rfl, ⟨rfl, ⟨rfl, trivial⟩⟩⟩⟩) ?_
            exact AW.eq (ih _ _ _ _ _ h) rfl rfl rfl rfl
set_option maxHeartbeats 400000 in
set_option maxRecDepth 20000 in
theorem c_X9_pagesAhead (v : MV) (a : Int32) (r : Int32) (h : f_X9_pagesAhead v a = some r) : Sem z_X9_pagesAhead 4 0 0 [.ref 0, .int a] (WM v) (PST (.inl (some (.int r))) (WM v)) := by
  refine Sem.of zo_X9_pagesAhead (by decide +kernel) (Nat.le_of_ble_eq_true rfl) fun κ X hE hR hN => ?_
  unfold f_X9_pagesAhead at h
  refine AW.eq (pc' := 0) (ls' := [some (.ref 0), some (.int a), none, none, none]) (st' := []) (AH' := [.inr (9, [.ref 1, .ref 2, .ref 3, .ref 4, .int (MVPc v), .int (MVIs v), .int (MVTh v), .ref 5, .int (MVSl v), .ref 6, .int (MVLn v), .int (MVEc v), .int (MVEo v), .int (MVSa v), .int (MVEn v), .int (MVTk v), .int (MVVa v), .int (MVFa v), .int (MVFo v), .ref 7, .int (MVSc v), .ref 8, .ref 9, .int (MVOl v)]), .inl (0, 500, .inl (MVSt v)), .inl (0, 500, .inl (MVAs v)), .inl (0, 500, .inl (MVSv v)), .inl (0, 4000, .inl (MVPt v)), .inl (0, 6, .inl (MVSp v)), .inl (3, 600, .inl (MVBf v)), .inl (0, 150, .inl (MVSm v)), .inl (0, 40, .inl (MVOr v)), .inl (3, 240, .inl (MVOu v))]) ?_ rfl rfl rfl rfl
  refine go_l 4 X (pc2 := 4) (ls2 := [some (.ref 0), some (.int a), some (.int 0), some (.int 0), none]) (st2 := []) rfl ?_
  exact AW.eq (a_X9_pagesAhead_h4 X hR FU _ _ _ _ _ h) rfl rfl rfl rfl
set_option maxHeartbeats 400000 in
set_option maxRecDepth 20000 in
theorem c_X9_minutesUntilPrinted (v : MV) (a : Int32) (r : Int32) (w : MV) (h : f_X9_minutesUntilPrinted v a = some (r, w)) : Sem z_X9_minutesUntilPrinted 5 0 0 [.ref 0, .int a] (WM v) (PST (.inl (some (.int r))) (WM w)) := by
  refine Sem.of zo_X9_minutesUntilPrinted (by decide +kernel) (Nat.le_of_ble_eq_true rfl) fun κ X hE hR hN => ?_
  unfold f_X9_minutesUntilPrinted at h
  refine AW.eq (pc' := 0) (ls' := [some (.ref 0), some (.int a)]) (st' := []) (AH' := [.inr (9, [.ref 1, .ref 2, .ref 3, .ref 4, .int (MVPc v), .int (MVIs v), .int (MVTh v), .ref 5, .int (MVSl v), .ref 6, .int (MVLn v), .int (MVEc v), .int (MVEo v), .int (MVSa v), .int (MVEn v), .int (MVTk v), .int (MVVa v), .int (MVFa v), .int (MVFo v), .ref 7, .int (MVSc v), .ref 8, .ref 9, .int (MVOl v)]), .inl (0, 500, .inl (MVSt v)), .inl (0, 500, .inl (MVAs v)), .inl (0, 500, .inl (MVSv v)), .inl (0, 4000, .inl (MVPt v)), .inl (0, 6, .inl (MVSp v)), .inl (3, 600, .inl (MVBf v)), .inl (0, 150, .inl (MVSm v)), .inl (0, 40, .inl (MVOr v)), .inl (3, 240, .inl (MVOu v))]) ?_ rfl rfl rfl rfl
  refine go_s 2 X (pc2 := 2) (st2 := [.int a, .ref 0]) rfl ?_
  obtain ⟨r2, w3, hq1, h⟩ := bnd2_inv h
  refine q_callV X [0, 1, 2, 3, 4, 5, 6, 7, 8, 9] [] (AH2 := [.inr (9, [.ref 1, .ref 2, .ref 3, .ref 4, .int (MVPc w3), .int (MVIs w3), .int (MVTh w3), .ref 5, .int (MVSl w3), .ref 6, .int (MVLn w3), .int (MVEc w3), .int (MVEo w3), .int (MVSa w3), .int (MVEn w3), .int (MVTk w3), .int (MVVa w3), .int (MVFa w3), .int (MVFo w3), .ref 7, .int (MVSc w3), .ref 8, .ref 9, .int (MVOl w3)]), .inl (0, 500, .inl (MVSt w3)), .inl (0, 500, .inl (MVAs w3)), .inl (0, 500, .inl (MVSv w3)), .inl (0, 4000, .inl (MVPt w3)), .inl (0, 6, .inl (MVSp w3)), .inl (3, 600, .inl (MVBf w3)), .inl (0, 150, .inl (MVSm w3)), .inl (0, 40, .inl (MVOr w3)), .inl (3, 240, .inl (MVOu w3))]) (st2 := [.int r2]) (c_X9_checkWaiting _ _ _ _ hq1) ⟨rfl, rfl⟩ rfl k_X9_checkWaiting l_X9_354 rfl rfl rfl rfl rfl (fit_of hR (by decide) (by decide) (by decide) (by decide)) (Nat.le_of_ble_eq_true rfl) (by decide) rfl rfl rfl ?_
  refine r_if_ne X 10 rfl rfl (fun c4 => ?_) (fun c4 => ?_)
  · rw [if_neg c4] at h
    refine go_s 3 X (pc2 := 13) (st2 := [.int a, .ref 0, .ref 0]) rfl ?_
    obtain ⟨r6, hq5, h⟩ := obind_inv h
    refine q_callV X [0, 1, 2, 3, 4, 5, 6, 7, 8, 9] [] (AH2 := [.inr (9, [.ref 1, .ref 2, .ref 3, .ref 4, .int (MVPc w3), .int (MVIs w3), .int (MVTh w3), .ref 5, .int (MVSl w3), .ref 6, .int (MVLn w3), .int (MVEc w3), .int (MVEo w3), .int (MVSa w3), .int (MVEn w3), .int (MVTk w3), .int (MVVa w3), .int (MVFa w3), .int (MVFo w3), .ref 7, .int (MVSc w3), .ref 8, .ref 9, .int (MVOl w3)]), .inl (0, 500, .inl (MVSt w3)), .inl (0, 500, .inl (MVAs w3)), .inl (0, 500, .inl (MVSv w3)), .inl (0, 4000, .inl (MVPt w3)), .inl (0, 6, .inl (MVSp w3)), .inl (3, 600, .inl (MVBf w3)), .inl (0, 150, .inl (MVSm w3)), .inl (0, 40, .inl (MVOr w3)), .inl (3, 240, .inl (MVOu w3))]) (st2 := [.int r6, .ref 0]) (c_X9_pagesAhead _ _ _ hq5) ⟨rfl, rfl⟩ rfl k_X9_pagesAhead l_X9_366 rfl rfl rfl rfl rfl (fit_of hR (by decide) (by decide) (by decide) (by decide)) (Nat.le_of_ble_eq_true rfl) (by decide) rfl rfl rfl ?_
    refine go_s 3 X (pc2 := 19) (st2 := [.int 2, .int a, .ref 0, .int r6, .ref 0]) rfl ?_
    obtain ⟨r9, hq8, h⟩ := obind_inv h
    refine q_callV X [0, 1, 2, 3, 4, 5, 6, 7, 8, 9] [] (AH2 := [.inr (9, [.ref 1, .ref 2, .ref 3, .ref 4, .int (MVPc w3), .int (MVIs w3), .int (MVTh w3), .ref 5, .int (MVSl w3), .ref 6, .int (MVLn w3), .int (MVEc w3), .int (MVEo w3), .int (MVSa w3), .int (MVEn w3), .int (MVTk w3), .int (MVVa w3), .int (MVFa w3), .int (MVFo w3), .ref 7, .int (MVSc w3), .ref 8, .ref 9, .int (MVOl w3)]), .inl (0, 500, .inl (MVSt w3)), .inl (0, 500, .inl (MVAs w3)), .inl (0, 500, .inl (MVSv w3)), .inl (0, 4000, .inl (MVPt w3)), .inl (0, 6, .inl (MVSp w3)), .inl (3, 600, .inl (MVBf w3)), .inl (0, 150, .inl (MVSm w3)), .inl (0, 40, .inl (MVOr w3)), .inl (3, 240, .inl (MVOu w3))]) (st2 := [.int r9, .int r6, .ref 0]) (c_X9_get _ _ _ _ hq8) ⟨rfl, rfl⟩ rfl k_X9_get l_X9_90 rfl rfl rfl rfl rfl (fit_of hR (by decide) (by decide) (by decide) (by decide)) (Nat.le_of_ble_eq_true rfl) (by decide) rfl rfl rfl ?_
    refine go_s 4 X (pc2 := 26) (st2 := [.int 4, .int a, .ref 0, .int (r6 + r9), .ref 0]) rfl ?_
    obtain ⟨r12, hq11, h⟩ := obind_inv h
    refine q_callV X [0, 1, 2, 3, 4, 5, 6, 7, 8, 9] [] (AH2 := [.inr (9, [.ref 1, .ref 2, .ref 3, .ref 4, .int (MVPc w3), .int (MVIs w3), .int (MVTh w3), .ref 5, .int (MVSl w3), .ref 6, .int (MVLn w3), .int (MVEc w3), .int (MVEo w3), .int (MVSa w3), .int (MVEn w3), .int (MVTk w3), .int (MVVa w3), .int (MVFa w3), .int (MVFo w3), .ref 7, .int (MVSc w3), .ref 8, .ref 9, .int (MVOl w3)]), .inl (0, 500, .inl (MVSt w3)), .inl (0, 500, .inl (MVAs w3)), .inl (0, 500, .inl (MVSv w3)), .inl (0, 4000, .inl (MVPt w3)), .inl (0, 6, .inl (MVSp w3)), .inl (3, 600, .inl (MVBf w3)), .inl (0, 150, .inl (MVSm w3)), .inl (0, 40, .inl (MVOr w3)), .inl (3, 240, .inl (MVOu w3))]) (st2 := [.int r12, .int (r6 + r9), .ref 0]) (c_X9_get _ _ _ _ hq11) ⟨rfl, rfl⟩ rfl k_X9_get l_X9_90 rfl rfl rfl rfl rfl (fit_of hR (by decide) (by decide) (by decide) (by decide)) (Nat.le_of_ble_eq_true rfl) (by decide) rfl rfl rfl ?_
    obtain ⟨r15, hq14, h⟩ := obind_inv h
    refine q_callV X [0, 1, 2, 3, 4, 5, 6, 7, 8, 9] [] (AH2 := [.inr (9, [.ref 1, .ref 2, .ref 3, .ref 4, .int (MVPc w3), .int (MVIs w3), .int (MVTh w3), .ref 5, .int (MVSl w3), .ref 6, .int (MVLn w3), .int (MVEc w3), .int (MVEo w3), .int (MVSa w3), .int (MVEn w3), .int (MVTk w3), .int (MVVa w3), .int (MVFa w3), .int (MVFo w3), .ref 7, .int (MVSc w3), .ref 8, .ref 9, .int (MVOl w3)]), .inl (0, 500, .inl (MVSt w3)), .inl (0, 500, .inl (MVAs w3)), .inl (0, 500, .inl (MVSv w3)), .inl (0, 4000, .inl (MVPt w3)), .inl (0, 6, .inl (MVSp w3)), .inl (3, 600, .inl (MVBf w3)), .inl (0, 150, .inl (MVSm w3)), .inl (0, 40, .inl (MVOr w3)), .inl (3, 240, .inl (MVOu w3))]) (st2 := [.int r15]) (c_X9_minutes _ _ _ _ hq14) ⟨rfl, rfl⟩ rfl k_X9_minutes l_X9_369 rfl rfl rfl rfl rfl (fit_of hR (by decide) (by decide) (by decide) (by decide)) (Nat.le_of_ble_eq_true rfl) (by decide) rfl rfl rfl ?_
    cases h
    exact r_iret X rfl rfl ⟨rfl, rfl⟩ (by decide) (by decide)
  · rw [if_pos c4] at h
    refine go_s 1 X (pc2 := 9) (st2 := [.int 0]) rfl ?_
    cases h
    exact r_iret X rfl rfl ⟨rfl, rfl⟩ (by decide) (by decide)
