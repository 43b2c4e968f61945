/-! ===== 15eb: contracts, by program ===== -/
set_option maxHeartbeats 400000 in
set_option maxRecDepth 20000 in
theorem a_X9_advanceToken_j68 {κ : KX} (X : CX κ z_X9_advanceToken) (hR : κR κ = rmM 2 0 0) : ∀ (v : MV) (r : Unit) (w : MV) (h : f_X9_advanceToken_j68 v = some (r, w)), AW κ (QM κ (PST (.inl none) (WM w)) 0 0) 68 [some (.ref 0)] [] (WM v) 0 0 := by
  intro v r w h
  unfold f_X9_advanceToken_j68 at h
  refine AW.eq (pc' := 68) (ls' := [some (.ref 0)]) (st' := []) (AH' := [.inr (9, [.ref 1, .ref 2, .ref 3, .ref 4, .int (MVPc v), .int (MVIs v), .int (MVTh v), .ref 5, .int (MVSl v), .ref 6, .int (MVLn v), .int (MVEc v), .int (MVEo v), .int (MVSa v), .int (MVEn v), .int (MVTk v), .int (MVVa v), .int (MVFa v), .int (MVFo v), .ref 7, .int (MVSc v), .ref 8, .ref 9, .int (MVOl v)]), .inl (0, 500, .inl (MVSt v)), .inl (0, 500, .inl (MVAs v)), .inl (0, 500, .inl (MVSv v)), .inl (0, 4000, .inl (MVPt v)), .inl (0, 6, .inl (MVSp v)), .inl (3, 600, .inl (MVBf v)), .inl (0, 150, .inl (MVSm v)), .inl (0, 40, .inl (MVOr v)), .inl (3, 240, .inl (MVOu v))]) ?_ rfl rfl rfl rfl
  refine go 8 X (pc2 := 84) (ls2 := [some (.ref 0)]) (st2 := [.int (MVLn v), .int (MVSa v)]) (AH2 := [.inr (9, [.ref 1, .ref 2, .ref 3, .ref 4, .int (MVPc v), .int (MVIs v), .int (MVTh v), .ref 5, .int (MVSl v), .ref 6, .int (MVLn v), .int (MVEc v), .int (MVEo v), .int (MVSa v), .int (MVSa v), .int (MVTk v), .int (MVVa v), .int (MVFa v), .int (MVFo v), .ref 7, .int (MVSc v), .ref 8, .ref 9, .int (MVOl v)]), .inl (0, 500, .inl (MVSt v)), .inl (0, 500, .inl (MVAs v)), .inl (0, 500, .inl (MVSv v)), .inl (0, 4000, .inl (MVPt v)), .inl (0, 6, .inl (MVSp v)), .inl (3, 600, .inl (MVBf v)), .inl (0, 150, .inl (MVSm v)), .inl (0, 40, .inl (MVOr v)), .inl (3, 240, .inl (MVOu v))]) rfl ?_
  refine r_icmp_ne X 95 rfl rfl (fun c3 => ?_) (fun c3 => ?_)
  · rw [if_neg c3] at h
    refine go_s 3 X (pc2 := 100) (st2 := [.int (MVSa v), .ref 0]) rfl ?_
    obtain ⟨r5, hq4, h⟩ := obind_inv h
    refine q_callV X [0, 1, 2, 3, 4, 5, 6, 7, 8, 9] [] (AH2 := [.inr (9, [.ref 1, .ref 2, .ref 3, .ref 4, .int (MVPc v), .int (MVIs v), .int (MVTh v), .ref 5, .int (MVSl v), .ref 6, .int (MVLn v), .int (MVEc v), .int (MVEo v), .int (MVSa v), .int (MVSa v), .int (MVTk v), .int (MVVa v), .int (MVFa v), .int (MVFo v), .ref 7, .int (MVSc v), .ref 8, .ref 9, .int (MVOl v)]), .inl (0, 500, .inl (MVSt v)), .inl (0, 500, .inl (MVAs v)), .inl (0, 500, .inl (MVSv v)), .inl (0, 4000, .inl (MVPt v)), .inl (0, 6, .inl (MVSp v)), .inl (3, 600, .inl (MVBf v)), .inl (0, 150, .inl (MVSm v)), .inl (0, 40, .inl (MVOr v)), .inl (3, 240, .inl (MVOu v))]) (st2 := [.int r5]) (c_X9_isLetter _ _ _ hq4) ⟨rfl, rfl⟩ rfl k_X9_isLetter l_X9_179 rfl rfl rfl rfl rfl (fit_of hR (by decide) (by decide) (by decide) (by decide)) (Nat.le_of_ble_eq_true rfl) (by decide) rfl rfl rfl ?_
    refine r_if_eq X 156 rfl rfl (fun c7 => ?_) (fun c7 => ?_)
    · rw [if_pos c7] at h
      refine go_s 3 X (pc2 := 161) (st2 := [.int (MVSa v), .ref 0]) rfl ?_
      obtain ⟨r9, hq8, h⟩ := obind_inv h
      refine q_callV X [0, 1, 2, 3, 4, 5, 6, 7, 8, 9] [] (AH2 := [.inr (9, [.ref 1, .ref 2, .ref 3, .ref 4, .int (MVPc v), .int (MVIs v), .int (MVTh v), .ref 5, .int (MVSl v), .ref 6, .int (MVLn v), .int (MVEc v), .int (MVEo v), .int (MVSa v), .int (MVSa v), .int (MVTk v), .int (MVVa v), .int (MVFa v), .int (MVFo v), .ref 7, .int (MVSc v), .ref 8, .ref 9, .int (MVOl v)]), .inl (0, 500, .inl (MVSt v)), .inl (0, 500, .inl (MVAs v)), .inl (0, 500, .inl (MVSv v)), .inl (0, 4000, .inl (MVPt v)), .inl (0, 6, .inl (MVSp v)), .inl (3, 600, .inl (MVBf v)), .inl (0, 150, .inl (MVSm v)), .inl (0, 40, .inl (MVOr v)), .inl (3, 240, .inl (MVOu v))]) (st2 := [.int r9]) (c_X9_isDigit _ _ _ hq8) ⟨rfl, rfl⟩ rfl k_X9_isDigit l_X9_182 rfl rfl rfl rfl rfl (fit_of hR (by decide) (by decide) (by decide) (by decide)) (Nat.le_of_ble_eq_true rfl) (by decide) rfl rfl rfl ?_
      refine r_if_eq X 265 rfl rfl (fun c11 => ?_) (fun c11 => ?_)
      · rw [if_pos c11] at h
        refine go_s 5 X (pc2 := 274) (st2 := [.int (MVSa v), .ref 6, .ref 0]) rfl ?_
        by_cases b12 : oob (MVSa v) 600
        · rw [if_pos b12] at h; cases h
        rw [if_neg b12] at h
        refine r_bald X rfl rfl b12 ?_
        refine go_s 1 X (pc2 := 277) (st2 := [.int 59, .int ((MVBf v) (Int32.toNatClampNeg (MVSa v))), .ref 0]) rfl ?_
        refine r_icmp_ne X 284 rfl rfl (fun c13 => ?_) (fun c13 => ?_)
        · rw [if_neg c13] at h
          refine go_s 1 X (pc2 := 285) (st2 := [.int 4, .ref 0]) rfl ?_
          exact AW.eq (a_X9_advanceToken_j285 X hR _ _ _ _ h) rfl rfl rfl rfl
        · rw [if_pos c13] at h
          refine go_s 2 X (pc2 := 285) (st2 := [.int 3, .ref 0]) rfl ?_
          exact AW.eq (a_X9_advanceToken_j285 X hR _ _ _ _ h) rfl rfl rfl rfl
      · rw [if_neg c11] at h
        refine go 3 X (pc2 := 172) (ls2 := [some (.ref 0)]) (st2 := []) (AH2 := [.inr (9, [.ref 1, .ref 2, .ref 3, .ref 4, .int (MVPc v), .int (MVIs v), .int (MVTh v), .ref 5, .int (MVSl v), .ref 6, .int (MVLn v), .int (MVEc v), .int (MVEo v), .int (MVSa v), .int (MVSa v), .int (MVTk v), .int 0, .int (MVFa v), .int (MVFo v), .ref 7, .int (MVSc v), .ref 8, .ref 9, .int (MVOl v)]), .inl (0, 500, .inl (MVSt v)), .inl (0, 500, .inl (MVAs v)), .inl (0, 500, .inl (MVSv v)), .inl (0, 4000, .inl (MVPt v)), .inl (0, 6, .inl (MVSp v)), .inl (3, 600, .inl (MVBf v)), .inl (0, 150, .inl (MVSm v)), .inl (0, 40, .inl (MVOr v)), .inl (3, 240, .inl (MVOu v))]) rfl ?_
        exact AW.eq (a_X9_advanceToken_h172 X hR FU _ _ _ h) rfl rfl rfl rfl
    · rw [if_neg c7] at h
      exact AW.eq (a_X9_advanceToken_h106 X hR FU _ _ _ h) rfl rfl rfl rfl
  · rw [if_pos c3] at h
    refine go 4 X (pc2 := 298) (ls2 := [some (.ref 0)]) (st2 := []) (AH2 := [.inr (9, [.ref 1, .ref 2, .ref 3, .ref 4, .int (MVPc v), .int (MVIs v), .int (MVTh v), .ref 5, .int (MVSl v), .ref 6, .int (MVLn v), .int (MVEc v), .int (MVEo v), .int (MVSa v), .int (MVSa v), .int 0, .int (MVVa v), .int (MVFa v), .int (MVFo v), .ref 7, .int (MVSc v), .ref 8, .ref 9, .int (MVOl v)]), .inl (0, 500, .inl (MVSt v)), .inl (0, 500, .inl (MVAs v)), .inl (0, 500, .inl (MVSv v)), .inl (0, 4000, .inl (MVPt v)), .inl (0, 6, .inl (MVSp v)), .inl (3, 600, .inl (MVBf v)), .inl (0, 150, .inl (MVSm v)), .inl (0, 40, .inl (MVOr v)), .inl (3, 240, .inl (MVOu v))]) rfl ?_
    cases h
    exact r_vret X rfl rfl ⟨rfl, rfl⟩ (by decide) (by decide)
set_option maxHeartbeats 400000 in
set_option maxRecDepth 20000 in
theorem a_X9_advanceToken_j55 {κ : KX} (X : CX κ z_X9_advanceToken) (hR : κR κ = rmM 2 0 0) {kO : MV → Option (Unit × MV)} (hk : ∀  (v : MV) (r : Unit) (w : MV), kO v = some (r, w) → AW κ (QM κ (PST (.inl none) (WM w)) 0 0) 16 [some (.ref 0)] [] (WM v) 0 0) : ∀ (v : MV) (r : Unit) (w : MV) (h : f_X9_advanceToken_j55 kO v = some (r, w)), AW κ (QM κ (PST (.inl none) (WM w)) 0 0) 55 [some (.ref 0)] [] (WM v) 0 0 := by
  intro v r w h
  unfold f_X9_advanceToken_j55 at h
  refine AW.eq (pc' := 55) (ls' := [some (.ref 0)]) (st' := []) (AH' := [.inr (9, [.ref 1, .ref 2, .ref 3, .ref 4, .int (MVPc v), .int (MVIs v), .int (MVTh v), .ref 5, .int (MVSl v), .ref 6, .int (MVLn v), .int (MVEc v), .int (MVEo v), .int (MVSa v), .int (MVEn v), .int (MVTk v), .int (MVVa v), .int (MVFa v), .int (MVFo v), .ref 7, .int (MVSc v), .ref 8, .ref 9, .int (MVOl v)]), .inl (0, 500, .inl (MVSt v)), .inl (0, 500, .inl (MVAs v)), .inl (0, 500, .inl (MVSv v)), .inl (0, 4000, .inl (MVPt v)), .inl (0, 6, .inl (MVSp v)), .inl (3, 600, .inl (MVBf v)), .inl (0, 150, .inl (MVSm v)), .inl (0, 40, .inl (MVOr v)), .inl (3, 240, .inl (MVOu v))]) ?_ rfl rfl rfl rfl
  refine go 7 X (pc2 := 16) (ls2 := [some (.ref 0)]) (st2 := []) (AH2 := [.inr (9, [.ref 1, .ref 2, .ref 3, .ref 4, .int (MVPc v), .int (MVIs v), .int (MVTh v), .ref 5, .int (MVSl v), .ref 6, .int (MVLn v), .int (MVEc v), .int (MVEo v), .int ((MVSa v) + 1), .int (MVEn v), .int (MVTk v), .int (MVVa v), .int (MVFa v), .int (MVFo v), .ref 7, .int (MVSc v), .ref 8, .ref 9, .int (MVOl v)]), .inl (0, 500, .inl (MVSt v)), .inl (0, 500, .inl (MVAs v)), .inl (0, 500, .inl (MVSv v)), .inl (0, 4000, .inl (MVPt v)), .inl (0, 6, .inl (MVSp v)), .inl (3, 600, .inl (MVBf v)), .inl (0, 150, .inl (MVSm v)), .inl (0, 40, .inl (MVOr v)), .inl (3, 240, .inl (MVOu v))]) rfl ?_
  exact AW.eq (hk _ _ _ h) rfl rfl rfl rfl
set_option maxHeartbeats 400000 in
set_option maxRecDepth 20000 in
theorem a_X9_advanceToken_h16 {κ : KX} (X : CX κ z_X9_advanceToken) (hR : κR κ = rmM 2 0 0) : ∀ (n : Nat) (v : MV) (r : Unit) (w : MV) (h : f_X9_advanceToken_h16 n v = some (r, w)), AW κ (QM κ (PST (.inl none) (WM w)) 0 0) 16 [some (.ref 0)] [] (WM v) 0 0 := by
  intro n
  induction n with
  | zero =>
    intro v r w h
    unfold f_X9_advanceToken_h16 at h
    cases h
  | succ n ih =>
    intro v r w h
    unfold f_X9_advanceToken_h16 at h
    refine AW.eq (pc' := 16) (ls' := [some (.ref 0)]) (st' := []) (AH' := [.inr (9, [.ref 1, .ref 2, .ref 3, .ref 4, .int (MVPc v), .int (MVIs v), .int (MVTh v), .ref 5, .int (MVSl v), .ref 6, .int (MVLn v), .int (MVEc v), .int (MVEo v), .int (MVSa v), .int (MVEn v), .int (MVTk v), .int (MVVa v), .int (MVFa v), .int (MVFo v), .ref 7, .int (MVSc v), .ref 8, .ref 9, .int (MVOl v)]), .inl (0, 500, .inl (MVSt v)), .inl (0, 500, .inl (MVAs v)), .inl (0, 500, .inl (MVSv v)), .inl (0, 4000, .inl (MVPt v)), .inl (0, 6, .inl (MVSp v)), .inl (3, 600, .inl (MVBf v)), .inl (0, 150, .inl (MVSm v)), .inl (0, 40, .inl (MVOr v)), .inl (3, 240, .inl (MVOu v))]) ?_ rfl rfl rfl rfl
    refine go_s 4 X (pc2 := 24) (st2 := [.int (MVLn v), .int (MVSa v)]) rfl ?_
    refine r_icmp_ge X 68 rfl rfl (fun c2 => ?_) (fun c2 => ?_)
    · rw [if_pos c2] at h
      exact AW.eq (a_X9_advanceToken_j68 X hR _ _ _ h) rfl rfl rfl rfl
    · rw [if_neg c2] at h
      refine go_s 4 X (pc2 := 35) (st2 := [.int (MVSa v), .ref 6]) rfl ?_
      by_cases b26 : oob (MVSa v) 600
      · rw [if_pos b26] at h; cases h
      rw [if_neg b26] at h
      refine r_bald X rfl rfl b26 ?_
      refine go_s 1 X (pc2 := 38) (st2 := [.int 32, .int ((MVBf v) (Int32.toNatClampNeg (MVSa v)))]) rfl ?_
      refine r_icmp_eq X 55 rfl rfl (fun c27 => ?_) (fun c27 => ?_)
      · rw [if_pos c27] at h
        exact AW.eq (a_X9_advanceToken_j55 X hR ih _ _ _ h) rfl rfl rfl rfl
      · rw [if_neg c27] at h
        refine go_s 4 X (pc2 := 49) (st2 := [.int (MVSa v), .ref 6]) rfl ?_
        by_cases b28 : oob (MVSa v) 600
        · rw [if_pos b28] at h; cases h
        rw [if_neg b28] at h
        refine r_bald X rfl rfl b28 ?_
        refine go_s 1 X (pc2 := 52) (st2 := [.int 10, .int ((MVBf v) (Int32.toNatClampNeg (MVSa v)))]) rfl ?_
        refine r_icmp_ne X 68 rfl rfl (fun c29 => ?_) (fun c29 => ?_)
        · rw [if_neg c29] at h
          exact AW.eq (a_X9_advanceToken_j68 X hR _ _ _ h) rfl rfl rfl rfl
        · rw [if_pos c29] at h
          exact AW.eq (a_X9_advanceToken_j55 X hR ih _ _ _ h) rfl rfl rfl rfl
set_option maxHeartbeats 400000 in
set_option maxRecDepth 20000 in
theorem c_X9_advanceToken (v : MV) (r : Unit) (w : MV) (h : f_X9_advanceToken v = some (r, w)) : Sem z_X9_advanceToken 2 0 0 [.ref 0] (WM v) (PST (.inl none) (WM w)) := by
  refine Sem.of zo_X9_advanceToken (by decide +kernel) (Nat.le_of_ble_eq_true rfl) fun κ X hE hR hN => ?_
  unfold f_X9_advanceToken at h
  refine AW.eq (pc' := 0) (ls' := [some (.ref 0)]) (st' := []) (AH' := [.inr (9, [.ref 1, .ref 2, .ref 3, .ref 4, .int (MVPc v), .int (MVIs v), .int (MVTh v), .ref 5, .int (MVSl v), .ref 6, .int (MVLn v), .int (MVEc v), .int (MVEo v), .int (MVSa v), .int (MVEn v), .int (MVTk v), .int (MVVa v), .int (MVFa v), .int (MVFo v), .ref 7, .int (MVSc v), .ref 8, .ref 9, .int (MVOl v)]), .inl (0, 500, .inl (MVSt v)), .inl (0, 500, .inl (MVAs v)), .inl (0, 500, .inl (MVSv v)), .inl (0, 4000, .inl (MVPt v)), .inl (0, 6, .inl (MVSp v)), .inl (3, 600, .inl (MVBf v)), .inl (0, 150, .inl (MVSm v)), .inl (0, 40, .inl (MVOr v)), .inl (3, 240, .inl (MVOu v))]) ?_ rfl rfl rfl rfl
  refine go_s 2 X (pc2 := 4) (st2 := [.int (MVFa v)]) rfl ?_
  refine r_if_le X 8 rfl rfl (fun c1 => ?_) (fun c1 => ?_)
  · rw [if_pos c1] at h
    refine go 4 X (pc2 := 16) (ls2 := [some (.ref 0)]) (st2 := []) (AH2 := [.inr (9, [.ref 1, .ref 2, .ref 3, .ref 4, .int (MVPc v), .int (MVIs v), .int (MVTh v), .ref 5, .int (MVSl v), .ref 6, .int (MVLn v), .int (MVEc v), .int (MVEo v), .int (MVEn v), .int (MVEn v), .int (MVTk v), .int (MVVa v), .int (MVFa v), .int (MVFo v), .ref 7, .int (MVSc v), .ref 8, .ref 9, .int (MVOl v)]), .inl (0, 500, .inl (MVSt v)), .inl (0, 500, .inl (MVAs v)), .inl (0, 500, .inl (MVSv v)), .inl (0, 4000, .inl (MVPt v)), .inl (0, 6, .inl (MVSp v)), .inl (3, 600, .inl (MVBf v)), .inl (0, 150, .inl (MVSm v)), .inl (0, 40, .inl (MVOr v)), .inl (3, 240, .inl (MVOu v))]) rfl ?_
    exact AW.eq (a_X9_advanceToken_h16 X hR FU _ _ _ h) rfl rfl rfl rfl
  · rw [if_neg c1] at h
    cases h
    exact r_vret X rfl rfl ⟨rfl, rfl⟩ (by decide) (by decide)
set_option maxHeartbeats 400000 in
set_option maxRecDepth 20000 in
theorem a_X9_appendWord_h2 {κ : KX} (X : CX κ z_X9_appendWord) (hR : κR κ = rmM 0 0 0) : ∀ (n : Nat) (l1 : Int32) (l2 : Int32) (v : MV) (r : Unit) (w : MV) (h : f_X9_appendWord_h2 n l1 l2 v = some (r, w)), AW κ (QM κ (PST (.inl none) (WM w)) 0 0) 2 [some (.ref 0), some (.int l1), some (.int l2)] [] (WM v) 0 0 := by
  intro n
  induction n with
  | zero =>
    intro l1 l2 v r w h
    unfold f_X9_appendWord_h2 at h
    cases h
  | succ n ih =>
    intro l1 l2 v r w h
    unfold f_X9_appendWord_h2 at h
    refine AW.eq (pc' := 2) (ls' := [some (.ref 0), some (.int l1), some (.int l2)]) (st' := []) (AH' := [.inr (9, [.ref 1, .ref 2, .ref 3, .ref 4, .int (MVPc v), .int (MVIs v), .int (MVTh v), .ref 5, .int (MVSl v), .ref 6, .int (MVLn v), .int (MVEc v), .int (MVEo v), .int (MVSa v), .int (MVEn v), .int (MVTk v), .int (MVVa v), .int (MVFa v), .int (MVFo v), .ref 7, .int (MVSc v), .ref 8, .ref 9, .int (MVOl v)]), .inl (0, 500, .inl (MVSt v)), .inl (0, 500, .inl (MVAs v)), .inl (0, 500, .inl (MVSv v)), .inl (0, 4000, .inl (MVPt v)), .inl (0, 6, .inl (MVSp v)), .inl (3, 600, .inl (MVBf v)), .inl (0, 150, .inl (MVSm v)), .inl (0, 40, .inl (MVOr v)), .inl (3, 240, .inl (MVOu v))]) ?_ rfl rfl rfl rfl
    refine go_s 1 X (pc2 := 3) (st2 := [.int l2]) rfl ?_
    refine r_if_lt X 38 rfl rfl (fun c1 => ?_) (fun c1 => ?_)
    · rw [if_pos c1] at h
      cases h
      exact r_vret X rfl rfl ⟨rfl, rfl⟩ (by decide) (by decide)
    · rw [if_neg c1] at h
      refine go_s 10 X (pc2 := 21) (st2 := [.int (Int8.toInt32 (Int32.toInt8 (l1 >>> ((8 * l2) &&& 31)))), .int (MVLn v), .ref 6]) rfl ?_
      by_cases b2 : oob (MVLn v) 600
      · rw [if_pos b2] at h; cases h
      rw [if_neg b2] at h
      refine r_bast X rfl rfl b2 ?_
      refine go 8 X (pc2 := 2) (ls2 := [some (.ref 0), some (.int l1), some (.int (l2 + (-1)))]) (st2 := []) (AH2 := [.inr (9, [.ref 1, .ref 2, .ref 3, .ref 4, .int (MVPc v), .int (MVIs v), .int (MVTh v), .ref 5, .int (MVSl v), .ref 6, .int ((MVLn v) + 1), .int (MVEc v), .int (MVEo v), .int (MVSa v), .int (MVEn v), .int (MVTk v), .int (MVVa v), .int (MVFa v), .int (MVFo v), .ref 7, .int (MVSc v), .ref 8, .ref 9, .int (MVOl v)]), .inl (0, 500, .inl (MVSt v)), .inl (0, 500, .inl (MVAs v)), .inl (0, 500, .inl (MVSv v)), .inl (0, 4000, .inl (MVPt v)), .inl (0, 6, .inl (MVSp v)), .inl (3, 600, .inl (upd (MVBf v) (Int32.toNatClampNeg (MVLn v)) (vp_nar .byte (Int8.toInt32 (Int32.toInt8 (l1 >>> ((8 * l2) &&& 31))))))), .inl (0, 150, .inl (MVSm v)), .inl (0, 40, .inl (MVOr v)), .inl (3, 240, .inl (MVOu v))]) rfl ?_
      exact AW.eq (ih _ _ _ _ _ h) rfl rfl rfl rfl
set_option maxHeartbeats 400000 in
set_option maxRecDepth 20000 in
theorem c_X9_appendWord (v : MV) (a : Int32) (r : Unit) (w : MV) (h : f_X9_appendWord v a = some (r, w)) : Sem z_X9_appendWord 0 0 0 [.ref 0, .int a] (WM v) (PST (.inl none) (WM w)) := by
  refine Sem.of zo_X9_appendWord (by decide +kernel) (Nat.le_of_ble_eq_true rfl) fun κ X hE hR hN => ?_
  unfold f_X9_appendWord at h
  refine AW.eq (pc' := 0) (ls' := [some (.ref 0), some (.int a), none]) (st' := []) (AH' := [.inr (9, [.ref 1, .ref 2, .ref 3, .ref 4, .int (MVPc v), .int (MVIs v), .int (MVTh v), .ref 5, .int (MVSl v), .ref 6, .int (MVLn v), .int (MVEc v), .int (MVEo v), .int (MVSa v), .int (MVEn v), .int (MVTk v), .int (MVVa v), .int (MVFa v), .int (MVFo v), .ref 7, .int (MVSc v), .ref 8, .ref 9, .int (MVOl v)]), .inl (0, 500, .inl (MVSt v)), .inl (0, 500, .inl (MVAs v)), .inl (0, 500, .inl (MVSv v)), .inl (0, 4000, .inl (MVPt v)), .inl (0, 6, .inl (MVSp v)), .inl (3, 600, .inl (MVBf v)), .inl (0, 150, .inl (MVSm v)), .inl (0, 40, .inl (MVOr v)), .inl (3, 240, .inl (MVOu v))]) ?_ rfl rfl rfl rfl
  refine go_l 2 X (pc2 := 2) (ls2 := [some (.ref 0), some (.int a), some (.int 3)]) (st2 := []) rfl ?_
  exact AW.eq (a_X9_appendWord_h2 X hR FU _ _ _ _ _ h) rfl rfl rfl rfl
set_option maxHeartbeats 400000 in
set_option maxRecDepth 20000 in
theorem c_X9_appendInput (v : MV) (a : Int32) (b : Int32) (c : Int32) (d : Int32) (e : Int32) (r : Int32) (w : MV) (h : f_X9_appendInput v a b c d e = some (r, w)) : Sem z_X9_appendInput 1 0 0 [.ref 0, .int a, .int b, .int c, .int d, .int e] (WM v) (PST (.inl (some (.int r))) (WM w)) := by
  refine Sem.of zo_X9_appendInput (by decide +kernel) (Nat.le_of_ble_eq_true rfl) fun κ X hE hR hN => ?_
  unfold f_X9_appendInput at h
  refine AW.eq (pc' := 0) (ls' := [some (.ref 0), some (.int a), some (.int b), some (.int c), some (.int d), some (.int e)]) (st' := []) (AH' := [.inr (9, [.ref 1, .ref 2, .ref 3, .ref 4, .int (MVPc v), .int (MVIs v), .int (MVTh v), .ref 5, .int (MVSl v), .ref 6, .int (MVLn v), .int (MVEc v), .int (MVEo v), .int (MVSa v), .int (MVEn v), .int (MVTk v), .int (MVVa v), .int (MVFa v), .int (MVFo v), .ref 7, .int (MVSc v), .ref 8, .ref 9, .int (MVOl v)]), .inl (0, 500, .inl (MVSt v)), .inl (0, 500, .inl (MVAs v)), .inl (0, 500, .inl (MVSv v)), .inl (0, 4000, .inl (MVPt v)), .inl (0, 6, .inl (MVSp v)), .inl (3, 600, .inl (MVBf v)), .inl (0, 150, .inl (MVSm v)), .inl (0, 40, .inl (MVOr v)), .inl (3, 240, .inl (MVOu v))]) ?_ rfl rfl rfl rfl
  refine go 6 X (pc2 := 12) (ls2 := [some (.ref 0), some (.int a), some (.int b), some (.int c), some (.int d), some (.int e)]) (st2 := [.int 580, .int (MVLn v)]) (AH2 := [.inr (9, [.ref 1, .ref 2, .ref 3, .ref 4, .int (MVPc v), .int (MVIs v), .int 0, .ref 5, .int (MVSl v), .ref 6, .int (MVLn v), .int (MVEc v), .int (MVEo v), .int (MVSa v), .int (MVEn v), .int (MVTk v), .int (MVVa v), .int (MVFa v), .int (MVFo v), .ref 7, .int (MVSc v), .ref 8, .ref 9, .int (MVOl v)]), .inl (0, 500, .inl (MVSt v)), .inl (0, 500, .inl (MVAs v)), .inl (0, 500, .inl (MVSv v)), .inl (0, 4000, .inl (MVPt v)), .inl (0, 6, .inl (MVSp v)), .inl (3, 600, .inl (MVBf v)), .inl (0, 150, .inl (MVSm v)), .inl (0, 40, .inl (MVOr v)), .inl (3, 240, .inl (MVOu v))]) rfl ?_
  refine r_icmp_le X 17 rfl rfl (fun c1 => ?_) (fun c1 => ?_)
  · rw [if_pos c1] at h
    refine go_s 2 X (pc2 := 19) (st2 := [.int a, .ref 0]) rfl ?_
    obtain ⟨r3, w4, hq2, h⟩ := bnd2_inv h
    refine q_callV X [0, 1, 2, 3, 4, 5, 6, 7, 8, 9] [] (AH2 := [.inr (9, [.ref 1, .ref 2, .ref 3, .ref 4, .int (MVPc w4), .int (MVIs w4), .int (MVTh w4), .ref 5, .int (MVSl w4), .ref 6, .int (MVLn w4), .int (MVEc w4), .int (MVEo w4), .int (MVSa w4), .int (MVEn w4), .int (MVTk w4), .int (MVVa w4), .int (MVFa w4), .int (MVFo w4), .ref 7, .int (MVSc w4), .ref 8, .ref 9, .int (MVOl w4)]), .inl (0, 500, .inl (MVSt w4)), .inl (0, 500, .inl (MVAs w4)), .inl (0, 500, .inl (MVSv w4)), .inl (0, 4000, .inl (MVPt w4)), .inl (0, 6, .inl (MVSp w4)), .inl (3, 600, .inl (MVBf w4)), .inl (0, 150, .inl (MVSm w4)), .inl (0, 40, .inl (MVOr w4)), .inl (3, 240, .inl (MVOu w4))]) (st2 := []) (c_X9_appendWord _ _ _ _ hq2) ⟨rfl, rfl⟩ rfl k_X9_appendWord l_X9_149 rfl rfl rfl rfl rfl (fit_of hR (by decide) (by decide) (by decide) (by decide)) (Nat.le_of_ble_eq_true rfl) (by decide) rfl rfl rfl ?_
    refine go_s 2 X (pc2 := 24) (st2 := [.int b, .ref 0]) rfl ?_
    obtain ⟨r6, w7, hq5, h⟩ := bnd2_inv h
    refine q_callV X [0, 1, 2, 3, 4, 5, 6, 7, 8, 9] [] (AH2 := [.inr (9, [.ref 1, .ref 2, .ref 3, .ref 4, .int (MVPc w7), .int (MVIs w7), .int (MVTh w7), .ref 5, .int (MVSl w7), .ref 6, .int (MVLn w7), .int (MVEc w7), .int (MVEo w7), .int (MVSa w7), .int (MVEn w7), .int (MVTk w7), .int (MVVa w7), .int (MVFa w7), .int (MVFo w7), .ref 7, .int (MVSc w7), .ref 8, .ref 9, .int (MVOl w7)]), .inl (0, 500, .inl (MVSt w7)), .inl (0, 500, .inl (MVAs w7)), .inl (0, 500, .inl (MVSv w7)), .inl (0, 4000, .inl (MVPt w7)), .inl (0, 6, .inl (MVSp w7)), .inl (3, 600, .inl (MVBf w7)), .inl (0, 150, .inl (MVSm w7)), .inl (0, 40, .inl (MVOr w7)), .inl (3, 240, .inl (MVOu w7))]) (st2 := []) (c_X9_appendWord _ _ _ _ hq5) ⟨rfl, rfl⟩ rfl k_X9_appendWord l_X9_149 rfl rfl rfl rfl rfl (fit_of hR (by decide) (by decide) (by decide) (by decide)) (Nat.le_of_ble_eq_true rfl) (by decide) rfl rfl rfl ?_
    refine go_s 2 X (pc2 := 29) (st2 := [.int c, .ref 0]) rfl ?_
    obtain ⟨r9, w10, hq8, h⟩ := bnd2_inv h
    refine q_callV X [0, 1, 2, 3, 4, 5, 6, 7, 8, 9] [] (AH2 := [.inr (9, [.ref 1, .ref 2, .ref 3, .ref 4, .int (MVPc w10), .int (MVIs w10), .int (MVTh w10), .ref 5, .int (MVSl w10), .ref 6, .int (MVLn w10), .int (MVEc w10), .int (MVEo w10), .int (MVSa w10), .int (MVEn w10), .int (MVTk w10), .int (MVVa w10), .int (MVFa w10), .int (MVFo w10), .ref 7, .int (MVSc w10), .ref 8, .ref 9, .int (MVOl w10)]), .inl (0, 500, .inl (MVSt w10)), .inl (0, 500, .inl (MVAs w10)), .inl (0, 500, .inl (MVSv w10)), .inl (0, 4000, .inl (MVPt w10)), .inl (0, 6, .inl (MVSp w10)), .inl (3, 600, .inl (MVBf w10)), .inl (0, 150, .inl (MVSm w10)), .inl (0, 40, .inl (MVOr w10)), .inl (3, 240, .inl (MVOu w10))]) (st2 := []) (c_X9_appendWord _ _ _ _ hq8) ⟨rfl, rfl⟩ rfl k_X9_appendWord l_X9_149 rfl rfl rfl rfl rfl (fit_of hR (by decide) (by decide) (by decide) (by decide)) (Nat.le_of_ble_eq_true rfl) (by decide) rfl rfl rfl ?_
    refine go_s 2 X (pc2 := 35) (st2 := [.int d, .ref 0]) rfl ?_
    obtain ⟨r12, w13, hq11, h⟩ := bnd2_inv h
    refine q_callV X [0, 1, 2, 3, 4, 5, 6, 7, 8, 9] [] (AH2 := [.inr (9, [.ref 1, .ref 2, .ref 3, .ref 4, .int (MVPc w13), .int (MVIs w13), .int (MVTh w13), .ref 5, .int (MVSl w13), .ref 6, .int (MVLn w13), .int (MVEc w13), .int (MVEo w13), .int (MVSa w13), .int (MVEn w13), .int (MVTk w13), .int (MVVa w13), .int (MVFa w13), .int (MVFo w13), .ref 7, .int (MVSc w13), .ref 8, .ref 9, .int (MVOl w13)]), .inl (0, 500, .inl (MVSt w13)), .inl (0, 500, .inl (MVAs w13)), .inl (0, 500, .inl (MVSv w13)), .inl (0, 4000, .inl (MVPt w13)), .inl (0, 6, .inl (MVSp w13)), .inl (3, 600, .inl (MVBf w13)), .inl (0, 150, .inl (MVSm w13)), .inl (0, 40, .inl (MVOr w13)), .inl (3, 240, .inl (MVOu w13))]) (st2 := []) (c_X9_appendWord _ _ _ _ hq11) ⟨rfl, rfl⟩ rfl k_X9_appendWord l_X9_149 rfl rfl rfl rfl rfl (fit_of hR (by decide) (by decide) (by decide) (by decide)) (Nat.le_of_ble_eq_true rfl) (by decide) rfl rfl rfl ?_
    refine go_s 2 X (pc2 := 41) (st2 := [.int e, .ref 0]) rfl ?_
    obtain ⟨r15, w16, hq14, h⟩ := bnd2_inv h
    refine q_callV X [0, 1, 2, 3, 4, 5, 6, 7, 8, 9] [] (AH2 := [.inr (9, [.ref 1, .ref 2, .ref 3, .ref 4, .int (MVPc w16), .int (MVIs w16), .int (MVTh w16), .ref 5, .int (MVSl w16), .ref 6, .int (MVLn w16), .int (MVEc w16), .int (MVEo w16), .int (MVSa w16), .int (MVEn w16), .int (MVTk w16), .int (MVVa w16), .int (MVFa w16), .int (MVFo w16), .ref 7, .int (MVSc w16), .ref 8, .ref 9, .int (MVOl w16)]), .inl (0, 500, .inl (MVSt w16)), .inl (0, 500, .inl (MVAs w16)), .inl (0, 500, .inl (MVSv w16)), .inl (0, 4000, .inl (MVPt w16)), .inl (0, 6, .inl (MVSp w16)), .inl (3, 600, .inl (MVBf w16)), .inl (0, 150, .inl (MVSm w16)), .inl (0, 40, .inl (MVOr w16)), .inl (3, 240, .inl (MVOu w16))]) (st2 := []) (c_X9_appendWord _ _ _ _ hq14) ⟨rfl, rfl⟩ rfl k_X9_appendWord l_X9_149 rfl rfl rfl rfl rfl (fit_of hR (by decide) (by decide) (by decide) (by decide)) (Nat.le_of_ble_eq_true rfl) (by decide) rfl rfl rfl ?_
    refine go_s 2 X (pc2 := 48) (st2 := [.int (MVLn w16)]) rfl ?_
    cases h
    exact r_iret X rfl rfl ⟨rfl, rfl⟩ (by decide) (by decide)
  · rw [if_neg c1] at h
    refine go_s 1 X (pc2 := 16) (st2 := [.int (-1)]) rfl ?_
    cases h
    exact r_iret X rfl rfl ⟨rfl, rfl⟩ (by decide) (by decide)
set_option maxHeartbeats 400000 in
set_option maxRecDepth 20000 in
theorem c_X9_waits (v : MV) (a : Int32) (r : Int32) (h : f_X9_waits v a = some r) : Sem z_X9_waits 2 0 0 [.ref 0, .int a] (WM v) (PST (.inl (some (.int r))) (WM v)) := by
  refine Sem.of zo_X9_waits (by decide +kernel) (Nat.le_of_ble_eq_true rfl) fun κ X hE hR hN => ?_
  unfold f_X9_waits at h
  refine AW.eq (pc' := 0) (ls' := [some (.ref 0), some (.int a)]) (st' := []) (AH' := [.inr (9, [.ref 1, .ref 2, .ref 3, .ref 4, .int (MVPc v), .int (MVIs v), .int (MVTh v), .ref 5, .int (MVSl v), .ref 6, .int (MVLn v), .int (MVEc v), .int (MVEo v), .int (MVSa v), .int (MVEn v), .int (MVTk v), .int (MVVa v), .int (MVFa v), .int (MVFo v), .ref 7, .int (MVSc v), .ref 8, .ref 9, .int (MVOl v)]), .inl (0, 500, .inl (MVSt v)), .inl (0, 500, .inl (MVAs v)), .inl (0, 500, .inl (MVSv v)), .inl (0, 4000, .inl (MVPt v)), .inl (0, 6, .inl (MVSp v)), .inl (3, 600, .inl (MVBf v)), .inl (0, 150, .inl (MVSm v)), .inl (0, 40, .inl (MVOr v)), .inl (3, 240, .inl (MVOu v))]) ?_ rfl rfl rfl rfl
  refine go_s 3 X (pc2 := 3) (st2 := [.int 3, .int a, .ref 0]) rfl ?_
  obtain ⟨r2, hq1, h⟩ := obind_inv h
  refine q_callV X [0, 1, 2, 3, 4, 5, 6, 7, 8, 9] [] (AH2 := [.inr (9, [.ref 1, .ref 2, .ref 3, .ref 4, .int (MVPc v), .int (MVIs v), .int (MVTh v), .ref 5, .int (MVSl v), .ref 6, .int (MVLn v), .int (MVEc v), .int (MVEo v), .int (MVSa v), .int (MVEn v), .int (MVTk v), .int (MVVa v), .int (MVFa v), .int (MVFo v), .ref 7, .int (MVSc v), .ref 8, .ref 9, .int (MVOl v)]), .inl (0, 500, .inl (MVSt v)), .inl (0, 500, .inl (MVAs v)), .inl (0, 500, .inl (MVSv v)), .inl (0, 4000, .inl (MVPt v)), .inl (0, 6, .inl (MVSp v)), .inl (3, 600, .inl (MVBf v)), .inl (0, 150, .inl (MVSm v)), .inl (0, 40, .inl (MVOr v)), .inl (3, 240, .inl (MVOu v))]) (st2 := [.int r2]) (c_X9_get _ _ _ _ hq1) ⟨rfl, rfl⟩ rfl k_X9_get l_X9_90 rfl rfl rfl rfl rfl (fit_of hR (by decide) (by decide) (by decide) (by decide)) (Nat.le_of_ble_eq_true rfl) (by decide) rfl rfl rfl ?_
  refine r_if_ne X 13 rfl rfl (fun c4 => ?_) (fun c4 => ?_)
  · rw [if_neg c4] at h
    refine go_s 1 X (pc2 := 14) (st2 := [.int 0]) rfl ?_
    cases h
    exact r_zret X (ty := .boolean) rfl rfl rfl ⟨rfl, rfl⟩ (by decide) (by decide)
  · rw [if_pos c4] at h
    refine go_s 2 X (pc2 := 14) (st2 := [.int 1]) rfl ?_
    cases h
    exact r_zret X (ty := .boolean) rfl rfl rfl ⟨rfl, rfl⟩ (by decide) (by decide)
set_option maxHeartbeats 400000 in
set_option maxRecDepth 20000 in
theorem c_X9_one (a : Int32) (r : Int32) (h : f_X9_one a = some r) : Sem z_X9_one 0 0 0 [.int a] [] (PST (.inl (some (.int r))) []) := by
  refine Sem.of zo_X9_one (by decide +kernel) (Nat.le_of_ble_eq_true rfl) fun κ X hE hR hN => ?_
  unfold f_X9_one at h
  refine AW.eq (pc' := 0) (ls' := [some (.int a)]) (st' := []) (AH' := []) ?_ rfl rfl rfl rfl
  refine go_s 1 X (pc2 := 1) (st2 := [.int a]) rfl ?_
  refine r_if_eq X 8 rfl rfl (fun c1 => ?_) (fun c1 => ?_)
  · rw [if_pos c1] at h
    refine go_s 1 X (pc2 := 9) (st2 := [.int 0]) rfl ?_
    cases h
    exact r_iret X rfl rfl ⟨rfl, rfl⟩ (by decide) (by decide)
  · rw [if_neg c1] at h
    refine go_s 2 X (pc2 := 9) (st2 := [.int 1]) rfl ?_
    cases h
    exact r_iret X rfl rfl ⟨rfl, rfl⟩ (by decide) (by decide)
set_option maxHeartbeats 400000 in
set_option maxRecDepth 20000 in
theorem a_X9_waitingCount_h4 {κ : KX} (X : CX κ z_X9_waitingCount) (hR : κR κ = rmM 3 0 0) : ∀ (n : Nat) (l1 : Int32) (l2 : Int32) (v : MV) (r : Int32) (h : f_X9_waitingCount_h4 n l1 l2 v = some r), AW κ (QM κ (PST (.inl (some (.int r))) (WM v)) 0 0) 4 [some (.ref 0), some (.int l1), some (.int l2)] [] (WM v) 0 0 := by
  intro n
  induction n with
  | zero =>
    intro l1 l2 v r h
    unfold f_X9_waitingCount_h4 at h
    cases h
  | succ n ih =>
    intro l1 l2 v r h
    unfold f_X9_waitingCount_h4 at h
    refine AW.eq (pc' := 4) (ls' := [some (.ref 0), some (.int l1), some (.int l2)]) (st' := []) (AH' := [.inr (9, [.ref 1, .ref 2, .ref 3, .ref 4, .int (MVPc v), .int (MVIs v), .int (MVTh v), .ref 5, .int (MVSl v), .ref 6, .int (MVLn v), .int (MVEc v), .int (MVEo v), .int (MVSa v), .int (MVEn v), .int (MVTk v), .int (MVVa v), .int (MVFa v), .int (MVFo v), .ref 7, .int (MVSc v), .ref 8, .ref 9, .int (MVOl v)]), .inl (0, 500, .inl (MVSt v)), .inl (0, 500, .inl (MVAs v)), .inl (0, 500, .inl (MVSv v)), .inl (0, 4000, .inl (MVPt v)), .inl (0, 6, .inl (MVSp v)), .inl (3, 600, .inl (MVBf v)), .inl (0, 150, .inl (MVSm v)), .inl (0, 40, .inl (MVOr v)), .inl (3, 240, .inl (MVOu v))]) ?_ rfl rfl rfl rfl
    refine go_s 4 X (pc2 := 10) (st2 := [.int 2, .ref 1, .int l2]) rfl ?_
    by_cases b1 : oob 2 500
    · rw [if_pos b1] at h; cases h
    rw [if_neg b1] at h
    refine r_iald X rfl rfl b1 ?_
    refine r_icmp_ge X 31 rfl rfl (fun c2 => ?_) (fun c2 => ?_)
    · rw [if_pos c2] at h
      refine go_s 1 X (pc2 := 32) (st2 := [.int l1]) rfl ?_
      cases h
      exact r_iret X rfl rfl ⟨rfl, rfl⟩ (by decide) (by decide)
    · rw [if_neg c2] at h
      refine go_s 3 X (pc2 := 17) (st2 := [.int l2, .ref 0, .int l1]) rfl ?_
      obtain ⟨r4, hq3, h⟩ := obind_inv h
      refine q_callV X [0, 1, 2, 3, 4, 5, 6, 7, 8, 9] [] (AH2 := [.inr (9, [.ref 1, .ref 2, .ref 3, .ref 4, .int (MVPc v), .int (MVIs v), .int (MVTh v), .ref 5, .int (MVSl v), .ref 6, .int (MVLn v), .int (MVEc v), .int (MVEo v), .int (MVSa v), .int (MVEn v), .int (MVTk v), .int (MVVa v), .int (MVFa v), .int (MVFo v), .ref 7, .int (MVSc v), .ref 8, .ref 9, .int (MVOl v)]), .inl (0, 500, .inl (MVSt v)), .inl (0, 500, .inl (MVAs v)), .inl (0, 500, .inl (MVSv v)), .inl (0, 4000, .inl (MVPt v)), .inl (0, 6, .inl (MVSp v)), .inl (3, 600, .inl (MVBf v)), .inl (0, 150, .inl (MVSm v)), .inl (0, 40, .inl (MVOr v)), .inl (3, 240, .inl (MVOu v))]) (st2 := [.int r4, .int l1]) (c_X9_waits _ _ _ hq3) ⟨rfl, rfl⟩ rfl k_X9_waits l_X9_130 rfl rfl rfl rfl rfl (fit_of hR (by decide) (by decide) (by decide) (by decide)) (Nat.le_of_ble_eq_true rfl) (by decide) rfl rfl rfl ?_
      obtain ⟨r7, hq6, h⟩ := obind_inv h
      refine q_callS X [] [] (AH2 := [.inr (9, [.ref 1, .ref 2, .ref 3, .ref 4, .int (MVPc v), .int (MVIs v), .int (MVTh v), .ref 5, .int (MVSl v), .ref 6, .int (MVLn v), .int (MVEc v), .int (MVEo v), .int (MVSa v), .int (MVEn v), .int (MVTk v), .int (MVVa v), .int (MVFa v), .int (MVFo v), .ref 7, .int (MVSc v), .ref 8, .ref 9, .int (MVOl v)]), .inl (0, 500, .inl (MVSt v)), .inl (0, 500, .inl (MVAs v)), .inl (0, 500, .inl (MVSv v)), .inl (0, 4000, .inl (MVPt v)), .inl (0, 6, .inl (MVSp v)), .inl (3, 600, .inl (MVBf v)), .inl (0, 150, .inl (MVSm v)), .inl (0, 40, .inl (MVOr v)), .inl (3, 240, .inl (MVOu v))]) (st2 := [.int r7, .int l1]) (c_X9_one _ _ hq6) ⟨rfl, rfl⟩ rfl k_X9_one l_X9_136 rfl rfl (fit_of hR (by decide) (by decide) (by decide) (by decide)) (Nat.le_of_ble_eq_true rfl) (by decide) rfl rfl rfl ?_
      refine go_l 4 X (pc2 := 4) (ls2 := [some (.ref 0), some (.int (l1 + r7)), some (.int (l2 + 1))]) (st2 := []) rfl ?_
      exact AW.eq (ih _ _ _ _ h) rfl rfl rfl rfl
set_option maxHeartbeats 400000 in
set_option maxRecDepth 20000 in
theorem c_X9_waitingCount (v : MV) (r : Int32) (h : f_X9_waitingCount v = some r) : Sem z_X9_waitingCount 3 0 0 [.ref 0] (WM v) (PST (.inl (some (.int r))) (WM v)) := by
  refine Sem.of zo_X9_waitingCount (by decide +kernel) (Nat.le_of_ble_eq_true rfl) fun κ X hE hR hN => ?_
  unfold f_X9_waitingCount at h
  refine AW.eq (pc' := 0) (ls' := [some (.ref 0), none, none]) (st' := []) (AH' := [.inr (9, [.ref 1, .ref 2, .ref 3, .ref 4, .int (MVPc v), .int (MVIs v), .int (MVTh v), .ref 5, .int (MVSl v), .ref 6, .int (MVLn v), .int (MVEc v), .int (MVEo v), .int (MVSa v), .int (MVEn v), .int (MVTk v), .int (MVVa v), .int (MVFa v), .int (MVFo v), .ref 7, .int (MVSc v), .ref 8, .ref 9, .int (MVOl v)]), .inl (0, 500, .inl (MVSt v)), .inl (0, 500, .inl (MVAs v)), .inl (0, 500, .inl (MVSv v)), .inl (0, 4000, .inl (MVPt v)), .inl (0, 6, .inl (MVSp v)), .inl (3, 600, .inl (MVBf v)), .inl (0, 150, .inl (MVSm v)), .inl (0, 40, .inl (MVOr v)), .inl (3, 240, .inl (MVOu v))]) ?_ rfl rfl rfl rfl
  refine go_l 4 X (pc2 := 4) (ls2 := [some (.ref 0), some (.int 0), some (.int 0)]) (st2 := []) rfl ?_
  exact AW.eq (a_X9_waitingCount_h4 X hR FU _ _ _ _ h) rfl rfl rfl rfl
set_option maxHeartbeats 400000 in
set_option maxRecDepth 20000 in
theorem c_X9_countFrom : ∀ (n : Nat) (v : MV) (a : Int32) (r : Int32) (h : f_X9_countFrom n v a = some r), Sem z_X9_countFrom (n + 2) 0 0 [.ref 0, .int a] (WM v) (PST (.inl (some (.int r))) (WM v)) := by
  intro n
  induction n with
  | zero =>
    intro v a r h
    unfold f_X9_countFrom at h
    cases h
  | succ n ih =>
    intro v a r h
    refine Sem.of zo_X9_countFrom (by decide +kernel) (Nat.le_of_ble_eq_true rfl) fun κ X hE hR hN => ?_
    unfold f_X9_countFrom at h
    refine AW.eq (pc' := 0) (ls' := [some (.ref 0), some (.int a)]) (st' := []) (AH' := [.inr (9, [.ref 1, .ref 2, .ref 3, .ref 4, .int (MVPc v), .int (MVIs v), .int (MVTh v), .ref 5, .int (MVSl v), .ref 6, .int (MVLn v), .int (MVEc v), .int (MVEo v), .int (MVSa v), .int (MVEn v), .int (MVTk v), .int (MVVa v), .int (MVFa v), .int (MVFo v), .ref 7, .int (MVSc v), .ref 8, .ref 9, .int (MVOl v)]), .inl (0, 500, .inl (MVSt v)), .inl (0, 500, .inl (MVAs v)), .inl (0, 500, .inl (MVSv v)), .inl (0, 4000, .inl (MVPt v)), .inl (0, 6, .inl (MVSp v)), .inl (3, 600, .inl (MVBf v)), .inl (0, 150, .inl (MVSm v)), .inl (0, 40, .inl (MVOr v)), .inl (3, 240, .inl (MVOu v))]) ?_ rfl rfl rfl rfl
    refine go_s 2 X (pc2 := 2) (st2 := [.int (-1), .int a]) rfl ?_
    refine r_icmp_ne X 7 rfl rfl (fun c1 => ?_) (fun c1 => ?_)
    · rw [if_neg c1] at h
      refine go_s 5 X (pc2 := 12) (st2 := [.int 5, .int a, .ref 0, .ref 0, .int 1]) rfl ?_
      obtain ⟨r3, hq2, h⟩ := obind_inv h
      refine q_callV X [0, 1, 2, 3, 4, 5, 6, 7, 8, 9] [] (AH2 := [.inr (9, [.ref 1, .ref 2, .ref 3, .ref 4, .int (MVPc v), .int (MVIs v), .int (MVTh v), .ref 5, .int (MVSl v), .ref 6, .int (MVLn v), .int (MVEc v), .int (MVEo v), .int (MVSa v), .int (MVEn v), .int (MVTk v), .int (MVVa v), .int (MVFa v), .int (MVFo v), .ref 7, .int (MVSc v), .ref 8, .ref 9, .int (MVOl v)]), .inl (0, 500, .inl (MVSt v)), .inl (0, 500, .inl (MVAs v)), .inl (0, 500, .inl (MVSv v)), .inl (0, 4000, .inl (MVPt v)), .inl (0, 6, .inl (MVSp v)), .inl (3, 600, .inl (MVBf v)), .inl (0, 150, .inl (MVSm v)), .inl (0, 40, .inl (MVOr v)), .inl (3, 240, .inl (MVOu v))]) (st2 := [.int r3, .ref 0, .int 1]) (c_X9_get _ _ _ _ hq2) ⟨rfl, rfl⟩ rfl k_X9_get l_X9_90 rfl rfl rfl rfl rfl (fit_of hR (by omega) (by decide) (by decide) (by decide)) (Nat.le_of_ble_eq_true rfl) (by decide) rfl rfl rfl ?_
      obtain ⟨r6, hq5, h⟩ := obind_inv h
      refine q_callV X [0, 1, 2, 3, 4, 5, 6, 7, 8, 9] [] (AH2 := [.inr (9, [.ref 1, .ref 2, .ref 3, .ref 4, .int (MVPc v), .int (MVIs v), .int (MVTh v), .ref 5, .int (MVSl v), .ref 6, .int (MVLn v), .int (MVEc v), .int (MVEo v), .int (MVSa v), .int (MVEn v), .int (MVTk v), .int (MVVa v), .int (MVFa v), .int (MVFo v), .ref 7, .int (MVSc v), .ref 8, .ref 9, .int (MVOl v)]), .inl (0, 500, .inl (MVSt v)), .inl (0, 500, .inl (MVAs v)), .inl (0, 500, .inl (MVSv v)), .inl (0, 4000, .inl (MVPt v)), .inl (0, 6, .inl (MVSp v)), .inl (3, 600, .inl (MVBf v)), .inl (0, 150, .inl (MVSm v)), .inl (0, 40, .inl (MVOr v)), .inl (3, 240, .inl (MVOu v))]) (st2 := [.int r6, .int 1]) (ih _ _ _ hq5) ⟨rfl, rfl⟩ rfl k_X9_countFrom l_X9_389 rfl rfl rfl rfl rfl (fit_of hR (by omega) (by decide) (by decide) (by decide)) (Nat.le_of_ble_eq_true rfl) (by decide) rfl rfl rfl ?_
      refine go_s 5 X (pc2 := 24) (st2 := [.int 6, .int a, .ref 0, .ref 0, .int (1 + r6)]) rfl ?_
      obtain ⟨r9, hq8, h⟩ := obind_inv h
      refine q_callV X [0, 1, 2, 3, 4, 5, 6, 7, 8, 9] [] (AH2 := [.inr (9, [.ref 1, .ref 2, .ref 3, .ref 4, .int (MVPc v), .int (MVIs v), .int (MVTh v), .ref 5, .int (MVSl v), .ref 6, .int (MVLn v), .int (MVEc v), .int (MVEo v), .int (MVSa v), .int (MVEn v), .int (MVTk v), .int (MVVa v), .int (MVFa v), .int (MVFo v), .ref 7, .int (MVSc v), .ref 8, .ref 9, .int (MVOl v)]), .inl (0, 500, .inl (MVSt v)), .inl (0, 500, .inl (MVAs v)), .inl (0, 500, .inl (MVSv v)), .inl (0, 4000, .inl (MVPt v)), .inl (0, 6, .inl (MVSp v)), .inl (3, 600, .inl (MVBf v)), .inl (0, 150, .inl (MVSm v)), .inl (0, 40, .inl (MVOr v)), .inl (3, 240, .inl (MVOu v))]) (st2 := [.int r9, .ref 0, .int (1 + r6)]) (c_X9_get _ _ _ _ hq8) ⟨rfl, rfl⟩ rfl k_X9_get l_X9_90 rfl rfl rfl rfl rfl (fit_of hR (by omega) (by decide) (by decide) (by decide)) (Nat.le_of_ble_eq_true rfl) (by decide) rfl rfl rfl ?_
      obtain ⟨r12, hq11, h⟩ := obind_inv h
      refine q_callV X [0, 1, 2, 3, 4, 5, 6, 7, 8, 9] [] (AH2 := [.inr (9, [.ref 1, .ref 2, .ref 3, .ref 4, .int (MVPc v), .int (MVIs v), .int (MVTh v), .ref 5, .int (MVSl v), .ref 6, .int (MVLn v), .int (MVEc v), .int (MVEo v), .int (MVSa v), .int (MVEn v), .int (MVTk v), .int (MVVa v), .int (MVFa v), .int (MVFo v), .ref 7, .int (MVSc v), .ref 8, .ref 9, .int (MVOl v)]), .inl (0, 500, .inl (MVSt v)), .inl (0, 500, .inl (MVAs v)), .inl (0, 500, .inl (MVSv v)), .inl (0, 4000, .inl (MVPt v)), .inl (0, 6, .inl (MVSp v)), .inl (3, 600, .inl (MVBf v)), .inl (0, 150, .inl (MVSm v)), .inl (0, 40, .inl (MVOr v)), .inl (3, 240, .inl (MVOu v))]) (st2 := [.int r12, .int (1 + r6)]) (ih _ _ _ hq11) ⟨rfl, rfl⟩ rfl k_X9_countFrom l_X9_389 rfl rfl rfl rfl rfl (fit_of hR (by omega) (by decide) (by decide) (by decide)) (Nat.le_of_ble_eq_true rfl) (by decide) rfl rfl rfl ?_
      refine go_s 1 X (pc2 := 31) (st2 := [.int ((1 + r6) + r12)]) rfl ?_
      cases h
      exact r_iret X rfl rfl ⟨rfl, rfl⟩ (by decide) (by decide)
    · rw [if_pos c1] at h
      refine go_s 1 X (pc2 := 6) (st2 := [.int 0]) rfl ?_
      cases h
      exact r_iret X rfl rfl ⟨rfl, rfl⟩ (by decide) (by decide)
set_option maxHeartbeats 400000 in
set_option maxRecDepth 20000 in
theorem c_X9_isIn (v : MV) (a : Int32) (b : Int32) (r : Int32) (h : f_X9_isIn v a b = some r) : Sem z_X9_isIn 3 0 0 [.ref 0, .int a, .int b] (WM v) (PST (.inl (some (.int r))) (WM v)) := by
  refine Sem.of zo_X9_isIn (by decide +kernel) (Nat.le_of_ble_eq_true rfl) fun κ X hE hR hN => ?_
  unfold f_X9_isIn at h
  refine AW.eq (pc' := 0) (ls' := [some (.ref 0), some (.int a), some (.int b)]) (st' := []) (AH' := [.inr (9, [.ref 1, .ref 2, .ref 3, .ref 4, .int (MVPc v), .int (MVIs v), .int (MVTh v), .ref 5, .int (MVSl v), .ref 6, .int (MVLn v), .int (MVEc v), .int (MVEo v), .int (MVSa v), .int (MVEn v), .int (MVTk v), .int (MVVa v), .int (MVFa v), .int (MVFo v), .ref 7, .int (MVSc v), .ref 8, .ref 9, .int (MVOl v)]), .inl (0, 500, .inl (MVSt v)), .inl (0, 500, .inl (MVAs v)), .inl (0, 500, .inl (MVSv v)), .inl (0, 4000, .inl (MVPt v)), .inl (0, 6, .inl (MVSp v)), .inl (3, 600, .inl (MVBf v)), .inl (0, 150, .inl (MVSm v)), .inl (0, 40, .inl (MVOr v)), .inl (3, 240, .inl (MVOu v))]) ?_ rfl rfl rfl rfl
  refine go_s 2 X (pc2 := 2) (st2 := [.int a, .ref 0]) rfl ?_
  obtain ⟨r2, hq1, h⟩ := obind_inv h
  refine q_callV X [0, 1, 2, 3, 4, 5, 6, 7, 8, 9] [] (AH2 := [.inr (9, [.ref 1, .ref 2, .ref 3, .ref 4, .int (MVPc v), .int (MVIs v), .int (MVTh v), .ref 5, .int (MVSl v), .ref 6, .int (MVLn v), .int (MVEc v), .int (MVEo v), .int (MVSa v), .int (MVEn v), .int (MVTk v), .int (MVVa v), .int (MVFa v), .int (MVFo v), .ref 7, .int (MVSc v), .ref 8, .ref 9, .int (MVOl v)]), .inl (0, 500, .inl (MVSt v)), .inl (0, 500, .inl (MVAs v)), .inl (0, 500, .inl (MVSv v)), .inl (0, 4000, .inl (MVPt v)), .inl (0, 6, .inl (MVSp v)), .inl (3, 600, .inl (MVBf v)), .inl (0, 150, .inl (MVSm v)), .inl (0, 40, .inl (MVOr v)), .inl (3, 240, .inl (MVOu v))]) (st2 := [.int r2]) (c_X9_waits _ _ _ hq1) ⟨rfl, rfl⟩ rfl k_X9_waits l_X9_130 rfl rfl rfl rfl rfl (fit_of hR (by decide) (by decide) (by decide) (by decide)) (Nat.le_of_ble_eq_true rfl) (by decide) rfl rfl rfl ?_
  refine r_if_eq X 22 rfl rfl (fun c4 => ?_) (fun c4 => ?_)
  · rw [if_pos c4] at h
    refine go_s 1 X (pc2 := 23) (st2 := [.int 0]) rfl ?_
    cases h
    exact r_zret X (ty := .boolean) rfl rfl rfl ⟨rfl, rfl⟩ (by decide) (by decide)
  · rw [if_neg c4] at h
    refine go_s 3 X (pc2 := 11) (st2 := [.int 4, .int a, .ref 0]) rfl ?_
    obtain ⟨r6, hq5, h⟩ := obind_inv h
    refine q_callV X [0, 1, 2, 3, 4, 5, 6, 7, 8, 9] [] (AH2 := [.inr (9, [.ref 1, .ref 2, .ref 3, .ref 4, .int (MVPc v), .int (MVIs v), .int (MVTh v), .ref 5, .int (MVSl v), .ref 6, .int (MVLn v), .int (MVEc v), .int (MVEo v), .int (MVSa v), .int (MVEn v), .int (MVTk v), .int (MVVa v), .int (MVFa v), .int (MVFo v), .ref 7, .int (MVSc v), .ref 8, .ref 9, .int (MVOl v)]), .inl (0, 500, .inl (MVSt v)), .inl (0, 500, .inl (MVAs v)), .inl (0, 500, .inl (MVSv v)), .inl (0, 4000, .inl (MVPt v)), .inl (0, 6, .inl (MVSp v)), .inl (3, 600, .inl (MVBf v)), .inl (0, 150, .inl (MVSm v)), .inl (0, 40, .inl (MVOr v)), .inl (3, 240, .inl (MVOu v))]) (st2 := [.int r6]) (c_X9_get _ _ _ _ hq5) ⟨rfl, rfl⟩ rfl k_X9_get l_X9_90 rfl rfl rfl rfl rfl (fit_of hR (by decide) (by decide) (by decide) (by decide)) (Nat.le_of_ble_eq_true rfl) (by decide) rfl rfl rfl ?_
    refine go_s 1 X (pc2 := 15) (st2 := [.int b, .int r6]) rfl ?_
    refine r_icmp_ne X 22 rfl rfl (fun c8 => ?_) (fun c8 => ?_)
    · rw [if_neg c8] at h
      refine go_s 1 X (pc2 := 23) (st2 := [.int 0]) rfl ?_
      cases h
      exact r_zret X (ty := .boolean) rfl rfl rfl ⟨rfl, rfl⟩ (by decide) (by decide)
    · rw [if_pos c8] at h
      refine go_s 2 X (pc2 := 23) (st2 := [.int 1]) rfl ?_
      cases h
      exact r_zret X (ty := .boolean) rfl rfl rfl ⟨rfl, rfl⟩ (by decide) (by decide)
set_option maxHeartbeats 400000 in
set_option maxRecDepth 20000 in
theorem a_X9_sizeOf_h4 {κ : KX} (X : CX κ z_X9_sizeOf) (hR : κR κ = rmM 4 0 0) : ∀ (n : Nat) (l1 : Int32) (l2 : Int32) (l3 : Int32) (v : MV) (r : Int32) (h : f_X9_sizeOf_h4 n l1 l2 l3 v = some r), AW κ (QM κ (PST (.inl (some (.int r))) (WM v)) 0 0) 4 [some (.ref 0), some (.int l1), some (.int l2), some (.int l3)] [] (WM v) 0 0 := by
  intro n
  induction n with
  | zero =>
    intro l1 l2 l3 v r h
    unfold f_X9_sizeOf_h4 at h
    cases h
  | succ n ih =>
    intro l1 l2 l3 v r h
    unfold f_X9_sizeOf_h4 at h
    refine AW.eq (pc' := 4) (ls' := [some (.ref 0), some (.int l1), some (.int l2), some (.int l3)]) (st' := []) (AH' := [.inr (9, [.ref 1, .ref 2, .ref 3, .ref 4, .int (MVPc v), .int (MVIs v), .int (MVTh v), .ref 5, .int (MVSl v), .ref 6, .int (MVLn v), .int (MVEc v), .int (MVEo v), .int (MVSa v), .int (MVEn v), .int (MVTk v), .int (MVVa v), .int (MVFa v), .int (MVFo v), .ref 7, .int (MVSc v), .ref 8, .ref 9, .int (MVOl v)]), .inl (0, 500, .inl (MVSt v)), .inl (0, 500, .inl (MVAs v)), .inl (0, 500, .inl (MVSv v)), .inl (0, 4000, .inl (MVPt v)), .inl (0, 6, .inl (MVSp v)), .inl (3, 600, .inl (MVBf v)), .inl (0, 150, .inl (MVSm v)), .inl (0, 40, .inl (MVOr v)), .inl (3, 240, .inl (MVOu v))]) ?_ rfl rfl rfl rfl
    refine go_s 4 X (pc2 := 10) (st2 := [.int 2, .ref 1, .int l3]) rfl ?_
    by_cases b1 : oob 2 500
    · rw [if_pos b1] at h; cases h
    rw [if_neg b1] at h
    refine r_iald X rfl rfl b1 ?_
    refine r_icmp_ge X 32 rfl rfl (fun c2 => ?_) (fun c2 => ?_)
    · rw [if_pos c2] at h
      refine go_s 1 X (pc2 := 33) (st2 := [.int l2]) rfl ?_
      cases h
      exact r_iret X rfl rfl ⟨rfl, rfl⟩ (by decide) (by decide)
    · rw [if_neg c2] at h
      refine go_s 4 X (pc2 := 18) (st2 := [.int l1, .int l3, .ref 0, .int l2]) rfl ?_
      obtain ⟨r4, hq3, h⟩ := obind_inv h
      refine q_callV X [0, 1, 2, 3, 4, 5, 6, 7, 8, 9] [] (AH2 := [.inr (9, [.ref 1, .ref 2, .ref 3, .ref 4, .int (MVPc v), .int (MVIs v), .int (MVTh v), .ref 5, .int (MVSl v), .ref 6, .int (MVLn v), .int (MVEc v), .int (MVEo v), .int (MVSa v), .int (MVEn v), .int (MVTk v), .int (MVVa v), .int (MVFa v), .int (MVFo v), .ref 7, .int (MVSc v), .ref 8, .ref 9, .int (MVOl v)]), .inl (0, 500, .inl (MVSt v)), .inl (0, 500, .inl (MVAs v)), .inl (0, 500, .inl (MVSv v)), .inl (0, 4000, .inl (MVPt v)), .inl (0, 6, .inl (MVSp v)), .inl (3, 600, .inl (MVBf v)), .inl (0, 150, .inl (MVSm v)), .inl (0, 40, .inl (MVOr v)), .inl (3, 240, .inl (MVOu v))]) (st2 := [.int r4, .int l2]) (c_X9_isIn _ _ _ _ hq3) ⟨rfl, rfl⟩ rfl k_X9_isIn l_X9_133 rfl rfl rfl rfl rfl (fit_of hR (by decide) (by decide) (by decide) (by decide)) (Nat.le_of_ble_eq_true rfl) (by decide) rfl rfl rfl ?_
      obtain ⟨r7, hq6, h⟩ := obind_inv h
      refine q_callS X [] [] (AH2 := [.inr (9, [.ref 1, .ref 2, .ref 3, .ref 4, .int (MVPc v), .int (MVIs v), .int (MVTh v), .ref 5, .int (MVSl v), .ref 6, .int (MVLn v), .int (MVEc v), .int (MVEo v), .int (MVSa v), .int (MVEn v), .int (MVTk v), .int (MVVa v), .int (MVFa v), .int (MVFo v), .ref 7, .int (MVSc v), .ref 8, .ref 9, .int (MVOl v)]), .inl (0, 500, .inl (MVSt v)), .inl (0, 500, .inl (MVAs v)), .inl (0, 500, .inl (MVSv v)), .inl (0, 4000, .inl (MVPt v)), .inl (0, 6, .inl (MVSp v)), .inl (3, 600, .inl (MVBf v)), .inl (0, 150, .inl (MVSm v)), .inl (0, 40, .inl (MVOr v)), .inl (3, 240, .inl (MVOu v))]) (st2 := [.int r7, .int l2]) (c_X9_one _ _ hq6) ⟨rfl, rfl⟩ rfl k_X9_one l_X9_136 rfl rfl (fit_of hR (by decide) (by decide) (by decide) (by decide)) (Nat.le_of_ble_eq_true rfl) (by decide) rfl rfl rfl ?_
      refine go_l 4 X (pc2 := 4) (ls2 := [some (.ref 0), some (.int l1), some (.int (l2 + r7)), some (.int (l3 + 1))]) (st2 := []) rfl ?_
      exact AW.eq (ih _ _ _ _ _ h) rfl rfl rfl rfl
set_option maxHeartbeats 400000 in
set_option maxRecDepth 20000 in
theorem c_X9_sizeOf (v : MV) (a : Int32) (r : Int32) (h : f_X9_sizeOf v a = some r) : Sem z_X9_sizeOf 4 0 0 [.ref 0, .int a] (WM v) (PST (.inl (some (.int r))) (WM v)) := by
  refine Sem.of zo_X9_sizeOf (by decide +kernel) (Nat.le_of_ble_eq_true rfl) fun κ X hE hR hN => ?_
  unfold f_X9_sizeOf at h
  refine AW.eq (pc' := 0) (ls' := [some (.ref 0), some (.int a), none, none]) (st' := []) (AH' := [.inr (9, [.ref 1, .ref 2, .ref 3, .ref 4, .int (MVPc v), .int (MVIs v), .int (MVTh v), .ref 5, .int (MVSl v), .ref 6, .int (MVLn v), .int (MVEc v), .int (MVEo v), .int (MVSa v), .int (MVEn v), .int (MVTk v), .int (MVVa v), .int (MVFa v), .int (MVFo v), .ref 7, .int (MVSc v), .ref 8, .ref 9, .int (MVOl v)]), .inl (0, 500, .inl (MVSt v)), .inl (0, 500, .inl (MVAs v)), .inl (0, 500, .inl (MVSv v)), .inl (0, 4000, .inl (MVPt v)), .inl (0, 6, .inl (MVSp v)), .inl (3, 600, .inl (MVBf v)), .inl (0, 150, .inl (MVSm v)), .inl (0, 40, .inl (MVOr v)), .inl (3, 240, .inl (MVOu v))]) ?_ rfl rfl rfl rfl
  refine go_l 4 X (pc2 := 4) (ls2 := [some (.ref 0), some (.int a), some (.int 0), some (.int 0)]) (st2 := []) rfl ?_
  exact AW.eq (a_X9_sizeOf_h4 X hR FU _ _ _ _ _ h) rfl rfl rfl rfl
set_option maxHeartbeats 400000 in
set_option maxRecDepth 20000 in
theorem a_X9_areHeapsWhole_h4 {κ : KX} (X : CX κ z_X9_areHeapsWhole) (hR : κR κ = rmM 53 0 0) : ∀ (n : Nat) (l1 : Int32) (l2 : Int32) (v : MV) (r : Int32) (h : f_X9_areHeapsWhole_h4 n l1 l2 v = some r), AW κ (QM κ (PST (.inl (some (.int r))) (WM v)) 0 0) 4 [some (.ref 0), some (.int l1), some (.int l2), none] [] (WM v) 0 0 := by
  intro n
  induction n with
  | zero =>
    intro l1 l2 v r h
    unfold f_X9_areHeapsWhole_h4 at h
    cases h
  | succ n ih =>
    intro l1 l2 v r h
    unfold f_X9_areHeapsWhole_h4 at h
    refine AW.eq (pc' := 4) (ls' := [some (.ref 0), some (.int l1), some (.int l2), none]) (st' := []) (AH' := [.inr (9, [.ref 1, .ref 2, .ref 3, .ref 4, .int (MVPc v), .int (MVIs v), .int (MVTh v), .ref 5, .int (MVSl v), .ref 6, .int (MVLn v), .int (MVEc v), .int (MVEo v), .int (MVSa v), .int (MVEn v), .int (MVTk v), .int (MVVa v), .int (MVFa v), .int (MVFo v), .ref 7, .int (MVSc v), .ref 8, .ref 9, .int (MVOl v)]), .inl (0, 500, .inl (MVSt v)), .inl (0, 500, .inl (MVAs v)), .inl (0, 500, .inl (MVSv v)), .inl (0, 4000, .inl (MVPt v)), .inl (0, 6, .inl (MVSp v)), .inl (3, 600, .inl (MVBf v)), .inl (0, 150, .inl (MVSm v)), .inl (0, 40, .inl (MVOr v)), .inl (3, 240, .inl (MVOu v))]) ?_ rfl rfl rfl rfl
    refine go_s 4 X (pc2 := 10) (st2 := [.int 0, .ref 1, .int l2]) rfl ?_
    by_cases b1 : oob 0 500
    · rw [if_pos b1] at h; cases h
    rw [if_neg b1] at h
    refine r_iald X rfl rfl b1 ?_
    refine r_icmp_ge X 45 rfl rfl (fun c2 => ?_) (fun c2 => ?_)
    · rw [if_pos c2] at h
      refine go_s 2 X (pc2 := 47) (st2 := [.ref 0, .int l1]) rfl ?_
      obtain ⟨r4, hq3, h⟩ := obind_inv h
      refine q_callV X [0, 1, 2, 3, 4, 5, 6, 7, 8, 9] [] (AH2 := [.inr (9, [.ref 1, .ref 2, .ref 3, .ref 4, .int (MVPc v), .int (MVIs v), .int (MVTh v), .ref 5, .int (MVSl v), .ref 6, .int (MVLn v), .int (MVEc v), .int (MVEo v), .int (MVSa v), .int (MVEn v), .int (MVTk v), .int (MVVa v), .int (MVFa v), .int (MVFo v), .ref 7, .int (MVSc v), .ref 8, .ref 9, .int (MVOl v)]), .inl (0, 500, .inl (MVSt v)), .inl (0, 500, .inl (MVAs v)), .inl (0, 500, .inl (MVSv v)), .inl (0, 4000, .inl (MVPt v)), .inl (0, 6, .inl (MVSp v)), .inl (3, 600, .inl (MVBf v)), .inl (0, 150, .inl (MVSm v)), .inl (0, 40, .inl (MVOr v)), .inl (3, 240, .inl (MVOu v))]) (st2 := [.int r4, .int l1]) (c_X9_waitingCount _ _ hq3) ⟨rfl, rfl⟩ rfl k_X9_waitingCount l_X9_383 rfl rfl rfl rfl rfl (fit_of hR (by decide) (by decide) (by decide) (by decide)) (Nat.le_of_ble_eq_true rfl) (by decide) rfl rfl rfl ?_
      refine r_icmp_ne X 57 rfl rfl (fun c6 => ?_) (fun c6 => ?_)
      · rw [if_neg c6] at h
        refine go_s 1 X (pc2 := 58) (st2 := [.int 0]) rfl ?_
        cases h
        exact r_zret X (ty := .boolean) rfl rfl rfl ⟨rfl, rfl⟩ (by decide) (by decide)
      · rw [if_pos c6] at h
        refine go_s 2 X (pc2 := 58) (st2 := [.int 1]) rfl ?_
        cases h
        exact r_zret X (ty := .boolean) rfl rfl rfl ⟨rfl, rfl⟩ (by decide) (by decide)
    · rw [if_neg c2] at h
      refine go_s 3 X (pc2 := 17) (st2 := [.int l2, .ref 0, .ref 0]) rfl ?_
      obtain ⟨r8, hq7, h⟩ := obind_inv h
      refine q_callV X [0, 1, 2, 3, 4, 5, 6, 7, 8, 9] [] (AH2 := [.inr (9, [.ref 1, .ref 2, .ref 3, .ref 4, .int (MVPc v), .int (MVIs v), .int (MVTh v), .ref 5, .int (MVSl v), .ref 6, .int (MVLn v), .int (MVEc v), .int (MVEo v), .int (MVSa v), .int (MVEn v), .int (MVTk v), .int (MVVa v), .int (MVFa v), .int (MVFo v), .ref 7, .int (MVSc v), .ref 8, .ref 9, .int (MVOl v)]), .inl (0, 500, .inl (MVSt v)), .inl (0, 500, .inl (MVAs v)), .inl (0, 500, .inl (MVSv v)), .inl (0, 4000, .inl (MVPt v)), .inl (0, 6, .inl (MVSp v)), .inl (3, 600, .inl (MVBf v)), .inl (0, 150, .inl (MVSm v)), .inl (0, 40, .inl (MVOr v)), .inl (3, 240, .inl (MVOu v))]) (st2 := [.int r8, .ref 0]) (c_X9_rootOf _ _ _ hq7) ⟨rfl, rfl⟩ rfl k_X9_rootOf l_X9_117 rfl rfl rfl rfl rfl (fit_of hR (by decide) (by decide) (by decide) (by decide)) (Nat.le_of_ble_eq_true rfl) (by decide) rfl rfl rfl ?_
      obtain ⟨r11, hq10, h⟩ := obind_inv h
      refine q_callV X [0, 1, 2, 3, 4, 5, 6, 7, 8, 9] [] (AH2 := [.inr (9, [.ref 1, .ref 2, .ref 3, .ref 4, .int (MVPc v), .int (MVIs v), .int (MVTh v), .ref 5, .int (MVSl v), .ref 6, .int (MVLn v), .int (MVEc v), .int (MVEo v), .int (MVSa v), .int (MVEn v), .int (MVTk v), .int (MVVa v), .int (MVFa v), .int (MVFo v), .ref 7, .int (MVSc v), .ref 8, .ref 9, .int (MVOl v)]), .inl (0, 500, .inl (MVSt v)), .inl (0, 500, .inl (MVAs v)), .inl (0, 500, .inl (MVSv v)), .inl (0, 4000, .inl (MVPt v)), .inl (0, 6, .inl (MVSp v)), .inl (3, 600, .inl (MVBf v)), .inl (0, 150, .inl (MVSm v)), .inl (0, 40, .inl (MVOr v)), .inl (3, 240, .inl (MVOu v))]) (st2 := [.int r11]) (c_X9_countFrom 50 _ _ _ hq10) ⟨rfl, rfl⟩ rfl k_X9_countFrom l_X9_389 rfl rfl rfl rfl rfl (fit_of hR (by decide) (by decide) (by decide) (by decide)) (Nat.le_of_ble_eq_true rfl) (by decide) rfl rfl rfl ?_
      refine go_l 8 X (pc2 := 31) (ls2 := [some (.ref 0), some (.int (l1 + r11)), some (.int l2), some (.int r11)]) (st2 := [.int l2, .ref 0, .int r11]) rfl ?_
      obtain ⟨r14, hq13, h⟩ := obind_inv h
      refine q_callV X [0, 1, 2, 3, 4, 5, 6, 7, 8, 9] [] (AH2 := [.inr (9, [.ref 1, .ref 2, .ref 3, .ref 4, .int (MVPc v), .int (MVIs v), .int (MVTh v), .ref 5, .int (MVSl v), .ref 6, .int (MVLn v), .int (MVEc v), .int (MVEo v), .int (MVSa v), .int (MVEn v), .int (MVTk v), .int (MVVa v), .int (MVFa v), .int (MVFo v), .ref 7, .int (MVSc v), .ref 8, .ref 9, .int (MVOl v)]), .inl (0, 500, .inl (MVSt v)), .inl (0, 500, .inl (MVAs v)), .inl (0, 500, .inl (MVSv v)), .inl (0, 4000, .inl (MVPt v)), .inl (0, 6, .inl (MVSp v)), .inl (3, 600, .inl (MVBf v)), .inl (0, 150, .inl (MVSm v)), .inl (0, 40, .inl (MVOr v)), .inl (3, 240, .inl (MVOu v))]) (st2 := [.int r14, .int r11]) (c_X9_sizeOf _ _ _ hq13) ⟨rfl, rfl⟩ rfl k_X9_sizeOf l_X9_143 rfl rfl rfl rfl rfl (fit_of hR (by decide) (by decide) (by decide) (by decide)) (Nat.le_of_ble_eq_true rfl) (by decide) rfl rfl rfl ?_
      refine r_icmp_eq X 39 rfl rfl (fun c16 => ?_) (fun c16 => ?_)
      · rw [if_pos c16] at h
        refine go_l 2 X (pc2 := 4) (ls2 := [some (.ref 0), some (.int (l1 + r11)), some (.int (l2 + 1)), some (.int r11)]) (st2 := []) rfl ?_
        refine AW.forget (ls' := [some (.ref 0), some (.int (l1 + r11)), some (.int (l2 + 1)), none]) rfl (subL_of ⟨rfl, ⟨rfl, ⟨rfl, trivial⟩⟩⟩) ?_
        exact AW.eq (ih _ _ _ _ h) rfl rfl rfl rfl
      · rw [if_neg c16] at h
        refine go_s 1 X (pc2 := 38) (st2 := [.int 0]) rfl ?_
        cases h
        exact r_zret X (ty := .boolean) rfl rfl rfl ⟨rfl, rfl⟩ (by decide) (by decide)
set_option maxHeartbeats 400000 in
set_option maxRecDepth 20000 in
theorem c_X9_areHeapsWhole (v : MV) (r : Int32) (h : f_X9_areHeapsWhole v = some r) : Sem z_X9_areHeapsWhole 53 0 0 [.ref 0] (WM v) (PST (.inl (some (.int r))) (WM v)) := by
  refine Sem.of zo_X9_areHeapsWhole (by decide +kernel) (Nat.le_of_ble_eq_true rfl) fun κ X hE hR hN => ?_
  unfold f_X9_areHeapsWhole at h
  refine AW.eq (pc' := 0) (ls' := [some (.ref 0), none, none, none]) (st' := []) (AH' := [.inr (9, [.ref 1, .ref 2, .ref 3, .ref 4, .int (MVPc v), .int (MVIs v), .int (MVTh v), .ref 5, .int (MVSl v), .ref 6, .int (MVLn v), .int (MVEc v), .int (MVEo v), .int (MVSa v), .int (MVEn v), .int (MVTk v), .int (MVVa v), .int (MVFa v), .int (MVFo v), .ref 7, .int (MVSc v), .ref 8, .ref 9, .int (MVOl v)]), .inl (0, 500, .inl (MVSt v)), .inl (0, 500, .inl (MVAs v)), .inl (0, 500, .inl (MVSv v)), .inl (0, 4000, .inl (MVPt v)), .inl (0, 6, .inl (MVSp v)), .inl (3, 600, .inl (MVBf v)), .inl (0, 150, .inl (MVSm v)), .inl (0, 40, .inl (MVOr v)), .inl (3, 240, .inl (MVOu v))]) ?_ rfl rfl rfl rfl
  refine go_l 4 X (pc2 := 4) (ls2 := [some (.ref 0), some (.int 0), some (.int 0), none]) (st2 := []) rfl ?_
  exact AW.eq (a_X9_areHeapsWhole_h4 X hR FU _ _ _ _ h) rfl rfl rfl rfl
set_option maxHeartbeats 400000 in
set_option maxRecDepth 20000 in
theorem c_X9_beginText (v : MV) (r : Unit) (w : MV) (h : f_X9_beginText v = some (r, w)) : Sem z_X9_beginText 3 0 0 [.ref 0] (WM v) (PST (.inl none) (WM w)) := by
  refine Sem.of zo_X9_beginText (by decide +kernel) (Nat.le_of_ble_eq_true rfl) fun κ X hE hR hN => ?_
  unfold f_X9_beginText at h
  refine AW.eq (pc' := 0) (ls' := [some (.ref 0)]) (st' := []) (AH' := [.inr (9, [.ref 1, .ref 2, .ref 3, .ref 4, .int (MVPc v), .int (MVIs v), .int (MVTh v), .ref 5, .int (MVSl v), .ref 6, .int (MVLn v), .int (MVEc v), .int (MVEo v), .int (MVSa v), .int (MVEn v), .int (MVTk v), .int (MVVa v), .int (MVFa v), .int (MVFo v), .ref 7, .int (MVSc v), .ref 8, .ref 9, .int (MVOl v)]), .inl (0, 500, .inl (MVSt v)), .inl (0, 500, .inl (MVAs v)), .inl (0, 500, .inl (MVSv v)), .inl (0, 4000, .inl (MVPt v)), .inl (0, 6, .inl (MVSp v)), .inl (3, 600, .inl (MVBf v)), .inl (0, 150, .inl (MVSm v)), .inl (0, 40, .inl (MVOr v)), .inl (3, 240, .inl (MVOu v))]) ?_ rfl rfl rfl rfl
  refine go 7 X (pc2 := 11) (ls2 := [some (.ref 0)]) (st2 := [.ref 0]) (AH2 := [.inr (9, [.ref 1, .ref 2, .ref 3, .ref 4, .int (MVPc v), .int (MVIs v), .int (MVTh v), .ref 5, .int (MVSl v), .ref 6, .int (MVLn v), .int (MVEc v), .int (MVEo v), .int (MVSa v), .int 0, .int (MVTk v), .int (MVVa v), .int 0, .int (MVFo v), .ref 7, .int (MVSc v), .ref 8, .ref 9, .int (MVOl v)]), .inl (0, 500, .inl (MVSt v)), .inl (0, 500, .inl (MVAs v)), .inl (0, 500, .inl (MVSv v)), .inl (0, 4000, .inl (MVPt v)), .inl (0, 6, .inl (MVSp v)), .inl (3, 600, .inl (MVBf v)), .inl (0, 150, .inl (MVSm v)), .inl (0, 40, .inl (MVOr v)), .inl (3, 240, .inl (MVOu v))]) rfl ?_
  obtain ⟨r2, w3, hq1, h⟩ := bnd2_inv h
  refine q_callV X [0, 1, 2, 3, 4, 5, 6, 7, 8, 9] [] (AH2 := [.inr (9, [.ref 1, .ref 2, .ref 3, .ref 4, .int (MVPc w3), .int (MVIs w3), .int (MVTh w3), .ref 5, .int (MVSl w3), .ref 6, .int (MVLn w3), .int (MVEc w3), .int (MVEo w3), .int (MVSa w3), .int (MVEn w3), .int (MVTk w3), .int (MVVa w3), .int (MVFa w3), .int (MVFo w3), .ref 7, .int (MVSc w3), .ref 8, .ref 9, .int (MVOl w3)]), .inl (0, 500, .inl (MVSt w3)), .inl (0, 500, .inl (MVAs w3)), .inl (0, 500, .inl (MVSv w3)), .inl (0, 4000, .inl (MVPt w3)), .inl (0, 6, .inl (MVSp w3)), .inl (3, 600, .inl (MVBf w3)), .inl (0, 150, .inl (MVSm w3)), .inl (0, 40, .inl (MVOr w3)), .inl (3, 240, .inl (MVOu w3))]) (st2 := []) (c_X9_advanceToken _ _ _ hq1) ⟨rfl, rfl⟩ rfl k_X9_advanceToken l_X9_191 rfl rfl rfl rfl rfl (fit_of hR (by decide) (by decide) (by decide) (by decide)) (Nat.le_of_ble_eq_true rfl) (by decide) rfl rfl rfl ?_
  cases h
  exact r_vret X rfl rfl ⟨rfl, rfl⟩ (by decide) (by decide)
set_option maxHeartbeats 400000 in
set_option maxRecDepth 20000 in
theorem c_X9_isJob (v : MV) (a : Int32) (r : Int32) (h : f_X9_isJob v a = some r) : Sem z_X9_isJob 1 0 0 [.ref 0, .int a] (WM v) (PST (.inl (some (.int r))) (WM v)) := by
  refine Sem.of zo_X9_isJob (by decide +kernel) (Nat.le_of_ble_eq_true rfl) fun κ X hE hR hN => ?_
  unfold f_X9_isJob at h
  refine AW.eq (pc' := 0) (ls' := [some (.ref 0), some (.int a)]) (st' := []) (AH' := [.inr (9, [.ref 1, .ref 2, .ref 3, .ref 4, .int (MVPc v), .int (MVIs v), .int (MVTh v), .ref 5, .int (MVSl v), .ref 6, .int (MVLn v), .int (MVEc v), .int (MVEo v), .int (MVSa v), .int (MVEn v), .int (MVTk v), .int (MVVa v), .int (MVFa v), .int (MVFo v), .ref 7, .int (MVSc v), .ref 8, .ref 9, .int (MVOl v)]), .inl (0, 500, .inl (MVSt v)), .inl (0, 500, .inl (MVAs v)), .inl (0, 500, .inl (MVSv v)), .inl (0, 4000, .inl (MVPt v)), .inl (0, 6, .inl (MVSp v)), .inl (3, 600, .inl (MVBf v)), .inl (0, 150, .inl (MVSm v)), .inl (0, 40, .inl (MVOr v)), .inl (3, 240, .inl (MVOu v))]) ?_ rfl rfl rfl rfl
  refine go_s 6 X (pc2 := 8) (st2 := [.int 2, .ref 1, .long 0, .long (Int32.toInt64 a)]) rfl ?_
  by_cases b1 : oob 2 500
  · rw [if_pos b1] at h; cases h
  rw [if_neg b1] at h
  refine r_iald X rfl rfl b1 ?_
  refine go_s 3 X (pc2 := 12) (st2 := [.long (Int32.toInt64 (((MVSt v) (Int32.toNatClampNeg 2)) - 1)), .long 0, .long (Int32.toInt64 a)]) rfl ?_
  obtain ⟨r3, hq2, h⟩ := obind_inv h
  refine q_callS X [] [] (AH2 := [.inr (9, [.ref 1, .ref 2, .ref 3, .ref 4, .int (MVPc v), .int (MVIs v), .int (MVTh v), .ref 5, .int (MVSl v), .ref 6, .int (MVLn v), .int (MVEc v), .int (MVEo v), .int (MVSa v), .int (MVEn v), .int (MVTk v), .int (MVVa v), .int (MVFa v), .int (MVFo v), .ref 7, .int (MVSc v), .ref 8, .ref 9, .int (MVOl v)]), .inl (0, 500, .inl (MVSt v)), .inl (0, 500, .inl (MVAs v)), .inl (0, 500, .inl (MVSv v)), .inl (0, 4000, .inl (MVPt v)), .inl (0, 6, .inl (MVSp v)), .inl (3, 600, .inl (MVBf v)), .inl (0, 150, .inl (MVSm v)), .inl (0, 40, .inl (MVOr v)), .inl (3, 240, .inl (MVOu v))]) (st2 := [.int r3]) (c_X9_isWithin _ _ _ _ hq2) ⟨rfl, rfl⟩ rfl k_X9_isWithin l_X9_152 rfl rfl (fit_of hR (by decide) (by decide) (by decide) (by decide)) (Nat.le_of_ble_eq_true rfl) (by decide) rfl rfl rfl ?_
  by_cases b5 : ¬ (r3 = 0 ∨ r3 = 1)
  · rw [if_pos b5] at h; cases h
  rw [if_neg b5] at h
  cases h
  exact r_zret X (ty := .boolean) rfl rfl (nar_b b5) ⟨rfl, rfl⟩ (by decide) (by decide)
set_option maxHeartbeats 400000 in
set_option maxRecDepth 20000 in
theorem c_X9_check (v : MV) (a : Int32) (b : Int32) (c : Int32) (r : Int32) (w : MV) (h : f_X9_check v a b c = some (r, w)) : Sem z_X9_check 0 0 0 [.ref 0, .int a, .int b, .int c] (WM v) (PST (.inl (some (.int r))) (WM w)) := by
  refine Sem.of zo_X9_check (by decide +kernel) (Nat.le_of_ble_eq_true rfl) fun κ X hE hR hN => ?_
  unfold f_X9_check at h
  refine AW.eq (pc' := 0) (ls' := [some (.ref 0), some (.int a), some (.int b), some (.int c)]) (st' := []) (AH' := [.inr (9, [.ref 1, .ref 2, .ref 3, .ref 4, .int (MVPc v), .int (MVIs v), .int (MVTh v), .ref 5, .int (MVSl v), .ref 6, .int (MVLn v), .int (MVEc v), .int (MVEo v), .int (MVSa v), .int (MVEn v), .int (MVTk v), .int (MVVa v), .int (MVFa v), .int (MVFo v), .ref 7, .int (MVSc v), .ref 8, .ref 9, .int (MVOl v)]), .inl (0, 500, .inl (MVSt v)), .inl (0, 500, .inl (MVAs v)), .inl (0, 500, .inl (MVSv v)), .inl (0, 4000, .inl (MVPt v)), .inl (0, 6, .inl (MVSp v)), .inl (3, 600, .inl (MVBf v)), .inl (0, 150, .inl (MVSm v)), .inl (0, 40, .inl (MVOr v)), .inl (3, 240, .inl (MVOu v))]) ?_ rfl rfl rfl rfl
  refine go_s 2 X (pc2 := 2) (st2 := [.int a, .ref 0]) rfl ?_
  refine r_if_ne X 9 rfl rfl (fun c1 => ?_) (fun c1 => ?_)
  · rw [if_neg c1] at h
    refine go_s 1 X (pc2 := 10) (st2 := [.int b, .ref 0]) rfl ?_
    refine r_if_ne X 17 rfl rfl (fun c2 => ?_) (fun c2 => ?_)
    · rw [if_neg c2] at h
      refine go_s 1 X (pc2 := 18) (st2 := [.int c, .ref 0]) rfl ?_
      refine r_if_ne X 25 rfl rfl (fun c3 => ?_) (fun c3 => ?_)
      · rw [if_neg c3] at h
        refine go 4 X (pc2 := 33) (ls2 := [some (.ref 0), some (.int a), some (.int b), some (.int c)]) (st2 := [.int 0]) (AH2 := [.inr (9, [.ref 1, .ref 2, .ref 3, .ref 4, .int (MVPc v), .int (MVIs v), .int 0, .ref 5, .int (MVSl v), .ref 6, .int (MVLn v), .int (MVEc v), .int (MVEo v), .int (MVSa v), .int (MVEn v), .int (MVTk v), .int (MVVa v), .int (MVFa v), .int (MVFo v), .ref 7, .int (MVSc v), .ref 8, .ref 9, .int (MVOl v)]), .inl (0, 500, .inl (MVSt v)), .inl (0, 500, .inl (MVAs v)), .inl (0, 500, .inl (MVSv v)), .inl (0, 4000, .inl (MVPt v)), .inl (0, 6, .inl (MVSp v)), .inl (3, 600, .inl (MVBf v)), .inl (0, 150, .inl (MVSm v)), .inl (0, 40, .inl (MVOr v)), .inl (3, 240, .inl (MVOu v))]) rfl ?_
        refine r_if_ne X 40 rfl rfl (fun c4 => ?_) (fun c4 => ?_)
        · exact absurd c4 (by decide)
        · refine go_s 2 X (pc2 := 41) (st2 := [.int 1]) rfl ?_
          cases h
          exact r_zret X (ty := .boolean) rfl rfl rfl ⟨rfl, rfl⟩ (by decide) (by decide)
      · rw [if_pos c3] at h
        refine go 5 X (pc2 := 33) (ls2 := [some (.ref 0), some (.int a), some (.int b), some (.int c)]) (st2 := [.int 3]) (AH2 := [.inr (9, [.ref 1, .ref 2, .ref 3, .ref 4, .int (MVPc v), .int (MVIs v), .int 3, .ref 5, .int (MVSl v), .ref 6, .int (MVLn v), .int (MVEc v), .int (MVEo v), .int (MVSa v), .int (MVEn v), .int (MVTk v), .int (MVVa v), .int (MVFa v), .int (MVFo v), .ref 7, .int (MVSc v), .ref 8, .ref 9, .int (MVOl v)]), .inl (0, 500, .inl (MVSt v)), .inl (0, 500, .inl (MVAs v)), .inl (0, 500, .inl (MVSv v)), .inl (0, 4000, .inl (MVPt v)), .inl (0, 6, .inl (MVSp v)), .inl (3, 600, .inl (MVBf v)), .inl (0, 150, .inl (MVSm v)), .inl (0, 40, .inl (MVOr v)), .inl (3, 240, .inl (MVOu v))]) rfl ?_
        refine r_if_ne X 40 rfl rfl (fun c5 => ?_) (fun c5 => ?_)
        · refine go_s 1 X (pc2 := 41) (st2 := [.int 0]) rfl ?_
          cases h
          exact r_zret X (ty := .boolean) rfl rfl rfl ⟨rfl, rfl⟩ (by decide) (by decide)
        · exact absurd c5 (by decide)
    · rw [if_pos c2] at h
      refine go 5 X (pc2 := 33) (ls2 := [some (.ref 0), some (.int a), some (.int b), some (.int c)]) (st2 := [.int 2]) (AH2 := [.inr (9, [.ref 1, .ref 2, .ref 3, .ref 4, .int (MVPc v), .int (MVIs v), .int 2, .ref 5, .int (MVSl v), .ref 6, .int (MVLn v), .int (MVEc v), .int (MVEo v), .int (MVSa v), .int (MVEn v), .int (MVTk v), .int (MVVa v), .int (MVFa v), .int (MVFo v), .ref 7, .int (MVSc v), .ref 8, .ref 9, .int (MVOl v)]), .inl (0, 500, .inl (MVSt v)), .inl (0, 500, .inl (MVAs v)), .inl (0, 500, .inl (MVSv v)), .inl (0, 4000, .inl (MVPt v)), .inl (0, 6, .inl (MVSp v)), .inl (3, 600, .inl (MVBf v)), .inl (0, 150, .inl (MVSm v)), .inl (0, 40, .inl (MVOr v)), .inl (3, 240, .inl (MVOu v))]) rfl ?_
      refine r_if_ne X 40 rfl rfl (fun c6 => ?_) (fun c6 => ?_)
      · refine go_s 1 X (pc2 := 41) (st2 := [.int 0]) rfl ?_
        cases h
        exact r_zret X (ty := .boolean) rfl rfl rfl ⟨rfl, rfl⟩ (by decide) (by decide)
      · exact absurd c6 (by decide)
  · rw [if_pos c1] at h
    refine go 5 X (pc2 := 33) (ls2 := [some (.ref 0), some (.int a), some (.int b), some (.int c)]) (st2 := [.int 1]) (AH2 := [.inr (9, [.ref 1, .ref 2, .ref 3, .ref 4, .int (MVPc v), .int (MVIs v), .int 1, .ref 5, .int (MVSl v), .ref 6, .int (MVLn v), .int (MVEc v), .int (MVEo v), .int (MVSa v), .int (MVEn v), .int (MVTk v), .int (MVVa v), .int (MVFa v), .int (MVFo v), .ref 7, .int (MVSc v), .ref 8, .ref 9, .int (MVOl v)]), .inl (0, 500, .inl (MVSt v)), .inl (0, 500, .inl (MVAs v)), .inl (0, 500, .inl (MVSv v)), .inl (0, 4000, .inl (MVPt v)), .inl (0, 6, .inl (MVSp v)), .inl (3, 600, .inl (MVBf v)), .inl (0, 150, .inl (MVSm v)), .inl (0, 40, .inl (MVOr v)), .inl (3, 240, .inl (MVOu v))]) rfl ?_
    refine r_if_ne X 40 rfl rfl (fun c7 => ?_) (fun c7 => ?_)
    · refine go_s 1 X (pc2 := 41) (st2 := [.int 0]) rfl ?_
      cases h
      exact r_zret X (ty := .boolean) rfl rfl rfl ⟨rfl, rfl⟩ (by decide) (by decide)
    · exact absurd c7 (by decide)
set_option maxHeartbeats 400000 in
set_option maxRecDepth 20000 in
theorem c_X9_checkWaiting (v : MV) (a : Int32) (r : Int32) (w : MV) (h : f_X9_checkWaiting v a = some (r, w)) : Sem z_X9_checkWaiting 3 0 0 [.ref 0, .int a] (WM v) (PST (.inl (some (.int r))) (WM w)) := by
  refine Sem.of zo_X9_checkWaiting (by decide +kernel) (Nat.le_of_ble_eq_true rfl) fun κ X hE hR hN => ?_
  unfold f_X9_checkWaiting at h
  refine AW.eq (pc' := 0) (ls' := [some (.ref 0), some (.int a), none]) (st' := []) (AH' := [.inr (9, [.ref 1, .ref 2, .ref 3, .ref 4, .int (MVPc v), .int (MVIs v), .int (MVTh v), .ref 5, .int (MVSl v), .ref 6, .int (MVLn v), .int (MVEc v), .int (MVEo v), .int (MVSa v), .int (MVEn v), .int (MVTk v), .int (MVVa v), .int (MVFa v), .int (MVFo v), .ref 7, .int (MVSc v), .ref 8, .ref 9, .int (MVOl v)]), .inl (0, 500, .inl (MVSt v)), .inl (0, 500, .inl (MVAs v)), .inl (0, 500, .inl (MVSv v)), .inl (0, 4000, .inl (MVPt v)), .inl (0, 6, .inl (MVSp v)), .inl (3, 600, .inl (MVBf v)), .inl (0, 150, .inl (MVSm v)), .inl (0, 40, .inl (MVOr v)), .inl (3, 240, .inl (MVOu v))]) ?_ rfl rfl rfl rfl
  refine go_s 2 X (pc2 := 2) (st2 := [.int a, .ref 0]) rfl ?_
  obtain ⟨r2, hq1, h⟩ := obind_inv h
  refine q_callV X [0, 1, 2, 3, 4, 5, 6, 7, 8, 9] [] (AH2 := [.inr (9, [.ref 1, .ref 2, .ref 3, .ref 4, .int (MVPc v), .int (MVIs v), .int (MVTh v), .ref 5, .int (MVSl v), .ref 6, .int (MVLn v), .int (MVEc v), .int (MVEo v), .int (MVSa v), .int (MVEn v), .int (MVTk v), .int (MVVa v), .int (MVFa v), .int (MVFo v), .ref 7, .int (MVSc v), .ref 8, .ref 9, .int (MVOl v)]), .inl (0, 500, .inl (MVSt v)), .inl (0, 500, .inl (MVAs v)), .inl (0, 500, .inl (MVSv v)), .inl (0, 4000, .inl (MVPt v)), .inl (0, 6, .inl (MVSp v)), .inl (3, 600, .inl (MVBf v)), .inl (0, 150, .inl (MVSm v)), .inl (0, 40, .inl (MVOr v)), .inl (3, 240, .inl (MVOu v))]) (st2 := [.int r2]) (c_X9_isJob _ _ _ hq1) ⟨rfl, rfl⟩ rfl k_X9_isJob l_X9_293 rfl rfl rfl rfl rfl (fit_of hR (by decide) (by decide) (by decide) (by decide)) (Nat.le_of_ble_eq_true rfl) (by decide) rfl rfl rfl ?_
  refine go_l 4 X (pc2 := 9) (ls2 := [some (.ref 0), some (.int a), some (.int r2)]) (st2 := [.int r2, .int r2, .ref 0]) rfl ?_
  refine r_if_eq X 24 rfl rfl (fun c4 => ?_) (fun c4 => ?_)
  · rw [if_pos c4] at h
    refine go_s 2 X (pc2 := 26) (st2 := [.int 1, .int 0, .int r2, .ref 0]) rfl ?_
    obtain ⟨r6, w7, hq5, h⟩ := bnd2_inv h
    refine q_callV X [0, 1, 2, 3, 4, 5, 6, 7, 8, 9] [] (AH2 := [.inr (9, [.ref 1, .ref 2, .ref 3, .ref 4, .int (MVPc w7), .int (MVIs w7), .int (MVTh w7), .ref 5, .int (MVSl w7), .ref 6, .int (MVLn w7), .int (MVEc w7), .int (MVEo w7), .int (MVSa w7), .int (MVEn w7), .int (MVTk w7), .int (MVVa w7), .int (MVFa w7), .int (MVFo w7), .ref 7, .int (MVSc w7), .ref 8, .ref 9, .int (MVOl w7)]), .inl (0, 500, .inl (MVSt w7)), .inl (0, 500, .inl (MVAs w7)), .inl (0, 500, .inl (MVSv w7)), .inl (0, 4000, .inl (MVPt w7)), .inl (0, 6, .inl (MVSp w7)), .inl (3, 600, .inl (MVBf w7)), .inl (0, 150, .inl (MVSm w7)), .inl (0, 40, .inl (MVOr w7)), .inl (3, 240, .inl (MVOu w7))]) (st2 := [.int r6]) (c_X9_check _ _ _ _ _ _ hq5) ⟨rfl, rfl⟩ rfl k_X9_check l_X9_335 rfl rfl rfl rfl rfl (fit_of hR (by decide) (by decide) (by decide) (by decide)) (Nat.le_of_ble_eq_true rfl) (by decide) rfl rfl rfl ?_
    by_cases b8 : ¬ (r6 = 0 ∨ r6 = 1)
    · rw [if_pos b8] at h; cases h
    rw [if_neg b8] at h
    cases h
    exact r_zret X (ty := .boolean) rfl rfl (nar_b b8) ⟨rfl, rfl⟩ (by decide) (by decide)
  · rw [if_neg c4] at h
    refine go_s 2 X (pc2 := 14) (st2 := [.int a, .ref 0, .int r2, .ref 0]) rfl ?_
    obtain ⟨r10, hq9, h⟩ := obind_inv h
    refine q_callV X [0, 1, 2, 3, 4, 5, 6, 7, 8, 9] [] (AH2 := [.inr (9, [.ref 1, .ref 2, .ref 3, .ref 4, .int (MVPc v), .int (MVIs v), .int (MVTh v), .ref 5, .int (MVSl v), .ref 6, .int (MVLn v), .int (MVEc v), .int (MVEo v), .int (MVSa v), .int (MVEn v), .int (MVTk v), .int (MVVa v), .int (MVFa v), .int (MVFo v), .ref 7, .int (MVSc v), .ref 8, .ref 9, .int (MVOl v)]), .inl (0, 500, .inl (MVSt v)), .inl (0, 500, .inl (MVAs v)), .inl (0, 500, .inl (MVSv v)), .inl (0, 4000, .inl (MVPt v)), .inl (0, 6, .inl (MVSp v)), .inl (3, 600, .inl (MVBf v)), .inl (0, 150, .inl (MVSm v)), .inl (0, 40, .inl (MVOr v)), .inl (3, 240, .inl (MVOu v))]) (st2 := [.int r10, .int r2, .ref 0]) (c_X9_waits _ _ _ hq9) ⟨rfl, rfl⟩ rfl k_X9_waits l_X9_130 rfl rfl rfl rfl rfl (fit_of hR (by decide) (by decide) (by decide) (by decide)) (Nat.le_of_ble_eq_true rfl) (by decide) rfl rfl rfl ?_
    refine r_if_eq X 24 rfl rfl (fun c12 => ?_) (fun c12 => ?_)
    · rw [if_pos c12] at h
      refine go_s 2 X (pc2 := 26) (st2 := [.int 1, .int 0, .int r2, .ref 0]) rfl ?_
      obtain ⟨r14, w15, hq13, h⟩ := bnd2_inv h
      refine q_callV X [0, 1, 2, 3, 4, 5, 6, 7, 8, 9] [] (AH2 := [.inr (9, [.ref 1, .ref 2, .ref 3, .ref 4, .int (MVPc w15), .int (MVIs w15), .int (MVTh w15), .ref 5, .int (MVSl w15), .ref 6, .int (MVLn w15), .int (MVEc w15), .int (MVEo w15), .int (MVSa w15), .int (MVEn w15), .int (MVTk w15), .int (MVVa w15), .int (MVFa w15), .int (MVFo w15), .ref 7, .int (MVSc w15), .ref 8, .ref 9, .int (MVOl w15)]), .inl (0, 500, .inl (MVSt w15)), .inl (0, 500, .inl (MVAs w15)), .inl (0, 500, .inl (MVSv w15)), .inl (0, 4000, .inl (MVPt w15)), .inl (0, 6, .inl (MVSp w15)), .inl (3, 600, .inl (MVBf w15)), .inl (0, 150, .inl (MVSm w15)), .inl (0, 40, .inl (MVOr w15)), .inl (3, 240, .inl (MVOu w15))]) (st2 := [.int r14]) (c_X9_check _ _ _ _ _ _ hq13) ⟨rfl, rfl⟩ rfl k_X9_check l_X9_335 rfl rfl rfl rfl rfl (fit_of hR (by decide) (by decide) (by decide) (by decide)) (Nat.le_of_ble_eq_true rfl) (by decide) rfl rfl rfl ?_
      by_cases b16 : ¬ (r14 = 0 ∨ r14 = 1)
      · rw [if_pos b16] at h; cases h
      rw [if_neg b16] at h
      cases h
      exact r_zret X (ty := .boolean) rfl rfl (nar_b b16) ⟨rfl, rfl⟩ (by decide) (by decide)
    · rw [if_neg c12] at h
      refine go_s 3 X (pc2 := 26) (st2 := [.int 1, .int 1, .int r2, .ref 0]) rfl ?_
      obtain ⟨r18, w19, hq17, h⟩ := bnd2_inv h
      refine q_callV X [0, 1, 2, 3, 4, 5, 6, 7, 8, 9] [] (AH2 := [.inr (9, [.ref 1, .ref 2, .ref 3, .ref 4, .int (MVPc w19), .int (MVIs w19), .int (MVTh w19), .ref 5, .int (MVSl w19), .ref 6, .int (MVLn w19), .int (MVEc w19), .int (MVEo w19), .int (MVSa w19), .int (MVEn w19), .int (MVTk w19), .int (MVVa w19), .int (MVFa w19), .int (MVFo w19), .ref 7, .int (MVSc w19), .ref 8, .ref 9, .int (MVOl w19)]), .inl (0, 500, .inl (MVSt w19)), .inl (0, 500, .inl (MVAs w19)), .inl (0, 500, .inl (MVSv w19)), .inl (0, 4000, .inl (MVPt w19)), .inl (0, 6, .inl (MVSp w19)), .inl (3, 600, .inl (MVBf w19)), .inl (0, 150, .inl (MVSm w19)), .inl (0, 40, .inl (MVOr w19)), .inl (3, 240, .inl (MVOu w19))]) (st2 := [.int r18]) (c_X9_check _ _ _ _ _ _ hq17) ⟨rfl, rfl⟩ rfl k_X9_check l_X9_335 rfl rfl rfl rfl rfl (fit_of hR (by decide) (by decide) (by decide) (by decide)) (Nat.le_of_ble_eq_true rfl) (by decide) rfl rfl rfl ?_
      by_cases b20 : ¬ (r18 = 0 ∨ r18 = 1)
      · rw [if_pos b20] at h; cases h
      rw [if_neg b20] at h
      cases h
      exact r_zret X (ty := .boolean) rfl rfl (nar_b b20) ⟨rfl, rfl⟩ (by decide) (by decide)
set_option maxHeartbeats 400000 in
set_option maxRecDepth 20000 in
theorem a_X9_remember_h54 {κ : KX} (X : CX κ z_X9_remember) (hR : κR κ = rmM 0 0 0) : ∀ (n : Nat) (l1 : Int32) (v : MV) (r : Unit) (w : MV) (h : f_X9_remember_h54 n l1 v = some (r, w)), AW κ (QM κ (PST (.inl none) (WM w)) 0 0) 54 [some (.ref 0), some (.int l1)] [] (WM v) 0 0 := by
  intro n
  induction n with
  | zero =>
    intro l1 v r w h
    unfold f_X9_remember_h54 at h
    cases h
  | succ n ih =>
    intro l1 v r w h
    unfold f_X9_remember_h54 at h
    refine AW.eq (pc' := 54) (ls' := [some (.ref 0), some (.int l1)]) (st' := []) (AH' := [.inr (9, [.ref 1, .ref 2, .ref 3, .ref 4, .int (MVPc v), .int (MVIs v), .int (MVTh v), .ref 5, .int (MVSl v), .ref 6, .int (MVLn v), .int (MVEc v), .int (MVEo v), .int (MVSa v), .int (MVEn v), .int (MVTk v), .int (MVVa v), .int (MVFa v), .int (MVFo v), .ref 7, .int (MVSc v), .ref 8, .ref 9, .int (MVOl v)]), .inl (0, 500, .inl (MVSt v)), .inl (0, 500, .inl (MVAs v)), .inl (0, 500, .inl (MVSv v)), .inl (0, 4000, .inl (MVPt v)), .inl (0, 6, .inl (MVSp v)), .inl (3, 600, .inl (MVBf v)), .inl (0, 150, .inl (MVSm v)), .inl (0, 40, .inl (MVOr v)), .inl (3, 240, .inl (MVOu v))]) ?_ rfl rfl rfl rfl
    refine go_s 2 X (pc2 := 58) (st2 := [.int 500, .int l1]) rfl ?_
    refine r_icmp_ge X 88 rfl rfl (fun c2 => ?_) (fun c2 => ?_)
    · rw [if_pos c2] at h
      refine go 6 X (pc2 := 98) (ls2 := [some (.ref 0), some (.int l1)]) (st2 := []) (AH2 := [.inr (9, [.ref 1, .ref 2, .ref 3, .ref 4, .int ((MVPc v) + 1), .int (MVIs v), .int (MVTh v), .ref 5, .int (MVSl v), .ref 6, .int (MVLn v), .int (MVEc v), .int (MVEo v), .int (MVSa v), .int (MVEn v), .int (MVTk v), .int (MVVa v), .int (MVFa v), .int (MVFo v), .ref 7, .int (MVSc v), .ref 8, .ref 9, .int (MVOl v)]), .inl (0, 500, .inl (MVSt v)), .inl (0, 500, .inl (MVAs v)), .inl (0, 500, .inl (MVSv v)), .inl (0, 4000, .inl (MVPt v)), .inl (0, 6, .inl (MVSp v)), .inl (3, 600, .inl (MVBf v)), .inl (0, 150, .inl (MVSm v)), .inl (0, 40, .inl (MVOr v)), .inl (3, 240, .inl (MVOu v))]) rfl ?_
      cases h
      exact r_vret X rfl rfl ⟨rfl, rfl⟩ (by decide) (by decide)
    · rw [if_neg c2] at h
      refine go_s 11 X (pc2 := 80) (st2 := [.int l1, .ref 1, .int ((500 * (MVPc v)) + l1), .ref 4]) rfl ?_
      by_cases b3 : oob l1 500
      · rw [if_pos b3] at h; cases h
      rw [if_neg b3] at h
      refine r_iald X rfl rfl b3 ?_
      by_cases b4 : oob ((500 * (MVPc v)) + l1) 4000
      · rw [if_pos b4] at h; cases h
      rw [if_neg b4] at h
      refine r_iast X rfl rfl b4 ?_
      refine go_l 2 X (pc2 := 54) (ls2 := [some (.ref 0), some (.int (l1 + 1))]) (st2 := []) rfl ?_
      exact AW.eq (ih _ _ _ _ h) rfl rfl rfl rfl
set_option maxHeartbeats 400000 in
set_option maxRecDepth 20000 in
theorem a_X9_remember_h13 {κ : KX} (X : CX κ z_X9_remember) (hR : κR κ = rmM 0 0 0) : ∀ (n : Nat) (l1 : Int32) (v : MV) (r : Unit) (w : MV) (h : f_X9_remember_h13 n l1 v = some (r, w)), AW κ (QM κ (PST (.inl none) (WM w)) 0 0) 13 [some (.ref 0), some (.int l1)] [] (WM v) 0 0 := by
  intro n
  induction n with
  | zero =>
    intro l1 v r w h
    unfold f_X9_remember_h13 at h
    cases h
  | succ n ih =>
    intro l1 v r w h
    unfold f_X9_remember_h13 at h
    refine AW.eq (pc' := 13) (ls' := [some (.ref 0), some (.int l1)]) (st' := []) (AH' := [.inr (9, [.ref 1, .ref 2, .ref 3, .ref 4, .int (MVPc v), .int (MVIs v), .int (MVTh v), .ref 5, .int (MVSl v), .ref 6, .int (MVLn v), .int (MVEc v), .int (MVEo v), .int (MVSa v), .int (MVEn v), .int (MVTk v), .int (MVVa v), .int (MVFa v), .int (MVFo v), .ref 7, .int (MVSc v), .ref 8, .ref 9, .int (MVOl v)]), .inl (0, 500, .inl (MVSt v)), .inl (0, 500, .inl (MVAs v)), .inl (0, 500, .inl (MVSv v)), .inl (0, 4000, .inl (MVPt v)), .inl (0, 6, .inl (MVSp v)), .inl (3, 600, .inl (MVBf v)), .inl (0, 150, .inl (MVSm v)), .inl (0, 40, .inl (MVOr v)), .inl (3, 240, .inl (MVOu v))]) ?_ rfl rfl rfl rfl
    refine go_s 2 X (pc2 := 17) (st2 := [.int 4000, .int l1]) rfl ?_
    refine r_icmp_ge X 42 rfl rfl (fun c5 => ?_) (fun c5 => ?_)
    · rw [if_pos c5] at h
      refine go 8 X (pc2 := 54) (ls2 := [some (.ref 0), some (.int 0)]) (st2 := []) (AH2 := [.inr (9, [.ref 1, .ref 2, .ref 3, .ref 4, .int ((MVPc v) - 1), .int (MVIs v), .int (MVTh v), .ref 5, .int (MVSl v), .ref 6, .int (MVLn v), .int (MVEc v), .int (MVEo v), .int (MVSa v), .int (MVEn v), .int (MVTk v), .int (MVVa v), .int (MVFa v), .int (MVFo v), .ref 7, .int (MVSc v), .ref 8, .ref 9, .int (MVOl v)]), .inl (0, 500, .inl (MVSt v)), .inl (0, 500, .inl (MVAs v)), .inl (0, 500, .inl (MVSv v)), .inl (0, 4000, .inl (MVPt v)), .inl (0, 6, .inl (MVSp v)), .inl (3, 600, .inl (MVBf v)), .inl (0, 150, .inl (MVSm v)), .inl (0, 40, .inl (MVOr v)), .inl (3, 240, .inl (MVOu v))]) rfl ?_
      exact AW.eq (a_X9_remember_h54 X hR FU _ _ _ _ h) rfl rfl rfl rfl
    · rw [if_neg c5] at h
      refine go_s 8 X (pc2 := 34) (st2 := [.int l1, .ref 4, .int (l1 - 500), .ref 4]) rfl ?_
      by_cases b6 : oob l1 4000
      · rw [if_pos b6] at h; cases h
      rw [if_neg b6] at h
      refine r_iald X rfl rfl b6 ?_
      by_cases b7 : oob (l1 - 500) 4000
      · rw [if_pos b7] at h; cases h
      rw [if_neg b7] at h
      refine r_iast X rfl rfl b7 ?_
      refine go_l 2 X (pc2 := 13) (ls2 := [some (.ref 0), some (.int (l1 + 1))]) (st2 := []) rfl ?_
      exact AW.eq (ih _ _ _ _ h) rfl rfl rfl rfl
set_option maxHeartbeats 400000 in
set_option maxRecDepth 20000 in
theorem c_X9_remember (v : MV) (r : Unit) (w : MV) (h : f_X9_remember v = some (r, w)) : Sem z_X9_remember 0 0 0 [.ref 0] (WM v) (PST (.inl none) (WM w)) := by
  refine Sem.of zo_X9_remember (by decide +kernel) (Nat.le_of_ble_eq_true rfl) fun κ X hE hR hN => ?_
  unfold f_X9_remember at h
  refine AW.eq (pc' := 0) (ls' := [some (.ref 0), none]) (st' := []) (AH' := [.inr (9, [.ref 1, .ref 2, .ref 3, .ref 4, .int (MVPc v), .int (MVIs v), .int (MVTh v), .ref 5, .int (MVSl v), .ref 6, .int (MVLn v), .int (MVEc v), .int (MVEo v), .int (MVSa v), .int (MVEn v), .int (MVTk v), .int (MVVa v), .int (MVFa v), .int (MVFo v), .ref 7, .int (MVSc v), .ref 8, .ref 9, .int (MVOl v)]), .inl (0, 500, .inl (MVSt v)), .inl (0, 500, .inl (MVAs v)), .inl (0, 500, .inl (MVSv v)), .inl (0, 4000, .inl (MVPt v)), .inl (0, 6, .inl (MVSp v)), .inl (3, 600, .inl (MVBf v)), .inl (0, 150, .inl (MVSm v)), .inl (0, 40, .inl (MVOr v)), .inl (3, 240, .inl (MVOu v))]) ?_ rfl rfl rfl rfl
  refine go_s 3 X (pc2 := 6) (st2 := [.int 8, .int (MVPc v)]) rfl ?_
  refine r_icmp_ne X 52 rfl rfl (fun c1 => ?_) (fun c1 => ?_)
  · rw [if_neg c1] at h
    refine go_l 2 X (pc2 := 54) (ls2 := [some (.ref 0), some (.int 0)]) (st2 := []) rfl ?_
    exact AW.eq (a_X9_remember_h54 X hR FU _ _ _ _ h) rfl rfl rfl rfl
  · rw [if_pos c1] at h
    refine go_l 2 X (pc2 := 13) (ls2 := [some (.ref 0), some (.int 500)]) (st2 := []) rfl ?_
    exact AW.eq (a_X9_remember_h13 X hR FU _ _ _ _ h) rfl rfl rfl rfl
set_option maxHeartbeats 400000 in
set_option maxRecDepth 20000 in
theorem a_X9_repairUpwards_h2 {κ : KX} (X : CX κ z_X9_repairUpwards) (hR : κR κ = rmM 4 0 0) : ∀ (n : Nat) (l1 : Int32) (l2 : Int32) (v : MV) (r : Unit) (w : MV) (h : f_X9_repairUpwards_h2 n l1 l2 v = some (r, w)), AW κ (QM κ (PST (.inl none) (WM w)) 0 0) 2 [some (.ref 0), some (.int l1), some (.int l2)] [] (WM v) 0 0 := by
  intro n
  induction n with
  | zero =>
    intro l1 l2 v r w h
    unfold f_X9_repairUpwards_h2 at h
    cases h
  | succ n ih =>
    intro l1 l2 v r w h
    unfold f_X9_repairUpwards_h2 at h
    refine AW.eq (pc' := 2) (ls' := [some (.ref 0), some (.int l1), some (.int l2)]) (st' := []) (AH' := [.inr (9, [.ref 1, .ref 2, .ref 3, .ref 4, .int (MVPc v), .int (MVIs v), .int (MVTh v), .ref 5, .int (MVSl v), .ref 6, .int (MVLn v), .int (MVEc v), .int (MVEo v), .int (MVSa v), .int (MVEn v), .int (MVTk v), .int (MVVa v), .int (MVFa v), .int (MVFo v), .ref 7, .int (MVSc v), .ref 8, .ref 9, .int (MVOl v)]), .inl (0, 500, .inl (MVSt v)), .inl (0, 500, .inl (MVAs v)), .inl (0, 500, .inl (MVSv v)), .inl (0, 4000, .inl (MVPt v)), .inl (0, 6, .inl (MVSp v)), .inl (3, 600, .inl (MVBf v)), .inl (0, 150, .inl (MVSm v)), .inl (0, 40, .inl (MVOr v)), .inl (3, 240, .inl (MVOu v))]) ?_ rfl rfl rfl rfl
    refine go_s 2 X (pc2 := 4) (st2 := [.int (-1), .int l2]) rfl ?_
    refine r_icmp_eq X 23 rfl rfl (fun c1 => ?_) (fun c1 => ?_)
    · rw [if_pos c1] at h
      cases h
      exact r_vret X rfl rfl ⟨rfl, rfl⟩ (by decide) (by decide)
    · rw [if_neg c1] at h
      refine go_s 2 X (pc2 := 9) (st2 := [.int l2, .ref 0]) rfl ?_
      obtain ⟨r3, w4, hq2, h⟩ := bnd2_inv h
      refine q_callV X [0, 1, 2, 3, 4, 5, 6, 7, 8, 9] [] (AH2 := [.inr (9, [.ref 1, .ref 2, .ref 3, .ref 4, .int (MVPc w4), .int (MVIs w4), .int (MVTh w4), .ref 5, .int (MVSl w4), .ref 6, .int (MVLn w4), .int (MVEc w4), .int (MVEo w4), .int (MVSa w4), .int (MVEn w4), .int (MVTk w4), .int (MVVa w4), .int (MVFa w4), .int (MVFo w4), .ref 7, .int (MVSc w4), .ref 8, .ref 9, .int (MVOl w4)]), .inl (0, 500, .inl (MVSt w4)), .inl (0, 500, .inl (MVAs w4)), .inl (0, 500, .inl (MVSv w4)), .inl (0, 4000, .inl (MVPt w4)), .inl (0, 6, .inl (MVSp w4)), .inl (3, 600, .inl (MVBf w4)), .inl (0, 150, .inl (MVSm w4)), .inl (0, 40, .inl (MVOr w4)), .inl (3, 240, .inl (MVOu w4))]) (st2 := []) (c_X9_repair _ _ _ _ hq2) ⟨rfl, rfl⟩ rfl k_X9_repair l_X9_111 rfl rfl rfl rfl rfl (fit_of hR (by decide) (by decide) (by decide) (by decide)) (Nat.le_of_ble_eq_true rfl) (by decide) rfl rfl rfl ?_
      refine go_s 3 X (pc2 := 16) (st2 := [.int 7, .int l2, .ref 0]) rfl ?_
      obtain ⟨r6, hq5, h⟩ := obind_inv h
      refine q_callV X [0, 1, 2, 3, 4, 5, 6, 7, 8, 9] [] (AH2 := [.inr (9, [.ref 1, .ref 2, .ref 3, .ref 4, .int (MVPc w4), .int (MVIs w4), .int (MVTh w4), .ref 5, .int (MVSl w4), .ref 6, .int (MVLn w4), .int (MVEc w4), .int (MVEo w4), .int (MVSa w4), .int (MVEn w4), .int (MVTk w4), .int (MVVa w4), .int (MVFa w4), .int (MVFo w4), .ref 7, .int (MVSc w4), .ref 8, .ref 9, .int (MVOl w4)]), .inl (0, 500, .inl (MVSt w4)), .inl (0, 500, .inl (MVAs w4)), .inl (0, 500, .inl (MVSv w4)), .inl (0, 4000, .inl (MVPt w4)), .inl (0, 6, .inl (MVSp w4)), .inl (3, 600, .inl (MVBf w4)), .inl (0, 150, .inl (MVSm w4)), .inl (0, 40, .inl (MVOr w4)), .inl (3, 240, .inl (MVOu w4))]) (st2 := [.int r6]) (c_X9_get _ _ _ _ hq5) ⟨rfl, rfl⟩ rfl k_X9_get l_X9_90 rfl rfl rfl rfl rfl (fit_of hR (by decide) (by decide) (by decide) (by decide)) (Nat.le_of_ble_eq_true rfl) (by decide) rfl rfl rfl ?_
      refine go_l 2 X (pc2 := 2) (ls2 := [some (.ref 0), some (.int l1), some (.int r6)]) (st2 := []) rfl ?_
      exact AW.eq (ih _ _ _ _ _ h) rfl rfl rfl rfl
set_option maxHeartbeats 400000 in
set_option maxRecDepth 20000 in
theorem c_X9_repairUpwards (v : MV) (a : Int32) (r : Unit) (w : MV) (h : f_X9_repairUpwards v a = some (r, w)) : Sem z_X9_repairUpwards 4 0 0 [.ref 0, .int a] (WM v) (PST (.inl none) (WM w)) := by
  refine Sem.of zo_X9_repairUpwards (by decide +kernel) (Nat.le_of_ble_eq_true rfl) fun κ X hE hR hN => ?_
  unfold f_X9_repairUpwards at h
  refine AW.eq (pc' := 0) (ls' := [some (.ref 0), some (.int a), none]) (st' := []) (AH' := [.inr (9, [.ref 1, .ref 2, .ref 3, .ref 4, .int (MVPc v), .int (MVIs v), .int (MVTh v), .ref 5, .int (MVSl v), .ref 6, .int (MVLn v), .int (MVEc v), .int (MVEo v), .int (MVSa v), .int (MVEn v), .int (MVTk v), .int (MVVa v), .int (MVFa v), .int (MVFo v), .ref 7, .int (MVSc v), .ref 8, .ref 9, .int (MVOl v)]), .inl (0, 500, .inl (MVSt v)), .inl (0, 500, .inl (MVAs v)), .inl (0, 500, .inl (MVSv v)), .inl (0, 4000, .inl (MVPt v)), .inl (0, 6, .inl (MVSp v)), .inl (3, 600, .inl (MVBf v)), .inl (0, 150, .inl (MVSm v)), .inl (0, 40, .inl (MVOr v)), .inl (3, 240, .inl (MVOu v))]) ?_ rfl rfl rfl rfl
  refine go_l 2 X (pc2 := 2) (ls2 := [some (.ref 0), some (.int a), some (.int a)]) (st2 := []) rfl ?_
  exact AW.eq (a_X9_repairUpwards_h2 X hR FU _ _ _ _ _ h) rfl rfl rfl rfl
set_option maxHeartbeats 400000 in
set_option maxRecDepth 20000 in
theorem a_X9_remove_j76 {κ : KX} (X : CX κ z_X9_remove) (hR : κR κ = rmM 55 0 0) : ∀ (l1 : Int32) (v : MV) (r : Unit) (w : MV) (h : f_X9_remove_j76 l1 v = some (r, w)), AW κ (QM κ (PST (.inl none) (WM w)) 0 0) 76 [some (.ref 0), some (.int l1), none, none, none] [] (WM v) 0 0 := by
  intro l1 v r w h
  unfold f_X9_remove_j76 at h
  refine AW.eq (pc' := 76) (ls' := [some (.ref 0), some (.int l1), none, none, none]) (st' := []) (AH' := [.inr (9, [.ref 1, .ref 2, .ref 3, .ref 4, .int (MVPc v), .int (MVIs v), .int (MVTh v), .ref 5, .int (MVSl v), .ref 6, .int (MVLn v), .int (MVEc v), .int (MVEo v), .int (MVSa v), .int (MVEn v), .int (MVTk v), .int (MVVa v), .int (MVFa v), .int (MVFo v), .ref 7, .int (MVSc v), .ref 8, .ref 9, .int (MVOl v)]), .inl (0, 500, .inl (MVSt v)), .inl (0, 500, .inl (MVAs v)), .inl (0, 500, .inl (MVSv v)), .inl (0, 4000, .inl (MVPt v)), .inl (0, 6, .inl (MVSp v)), .inl (3, 600, .inl (MVBf v)), .inl (0, 150, .inl (MVSm v)), .inl (0, 40, .inl (MVOr v)), .inl (3, 240, .inl (MVOu v))]) ?_ rfl rfl rfl rfl
  refine go_s 2 X (pc2 := 78) (st2 := [.int l1, .ref 0]) rfl ?_
  obtain ⟨r25, w26, hq24, h⟩ := bnd2_inv h
  refine q_callV X [0, 1, 2, 3, 4, 5, 6, 7, 8, 9] [] (AH2 := [.inr (9, [.ref 1, .ref 2, .ref 3, .ref 4, .int (MVPc w26), .int (MVIs w26), .int (MVTh w26), .ref 5, .int (MVSl w26), .ref 6, .int (MVLn w26), .int (MVEc w26), .int (MVEo w26), .int (MVSa w26), .int (MVEn w26), .int (MVTk w26), .int (MVVa w26), .int (MVFa w26), .int (MVFo w26), .ref 7, .int (MVSc w26), .ref 8, .ref 9, .int (MVOl w26)]), .inl (0, 500, .inl (MVSt w26)), .inl (0, 500, .inl (MVAs w26)), .inl (0, 500, .inl (MVSv w26)), .inl (0, 4000, .inl (MVPt w26)), .inl (0, 6, .inl (MVSp w26)), .inl (3, 600, .inl (MVBf w26)), .inl (0, 150, .inl (MVSm w26)), .inl (0, 40, .inl (MVOr w26)), .inl (3, 240, .inl (MVOu w26))]) (st2 := []) (c_X9_single _ _ _ _ hq24) ⟨rfl, rfl⟩ rfl k_X9_single l_X9_114 rfl rfl rfl rfl rfl (fit_of hR (by decide) (by decide) (by decide) (by decide)) (Nat.le_of_ble_eq_true rfl) (by decide) rfl rfl rfl ?_
  refine go_s 4 X (pc2 := 86) (st2 := [.int 0, .int 8, .int l1, .ref 0]) rfl ?_
  obtain ⟨r28, w29, hq27, h⟩ := bnd2_inv h
  refine q_callV X [0, 1, 2, 3, 4, 5, 6, 7, 8, 9] [] (AH2 := [.inr (9, [.ref 1, .ref 2, .ref 3, .ref 4, .int (MVPc w29), .int (MVIs w29), .int (MVTh w29), .ref 5, .int (MVSl w29), .ref 6, .int (MVLn w29), .int (MVEc w29), .int (MVEo w29), .int (MVSa w29), .int (MVEn w29), .int (MVTk w29), .int (MVVa w29), .int (MVFa w29), .int (MVFo w29), .ref 7, .int (MVSc w29), .ref 8, .ref 9, .int (MVOl w29)]), .inl (0, 500, .inl (MVSt w29)), .inl (0, 500, .inl (MVAs w29)), .inl (0, 500, .inl (MVSv w29)), .inl (0, 4000, .inl (MVPt w29)), .inl (0, 6, .inl (MVSp w29)), .inl (3, 600, .inl (MVBf w29)), .inl (0, 150, .inl (MVSm w29)), .inl (0, 40, .inl (MVOr w29)), .inl (3, 240, .inl (MVOu w29))]) (st2 := []) (c_X9_set _ _ _ _ _ _ hq27) ⟨rfl, rfl⟩ rfl k_X9_set l_X9_94 rfl rfl rfl rfl rfl (fit_of hR (by decide) (by decide) (by decide) (by decide)) (Nat.le_of_ble_eq_true rfl) (by decide) rfl rfl rfl ?_
  cases h
  exact r_vret X rfl rfl ⟨rfl, rfl⟩ (by decide) (by decide)
set_option maxHeartbeats 400000 in
set_option maxRecDepth 20000 in
theorem a_X9_remove_j61 {κ : KX} (X : CX κ z_X9_remove) (hR : κR κ = rmM 55 0 0) : ∀ (l1 : Int32) (l2 : Int32) (l3 : Int32) (s0 : Int32) (v : MV) (r : Unit) (w : MV) (h : f_X9_remove_j61 l1 l2 l3 s0 v = some (r, w)), AW κ (QM κ (PST (.inl none) (WM w)) 0 0) 61 [some (.ref 0), some (.int l1), some (.int l2), some (.int l3), none] [.int s0] (WM v) 0 0 := by
  intro l1 l2 l3 s0 v r w h
  unfold f_X9_remove_j61 at h
  refine AW.eq (pc' := 61) (ls' := [some (.ref 0), some (.int l1), some (.int l2), some (.int l3), none]) (st' := [.int s0]) (AH' := [.inr (9, [.ref 1, .ref 2, .ref 3, .ref 4, .int (MVPc v), .int (MVIs v), .int (MVTh v), .ref 5, .int (MVSl v), .ref 6, .int (MVLn v), .int (MVEc v), .int (MVEo v), .int (MVSa v), .int (MVEn v), .int (MVTk v), .int (MVVa v), .int (MVFa v), .int (MVFo v), .ref 7, .int (MVSc v), .ref 8, .ref 9, .int (MVOl v)]), .inl (0, 500, .inl (MVSt v)), .inl (0, 500, .inl (MVAs v)), .inl (0, 500, .inl (MVSv v)), .inl (0, 4000, .inl (MVPt v)), .inl (0, 6, .inl (MVSp v)), .inl (3, 600, .inl (MVBf v)), .inl (0, 150, .inl (MVSm v)), .inl (0, 40, .inl (MVOr v)), .inl (3, 240, .inl (MVOu v))]) ?_ rfl rfl rfl rfl
  refine go_l 5 X (pc2 := 68) (ls2 := [some (.ref 0), some (.int l1), some (.int l2), some (.int l3), some (.int s0)]) (st2 := [.int l3, .int s0, .int l2, .ref 0]) rfl ?_
  obtain ⟨r19, w20, hq18, h⟩ := bnd2_inv h
  refine q_callV X [0, 1, 2, 3, 4, 5, 6, 7, 8, 9] [] (AH2 := [.inr (9, [.ref 1, .ref 2, .ref 3, .ref 4, .int (MVPc w20), .int (MVIs w20), .int (MVTh w20), .ref 5, .int (MVSl w20), .ref 6, .int (MVLn w20), .int (MVEc w20), .int (MVEo w20), .int (MVSa w20), .int (MVEn w20), .int (MVTk w20), .int (MVVa w20), .int (MVFa w20), .int (MVFo w20), .ref 7, .int (MVSc w20), .ref 8, .ref 9, .int (MVOl w20)]), .inl (0, 500, .inl (MVSt w20)), .inl (0, 500, .inl (MVAs w20)), .inl (0, 500, .inl (MVSv w20)), .inl (0, 4000, .inl (MVPt w20)), .inl (0, 6, .inl (MVSp w20)), .inl (3, 600, .inl (MVBf w20)), .inl (0, 150, .inl (MVSm w20)), .inl (0, 40, .inl (MVOr w20)), .inl (3, 240, .inl (MVOu w20))]) (st2 := []) (c_X9_link _ _ _ _ _ _ hq18) ⟨rfl, rfl⟩ rfl k_X9_link l_X9_108 rfl rfl rfl rfl rfl (fit_of hR (by decide) (by decide) (by decide) (by decide)) (Nat.le_of_ble_eq_true rfl) (by decide) rfl rfl rfl ?_
  refine go_s 2 X (pc2 := 73) (st2 := [.int l2, .ref 0]) rfl ?_
  obtain ⟨r22, w23, hq21, h⟩ := bnd2_inv h
  refine q_callV X [0, 1, 2, 3, 4, 5, 6, 7, 8, 9] [] (AH2 := [.inr (9, [.ref 1, .ref 2, .ref 3, .ref 4, .int (MVPc w23), .int (MVIs w23), .int (MVTh w23), .ref 5, .int (MVSl w23), .ref 6, .int (MVLn w23), .int (MVEc w23), .int (MVEo w23), .int (MVSa w23), .int (MVEn w23), .int (MVTk w23), .int (MVVa w23), .int (MVFa w23), .int (MVFo w23), .ref 7, .int (MVSc w23), .ref 8, .ref 9, .int (MVOl w23)]), .inl (0, 500, .inl (MVSt w23)), .inl (0, 500, .inl (MVAs w23)), .inl (0, 500, .inl (MVSv w23)), .inl (0, 4000, .inl (MVPt w23)), .inl (0, 6, .inl (MVSp w23)), .inl (3, 600, .inl (MVBf w23)), .inl (0, 150, .inl (MVSm w23)), .inl (0, 40, .inl (MVOr w23)), .inl (3, 240, .inl (MVOu w23))]) (st2 := []) (c_X9_repairUpwards _ _ _ _ hq21) ⟨rfl, rfl⟩ rfl k_X9_repairUpwards l_X9_124 rfl rfl rfl rfl rfl (fit_of hR (by decide) (by decide) (by decide) (by decide)) (Nat.le_of_ble_eq_true rfl) (by decide) rfl rfl rfl ?_
  refine AW.forget (ls' := [some (.ref 0), some (.int l1), none, none, none]) rfl (subL_of ⟨rfl, ⟨rfl, trivial⟩⟩) ?_
  exact AW.eq (a_X9_remove_j76 X hR _ _ _ _ h) rfl rfl rfl rfl
set_option maxHeartbeats 400000 in
set_option maxRecDepth 20000 in
theorem c_X9_remove (v : MV) (a : Int32) (r : Unit) (w : MV) (h : f_X9_remove v a = some (r, w)) : Sem z_X9_remove 55 0 0 [.ref 0, .int a] (WM v) (PST (.inl none) (WM w)) := by
  refine Sem.of zo_X9_remove (by decide +kernel) (Nat.le_of_ble_eq_true rfl) fun κ X hE hR hN => ?_
  unfold f_X9_remove at h
  refine AW.eq (pc' := 0) (ls' := [some (.ref 0), some (.int a), none, none, none]) (st' := []) (AH' := [.inr (9, [.ref 1, .ref 2, .ref 3, .ref 4, .int (MVPc v), .int (MVIs v), .int (MVTh v), .ref 5, .int (MVSl v), .ref 6, .int (MVLn v), .int (MVEc v), .int (MVEo v), .int (MVSa v), .int (MVEn v), .int (MVTk v), .int (MVVa v), .int (MVFa v), .int (MVFo v), .ref 7, .int (MVSc v), .ref 8, .ref 9, .int (MVOl v)]), .inl (0, 500, .inl (MVSt v)), .inl (0, 500, .inl (MVAs v)), .inl (0, 500, .inl (MVSv v)), .inl (0, 4000, .inl (MVPt v)), .inl (0, 6, .inl (MVSp v)), .inl (3, 600, .inl (MVBf v)), .inl (0, 150, .inl (MVSm v)), .inl (0, 40, .inl (MVOr v)), .inl (3, 240, .inl (MVOu v))]) ?_ rfl rfl rfl rfl
  refine go_s 3 X (pc2 := 4) (st2 := [.int 7, .int a, .ref 0]) rfl ?_
  obtain ⟨r2, hq1, h⟩ := obind_inv h
  refine q_callV X [0, 1, 2, 3, 4, 5, 6, 7, 8, 9] [] (AH2 := [.inr (9, [.ref 1, .ref 2, .ref 3, .ref 4, .int (MVPc v), .int (MVIs v), .int (MVTh v), .ref 5, .int (MVSl v), .ref 6, .int (MVLn v), .int (MVEc v), .int (MVEo v), .int (MVSa v), .int (MVEn v), .int (MVTk v), .int (MVVa v), .int (MVFa v), .int (MVFo v), .ref 7, .int (MVSc v), .ref 8, .ref 9, .int (MVOl v)]), .inl (0, 500, .inl (MVSt v)), .inl (0, 500, .inl (MVAs v)), .inl (0, 500, .inl (MVSv v)), .inl (0, 4000, .inl (MVPt v)), .inl (0, 6, .inl (MVSp v)), .inl (3, 600, .inl (MVBf v)), .inl (0, 150, .inl (MVSm v)), .inl (0, 40, .inl (MVOr v)), .inl (3, 240, .inl (MVOu v))]) (st2 := [.int r2]) (c_X9_get _ _ _ _ hq1) ⟨rfl, rfl⟩ rfl k_X9_get l_X9_90 rfl rfl rfl rfl rfl (fit_of hR (by decide) (by decide) (by decide) (by decide)) (Nat.le_of_ble_eq_true rfl) (by decide) rfl rfl rfl ?_
  refine go_l 5 X (pc2 := 12) (ls2 := [some (.ref 0), some (.int a), some (.int r2), none, none]) (st2 := [.int 5, .int a, .ref 0, .ref 0]) rfl ?_
  obtain ⟨r5, hq4, h⟩ := obind_inv h
  refine q_callV X [0, 1, 2, 3, 4, 5, 6, 7, 8, 9] [] (AH2 := [.inr (9, [.ref 1, .ref 2, .ref 3, .ref 4, .int (MVPc v), .int (MVIs v), .int (MVTh v), .ref 5, .int (MVSl v), .ref 6, .int (MVLn v), .int (MVEc v), .int (MVEo v), .int (MVSa v), .int (MVEn v), .int (MVTk v), .int (MVVa v), .int (MVFa v), .int (MVFo v), .ref 7, .int (MVSc v), .ref 8, .ref 9, .int (MVOl v)]), .inl (0, 500, .inl (MVSt v)), .inl (0, 500, .inl (MVAs v)), .inl (0, 500, .inl (MVSv v)), .inl (0, 4000, .inl (MVPt v)), .inl (0, 6, .inl (MVSp v)), .inl (3, 600, .inl (MVBf v)), .inl (0, 150, .inl (MVSm v)), .inl (0, 40, .inl (MVOr v)), .inl (3, 240, .inl (MVOu v))]) (st2 := [.int r5, .ref 0]) (c_X9_get _ _ _ _ hq4) ⟨rfl, rfl⟩ rfl k_X9_get l_X9_90 rfl rfl rfl rfl rfl (fit_of hR (by decide) (by decide) (by decide) (by decide)) (Nat.le_of_ble_eq_true rfl) (by decide) rfl rfl rfl ?_
  refine go_s 3 X (pc2 := 19) (st2 := [.int 6, .int a, .ref 0, .int r5, .ref 0]) rfl ?_
  obtain ⟨r8, hq7, h⟩ := obind_inv h
  refine q_callV X [0, 1, 2, 3, 4, 5, 6, 7, 8, 9] [] (AH2 := [.inr (9, [.ref 1, .ref 2, .ref 3, .ref 4, .int (MVPc v), .int (MVIs v), .int (MVTh v), .ref 5, .int (MVSl v), .ref 6, .int (MVLn v), .int (MVEc v), .int (MVEo v), .int (MVSa v), .int (MVEn v), .int (MVTk v), .int (MVVa v), .int (MVFa v), .int (MVFo v), .ref 7, .int (MVSc v), .ref 8, .ref 9, .int (MVOl v)]), .inl (0, 500, .inl (MVSt v)), .inl (0, 500, .inl (MVAs v)), .inl (0, 500, .inl (MVSv v)), .inl (0, 4000, .inl (MVPt v)), .inl (0, 6, .inl (MVSp v)), .inl (3, 600, .inl (MVBf v)), .inl (0, 150, .inl (MVSm v)), .inl (0, 40, .inl (MVOr v)), .inl (3, 240, .inl (MVOu v))]) (st2 := [.int r8, .int r5, .ref 0]) (c_X9_get _ _ _ _ hq7) ⟨rfl, rfl⟩ rfl k_X9_get l_X9_90 rfl rfl rfl rfl rfl (fit_of hR (by decide) (by decide) (by decide) (by decide)) (Nat.le_of_ble_eq_true rfl) (by decide) rfl rfl rfl ?_
  obtain ⟨r11, w12, hq10, h⟩ := bnd2_inv h
  refine q_callV X [0, 1, 2, 3, 4, 5, 6, 7, 8, 9] [] (AH2 := [.inr (9, [.ref 1, .ref 2, .ref 3, .ref 4, .int (MVPc w12), .int (MVIs w12), .int (MVTh w12), .ref 5, .int (MVSl w12), .ref 6, .int (MVLn w12), .int (MVEc w12), .int (MVEo w12), .int (MVSa w12), .int (MVEn w12), .int (MVTk w12), .int (MVVa w12), .int (MVFa w12), .int (MVFo w12), .ref 7, .int (MVSc w12), .ref 8, .ref 9, .int (MVOl w12)]), .inl (0, 500, .inl (MVSt w12)), .inl (0, 500, .inl (MVAs w12)), .inl (0, 500, .inl (MVSv w12)), .inl (0, 4000, .inl (MVPt w12)), .inl (0, 6, .inl (MVSp w12)), .inl (3, 600, .inl (MVBf w12)), .inl (0, 150, .inl (MVSm w12)), .inl (0, 40, .inl (MVOr w12)), .inl (3, 240, .inl (MVOu w12))]) (st2 := [.int r11]) (c_X9_merge 50 _ _ _ _ _ hq10) ⟨rfl, rfl⟩ rfl k_X9_merge l_X9_105 rfl rfl rfl rfl rfl (fit_of hR (by decide) (by decide) (by decide) (by decide)) (Nat.le_of_ble_eq_true rfl) (by decide) rfl rfl rfl ?_
  refine go_l 3 X (pc2 := 28) (ls2 := [some (.ref 0), some (.int a), some (.int r2), some (.int r11), none]) (st2 := [.int (-1), .int r2]) rfl ?_
  refine r_icmp_ne X 45 rfl rfl (fun c13 => ?_) (fun c13 => ?_)
  · rw [if_neg c13] at h
    refine go_s 3 X (pc2 := 48) (st2 := [.int 5, .int r2, .ref 0]) rfl ?_
    obtain ⟨r15, hq14, h⟩ := obind_inv h
    refine q_callV X [0, 1, 2, 3, 4, 5, 6, 7, 8, 9] [] (AH2 := [.inr (9, [.ref 1, .ref 2, .ref 3, .ref 4, .int (MVPc w12), .int (MVIs w12), .int (MVTh w12), .ref 5, .int (MVSl w12), .ref 6, .int (MVLn w12), .int (MVEc w12), .int (MVEo w12), .int (MVSa w12), .int (MVEn w12), .int (MVTk w12), .int (MVVa w12), .int (MVFa w12), .int (MVFo w12), .ref 7, .int (MVSc w12), .ref 8, .ref 9, .int (MVOl w12)]), .inl (0, 500, .inl (MVSt w12)), .inl (0, 500, .inl (MVAs w12)), .inl (0, 500, .inl (MVSv w12)), .inl (0, 4000, .inl (MVPt w12)), .inl (0, 6, .inl (MVSp w12)), .inl (3, 600, .inl (MVBf w12)), .inl (0, 150, .inl (MVSm w12)), .inl (0, 40, .inl (MVOr w12)), .inl (3, 240, .inl (MVOu w12))]) (st2 := [.int r15]) (c_X9_get _ _ _ _ hq14) ⟨rfl, rfl⟩ rfl k_X9_get l_X9_90 rfl rfl rfl rfl rfl (fit_of hR (by decide) (by decide) (by decide) (by decide)) (Nat.le_of_ble_eq_true rfl) (by decide) rfl rfl rfl ?_
    refine go_s 1 X (pc2 := 52) (st2 := [.int a, .int r15]) rfl ?_
    refine r_icmp_ne X 59 rfl rfl (fun c17 => ?_) (fun c17 => ?_)
    · rw [if_neg c17] at h
      refine go_s 1 X (pc2 := 61) (st2 := [.int 6]) rfl ?_
      exact AW.eq (a_X9_remove_j61 X hR _ _ _ _ _ _ _ h) rfl rfl rfl rfl
    · rw [if_pos c17] at h
      refine go_s 2 X (pc2 := 61) (st2 := [.int 5]) rfl ?_
      exact AW.eq (a_X9_remove_j61 X hR _ _ _ _ _ _ _ h) rfl rfl rfl rfl
  · rw [if_pos c13] at h
    refine go_s 4 X (pc2 := 35) (st2 := [.int 4, .int a, .ref 0, .ref 0]) rfl ?_
    obtain ⟨r31, hq30, h⟩ := obind_inv h
    refine q_callV X [0, 1, 2, 3, 4, 5, 6, 7, 8, 9] [] (AH2 := [.inr (9, [.ref 1, .ref 2, .ref 3, .ref 4, .int (MVPc w12), .int (MVIs w12), .int (MVTh w12), .ref 5, .int (MVSl w12), .ref 6, .int (MVLn w12), .int (MVEc w12), .int (MVEo w12), .int (MVSa w12), .int (MVEn w12), .int (MVTk w12), .int (MVVa w12), .int (MVFa w12), .int (MVFo w12), .ref 7, .int (MVSc w12), .ref 8, .ref 9, .int (MVOl w12)]), .inl (0, 500, .inl (MVSt w12)), .inl (0, 500, .inl (MVAs w12)), .inl (0, 500, .inl (MVSv w12)), .inl (0, 4000, .inl (MVPt w12)), .inl (0, 6, .inl (MVSp w12)), .inl (3, 600, .inl (MVBf w12)), .inl (0, 150, .inl (MVSm w12)), .inl (0, 40, .inl (MVOr w12)), .inl (3, 240, .inl (MVOu w12))]) (st2 := [.int r31, .ref 0]) (c_X9_get _ _ _ _ hq30) ⟨rfl, rfl⟩ rfl k_X9_get l_X9_90 rfl rfl rfl rfl rfl (fit_of hR (by decide) (by decide) (by decide) (by decide)) (Nat.le_of_ble_eq_true rfl) (by decide) rfl rfl rfl ?_
    refine go_s 1 X (pc2 := 39) (st2 := [.int r11, .int r31, .ref 0]) rfl ?_
    obtain ⟨r34, w35, hq33, h⟩ := bnd2_inv h
    refine q_callV X [0, 1, 2, 3, 4, 5, 6, 7, 8, 9] [] (AH2 := [.inr (9, [.ref 1, .ref 2, .ref 3, .ref 4, .int (MVPc w35), .int (MVIs w35), .int (MVTh w35), .ref 5, .int (MVSl w35), .ref 6, .int (MVLn w35), .int (MVEc w35), .int (MVEo w35), .int (MVSa w35), .int (MVEn w35), .int (MVTk w35), .int (MVVa w35), .int (MVFa w35), .int (MVFo w35), .ref 7, .int (MVSc w35), .ref 8, .ref 9, .int (MVOl w35)]), .inl (0, 500, .inl (MVSt w35)), .inl (0, 500, .inl (MVAs w35)), .inl (0, 500, .inl (MVSv w35)), .inl (0, 4000, .inl (MVPt w35)), .inl (0, 6, .inl (MVSp w35)), .inl (3, 600, .inl (MVBf w35)), .inl (0, 150, .inl (MVSm w35)), .inl (0, 40, .inl (MVOr w35)), .inl (3, 240, .inl (MVOu w35))]) (st2 := []) (c_X9_setRoot _ _ _ _ _ hq33) ⟨rfl, rfl⟩ rfl k_X9_setRoot l_X9_120 rfl rfl rfl rfl rfl (fit_of hR (by decide) (by decide) (by decide) (by decide)) (Nat.le_of_ble_eq_true rfl) (by decide) rfl rfl rfl ?_
    refine go_s 1 X (pc2 := 76) (st2 := []) rfl ?_
    refine AW.forget (ls' := [some (.ref 0), some (.int a), none, none, none]) rfl (subL_of ⟨rfl, ⟨rfl, trivial⟩⟩) ?_
    exact AW.eq (a_X9_remove_j76 X hR _ _ _ _ h) rfl rfl rfl rfl
set_option maxHeartbeats 400000 in
set_option maxRecDepth 20000 in
theorem c_X9_cancelJob (v : MV) (a : Int32) (r : Int32) (w : MV) (h : f_X9_cancelJob v a = some (r, w)) : Sem z_X9_cancelJob 56 0 0 [.ref 0, .int a] (WM v) (PST (.inl (some (.int r))) (WM w)) := by
  refine Sem.of zo_X9_cancelJob (by decide +kernel) (Nat.le_of_ble_eq_true rfl) fun κ X hE hR hN => ?_
  unfold f_X9_cancelJob at h
  refine AW.eq (pc' := 0) (ls' := [some (.ref 0), some (.int a), none]) (st' := []) (AH' := [.inr (9, [.ref 1, .ref 2, .ref 3, .ref 4, .int (MVPc v), .int (MVIs v), .int (MVTh v), .ref 5, .int (MVSl v), .ref 6, .int (MVLn v), .int (MVEc v), .int (MVEo v), .int (MVSa v), .int (MVEn v), .int (MVTk v), .int (MVVa v), .int (MVFa v), .int (MVFo v), .ref 7, .int (MVSc v), .ref 8, .ref 9, .int (MVOl v)]), .inl (0, 500, .inl (MVSt v)), .inl (0, 500, .inl (MVAs v)), .inl (0, 500, .inl (MVSv v)), .inl (0, 4000, .inl (MVPt v)), .inl (0, 6, .inl (MVSp v)), .inl (3, 600, .inl (MVBf v)), .inl (0, 150, .inl (MVSm v)), .inl (0, 40, .inl (MVOr v)), .inl (3, 240, .inl (MVOu v))]) ?_ rfl rfl rfl rfl
  refine go_s 3 X (pc2 := 3) (st2 := [.int 4, .int a, .ref 0]) rfl ?_
  obtain ⟨r2, hq1, h⟩ := obind_inv h
  refine q_callV X [0, 1, 2, 3, 4, 5, 6, 7, 8, 9] [] (AH2 := [.inr (9, [.ref 1, .ref 2, .ref 3, .ref 4, .int (MVPc v), .int (MVIs v), .int (MVTh v), .ref 5, .int (MVSl v), .ref 6, .int (MVLn v), .int (MVEc v), .int (MVEo v), .int (MVSa v), .int (MVEn v), .int (MVTk v), .int (MVVa v), .int (MVFa v), .int (MVFo v), .ref 7, .int (MVSc v), .ref 8, .ref 9, .int (MVOl v)]), .inl (0, 500, .inl (MVSt v)), .inl (0, 500, .inl (MVAs v)), .inl (0, 500, .inl (MVSv v)), .inl (0, 4000, .inl (MVPt v)), .inl (0, 6, .inl (MVSp v)), .inl (3, 600, .inl (MVBf v)), .inl (0, 150, .inl (MVSm v)), .inl (0, 40, .inl (MVOr v)), .inl (3, 240, .inl (MVOu v))]) (st2 := [.int r2]) (c_X9_get _ _ _ _ hq1) ⟨rfl, rfl⟩ rfl k_X9_get l_X9_90 rfl rfl rfl rfl rfl (fit_of hR (by decide) (by decide) (by decide) (by decide)) (Nat.le_of_ble_eq_true rfl) (by decide) rfl rfl rfl ?_
  refine go_l 3 X (pc2 := 9) (ls2 := [some (.ref 0), some (.int a), some (.int r2)]) (st2 := [.int a, .ref 0]) rfl ?_
  obtain ⟨r5, w6, hq4, h⟩ := bnd2_inv h
  refine q_callV X [0, 1, 2, 3, 4, 5, 6, 7, 8, 9] [] (AH2 := [.inr (9, [.ref 1, .ref 2, .ref 3, .ref 4, .int (MVPc w6), .int (MVIs w6), .int (MVTh w6), .ref 5, .int (MVSl w6), .ref 6, .int (MVLn w6), .int (MVEc w6), .int (MVEo w6), .int (MVSa w6), .int (MVEn w6), .int (MVTk w6), .int (MVVa w6), .int (MVFa w6), .int (MVFo w6), .ref 7, .int (MVSc w6), .ref 8, .ref 9, .int (MVOl w6)]), .inl (0, 500, .inl (MVSt w6)), .inl (0, 500, .inl (MVAs w6)), .inl (0, 500, .inl (MVSv w6)), .inl (0, 4000, .inl (MVPt w6)), .inl (0, 6, .inl (MVSp w6)), .inl (3, 600, .inl (MVBf w6)), .inl (0, 150, .inl (MVSm w6)), .inl (0, 40, .inl (MVOr w6)), .inl (3, 240, .inl (MVOu w6))]) (st2 := []) (c_X9_remove _ _ _ _ hq4) ⟨rfl, rfl⟩ rfl k_X9_remove l_X9_140 rfl rfl rfl rfl rfl (fit_of hR (by decide) (by decide) (by decide) (by decide)) (Nat.le_of_ble_eq_true rfl) (by decide) rfl rfl rfl ?_
  refine go_s 4 X (pc2 := 16) (st2 := [.int 2, .int 3, .int a, .ref 0]) rfl ?_
  obtain ⟨r8, w9, hq7, h⟩ := bnd2_inv h
  refine q_callV X [0, 1, 2, 3, 4, 5, 6, 7, 8, 9] [] (AH2 := [.inr (9, [.ref 1, .ref 2, .ref 3, .ref 4, .int (MVPc w9), .int (MVIs w9), .int (MVTh w9), .ref 5, .int (MVSl w9), .ref 6, .int (MVLn w9), .int (MVEc w9), .int (MVEo w9), .int (MVSa w9), .int (MVEn w9), .int (MVTk w9), .int (MVVa w9), .int (MVFa w9), .int (MVFo w9), .ref 7, .int (MVSc w9), .ref 8, .ref 9, .int (MVOl w9)]), .inl (0, 500, .inl (MVSt w9)), .inl (0, 500, .inl (MVAs w9)), .inl (0, 500, .inl (MVSv w9)), .inl (0, 4000, .inl (MVPt w9)), .inl (0, 6, .inl (MVSp w9)), .inl (3, 600, .inl (MVBf w9)), .inl (0, 150, .inl (MVSm w9)), .inl (0, 40, .inl (MVOr w9)), .inl (3, 240, .inl (MVOu w9))]) (st2 := []) (c_X9_set _ _ _ _ _ _ hq7) ⟨rfl, rfl⟩ rfl k_X9_set l_X9_94 rfl rfl rfl rfl rfl (fit_of hR (by decide) (by decide) (by decide) (by decide)) (Nat.le_of_ble_eq_true rfl) (by decide) rfl rfl rfl ?_
  refine go_s 2 X (pc2 := 21) (st2 := [.int r2, .ref 0]) rfl ?_
  obtain ⟨r11, hq10, h⟩ := obind_inv h
  refine q_callV X [0, 1, 2, 3, 4, 5, 6, 7, 8, 9] [] (AH2 := [.inr (9, [.ref 1, .ref 2, .ref 3, .ref 4, .int (MVPc w9), .int (MVIs w9), .int (MVTh w9), .ref 5, .int (MVSl w9), .ref 6, .int (MVLn w9), .int (MVEc w9), .int (MVEo w9), .int (MVSa w9), .int (MVEn w9), .int (MVTk w9), .int (MVVa w9), .int (MVFa w9), .int (MVFo w9), .ref 7, .int (MVSc w9), .ref 8, .ref 9, .int (MVOl w9)]), .inl (0, 500, .inl (MVSt w9)), .inl (0, 500, .inl (MVAs w9)), .inl (0, 500, .inl (MVSv w9)), .inl (0, 4000, .inl (MVPt w9)), .inl (0, 6, .inl (MVSp w9)), .inl (3, 600, .inl (MVBf w9)), .inl (0, 150, .inl (MVSm w9)), .inl (0, 40, .inl (MVOr w9)), .inl (3, 240, .inl (MVOu w9))]) (st2 := [.int r11]) (c_X9_sizeOf _ _ _ hq10) ⟨rfl, rfl⟩ rfl k_X9_sizeOf l_X9_143 rfl rfl rfl rfl rfl (fit_of hR (by decide) (by decide) (by decide) (by decide)) (Nat.le_of_ble_eq_true rfl) (by decide) rfl rfl rfl ?_
  cases h
  exact r_iret X rfl rfl ⟨rfl, rfl⟩ (by decide) (by decide)
set_option maxHeartbeats 400000 in
set_option maxRecDepth 20000 in
theorem c_X9_cancel (v : MV) (a : Int32) (r : Int32) (w : MV) (h : f_X9_cancel v a = some (r, w)) : Sem z_X9_cancel 57 0 0 [.ref 0, .int a] (WM v) (PST (.inl (some (.int r))) (WM w)) := by
  refine Sem.of zo_X9_cancel (by decide +kernel) (Nat.le_of_ble_eq_true rfl) fun κ X hE hR hN => ?_
  unfold f_X9_cancel at h
  refine AW.eq (pc' := 0) (ls' := [some (.ref 0), some (.int a)]) (st' := []) (AH' := [.inr (9, [.ref 1, .ref 2, .ref 3, .ref 4, .int (MVPc v), .int (MVIs v), .int (MVTh v), .ref 5, .int (MVSl v), .ref 6, .int (MVLn v), .int (MVEc v), .int (MVEo v), .int (MVSa v), .int (MVEn v), .int (MVTk v), .int (MVVa v), .int (MVFa v), .int (MVFo v), .ref 7, .int (MVSc v), .ref 8, .ref 9, .int (MVOl v)]), .inl (0, 500, .inl (MVSt v)), .inl (0, 500, .inl (MVAs v)), .inl (0, 500, .inl (MVSv v)), .inl (0, 4000, .inl (MVPt v)), .inl (0, 6, .inl (MVSp v)), .inl (3, 600, .inl (MVBf v)), .inl (0, 150, .inl (MVSm v)), .inl (0, 40, .inl (MVOr v)), .inl (3, 240, .inl (MVOu v))]) ?_ rfl rfl rfl rfl
  refine go_s 2 X (pc2 := 2) (st2 := [.int a, .ref 0]) rfl ?_
  obtain ⟨r2, w3, hq1, h⟩ := bnd2_inv h
  refine q_callV X [0, 1, 2, 3, 4, 5, 6, 7, 8, 9] [] (AH2 := [.inr (9, [.ref 1, .ref 2, .ref 3, .ref 4, .int (MVPc w3), .int (MVIs w3), .int (MVTh w3), .ref 5, .int (MVSl w3), .ref 6, .int (MVLn w3), .int (MVEc w3), .int (MVEo w3), .int (MVSa w3), .int (MVEn w3), .int (MVTk w3), .int (MVVa w3), .int (MVFa w3), .int (MVFo w3), .ref 7, .int (MVSc w3), .ref 8, .ref 9, .int (MVOl w3)]), .inl (0, 500, .inl (MVSt w3)), .inl (0, 500, .inl (MVAs w3)), .inl (0, 500, .inl (MVSv w3)), .inl (0, 4000, .inl (MVPt w3)), .inl (0, 6, .inl (MVSp w3)), .inl (3, 600, .inl (MVBf w3)), .inl (0, 150, .inl (MVSm w3)), .inl (0, 40, .inl (MVOr w3)), .inl (3, 240, .inl (MVOu w3))]) (st2 := [.int r2]) (c_X9_checkWaiting _ _ _ _ hq1) ⟨rfl, rfl⟩ rfl k_X9_checkWaiting l_X9_354 rfl rfl rfl rfl rfl (fit_of hR (by decide) (by decide) (by decide) (by decide)) (Nat.le_of_ble_eq_true rfl) (by decide) rfl rfl rfl ?_
  refine r_if_ne X 10 rfl rfl (fun c4 => ?_) (fun c4 => ?_)
  · rw [if_neg c4] at h
    refine go_s 1 X (pc2 := 11) (st2 := [.ref 0]) rfl ?_
    obtain ⟨r6, w7, hq5, h⟩ := bnd2_inv h
    refine q_callV X [0, 1, 2, 3, 4, 5, 6, 7, 8, 9] [] (AH2 := [.inr (9, [.ref 1, .ref 2, .ref 3, .ref 4, .int (MVPc w7), .int (MVIs w7), .int (MVTh w7), .ref 5, .int (MVSl w7), .ref 6, .int (MVLn w7), .int (MVEc w7), .int (MVEo w7), .int (MVSa w7), .int (MVEn w7), .int (MVTk w7), .int (MVVa w7), .int (MVFa w7), .int (MVFo w7), .ref 7, .int (MVSc w7), .ref 8, .ref 9, .int (MVOl w7)]), .inl (0, 500, .inl (MVSt w7)), .inl (0, 500, .inl (MVAs w7)), .inl (0, 500, .inl (MVSv w7)), .inl (0, 4000, .inl (MVPt w7)), .inl (0, 6, .inl (MVSp w7)), .inl (3, 600, .inl (MVBf w7)), .inl (0, 150, .inl (MVSm w7)), .inl (0, 40, .inl (MVOr w7)), .inl (3, 240, .inl (MVOu w7))]) (st2 := []) (c_X9_remember _ _ _ hq5) ⟨rfl, rfl⟩ rfl k_X9_remember l_X9_326 rfl rfl rfl rfl rfl (fit_of hR (by decide) (by decide) (by decide) (by decide)) (Nat.le_of_ble_eq_true rfl) (by decide) rfl rfl rfl ?_
    refine go_s 2 X (pc2 := 16) (st2 := [.int a, .ref 0]) rfl ?_
    obtain ⟨r9, w10, hq8, h⟩ := bnd2_inv h
    refine q_callV X [0, 1, 2, 3, 4, 5, 6, 7, 8, 9] [] (AH2 := [.inr (9, [.ref 1, .ref 2, .ref 3, .ref 4, .int (MVPc w10), .int (MVIs w10), .int (MVTh w10), .ref 5, .int (MVSl w10), .ref 6, .int (MVLn w10), .int (MVEc w10), .int (MVEo w10), .int (MVSa w10), .int (MVEn w10), .int (MVTk w10), .int (MVVa w10), .int (MVFa w10), .int (MVFo w10), .ref 7, .int (MVSc w10), .ref 8, .ref 9, .int (MVOl w10)]), .inl (0, 500, .inl (MVSt w10)), .inl (0, 500, .inl (MVAs w10)), .inl (0, 500, .inl (MVSv w10)), .inl (0, 4000, .inl (MVPt w10)), .inl (0, 6, .inl (MVSp w10)), .inl (3, 600, .inl (MVBf w10)), .inl (0, 150, .inl (MVSm w10)), .inl (0, 40, .inl (MVOr w10)), .inl (3, 240, .inl (MVOu w10))]) (st2 := [.int r9]) (c_X9_cancelJob _ _ _ _ hq8) ⟨rfl, rfl⟩ rfl k_X9_cancelJob l_X9_308 rfl rfl rfl rfl rfl (fit_of hR (by decide) (by decide) (by decide) (by decide)) (Nat.le_of_ble_eq_true rfl) (by decide) rfl rfl rfl ?_
    cases h
    exact r_iret X rfl rfl ⟨rfl, rfl⟩ (by decide) (by decide)
  · rw [if_pos c4] at h
    refine go_s 1 X (pc2 := 9) (st2 := [.int 0]) rfl ?_
    cases h
    exact r_iret X rfl rfl ⟨rfl, rfl⟩ (by decide) (by decide)
