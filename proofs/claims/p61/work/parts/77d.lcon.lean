/-! ===== 77d: the law: contracts (gen71.py) ===== -/
set_option maxHeartbeats 6000000 in
set_option maxRecDepth 20000 in
theorem c_L_isIn (v : QV) (a : Int32) (b : Int32) (r : Int32) (h : f_L_isIn v a b = some r) : Sem z_L_isIn 0 0 0 [.ref 0, .int a, .int b] (WQ v) (PST (.inl (some (.int r))) (WQ v)) := by
  refine Sem.of zo_L_isIn (by decide +kernel) (Nat.le_of_ble_eq_true rfl) fun κ X hE hR hN => ?_
  unfold f_L_isIn at h
  refine AW.eq (pc' := 0) (ls' := [some (.ref 0), some (.int a), some (.int b)]) (st' := []) (AH' := [.inr (9, [.ref 1, .ref 2, .ref 3, .ref 4, .ref 5, .ref 6, .ref 7, .ref 8, .int (QVNq v), .int (QVNo v), .int (QVJb v), .int (QVSn v)]), .inl (0, 40, .inl (QVOw v)), .inl (0, 40, .inl (QVPr v)), .inl (0, 40, .inl (QVPg v)), .inl (0, 40, .inl (QVSt v)), .inl (0, 40, .inl (QVQu v)), .inl (0, 4, .inl (QVSp v)), .inl (0, 4, .inl (QVPd v)), .inl (2, 4, .inl (QVPs v))]) ?_ rfl rfl rfl rfl
  refine go_s 3 X (pc2 := 5) (st2 := [.int a, .ref 4]) rfl ?_
  by_cases b1 : oob a 40
  · rw [if_pos b1] at h; cases h
  rw [if_neg b1] at h
  refine r_iald X rfl rfl b1 ?_
  refine r_if_ne X 23 rfl rfl (fun c2 => ?_) (fun c2 => ?_)
  · rw [if_neg c2] at h
    refine go_s 1 X (pc2 := 24) (st2 := [.int 0]) rfl ?_
    cases h
    exact r_zret X (ty := .boolean) rfl rfl rfl ⟨rfl, rfl⟩ (by decide) (by decide)
  · rw [if_pos c2] at h
    refine go_s 3 X (pc2 := 14) (st2 := [.int a, .ref 5]) rfl ?_
    by_cases b3 : oob a 40
    · rw [if_pos b3] at h; cases h
    rw [if_neg b3] at h
    refine r_iald X rfl rfl b3 ?_
    refine go_s 1 X (pc2 := 16) (st2 := [.int b, .int ((QVQu v) (Int32.toNatClampNeg a))]) rfl ?_
    refine r_icmp_ne X 23 rfl rfl (fun c4 => ?_) (fun c4 => ?_)
    · rw [if_neg c4] at h
      refine go_s 1 X (pc2 := 24) (st2 := [.int 0]) rfl ?_
      cases h
      exact r_zret X (ty := .boolean) rfl rfl rfl ⟨rfl, rfl⟩ (by decide) (by decide)
    · rw [if_pos c4] at h
      refine go_s 2 X (pc2 := 24) (st2 := [.int 1]) rfl ?_
      cases h
      exact r_zret X (ty := .boolean) rfl rfl rfl ⟨rfl, rfl⟩ (by decide) (by decide)
set_option maxHeartbeats 6000000 in
set_option maxRecDepth 20000 in
theorem c_L_isBefore (v : QV) (a : Int32) (b : Int32) (r : Int32) (h : f_L_isBefore v a b = some r) : Sem z_L_isBefore 0 0 0 [.ref 0, .int a, .int b] (WQ v) (PST (.inl (some (.int r))) (WQ v)) := by
  refine Sem.of zo_L_isBefore (by decide +kernel) (Nat.le_of_ble_eq_true rfl) fun κ X hE hR hN => ?_
  unfold f_L_isBefore at h
  refine AW.eq (pc' := 0) (ls' := [some (.ref 0), some (.int a), some (.int b)]) (st' := []) (AH' := [.inr (9, [.ref 1, .ref 2, .ref 3, .ref 4, .ref 5, .ref 6, .ref 7, .ref 8, .int (QVNq v), .int (QVNo v), .int (QVJb v), .int (QVSn v)]), .inl (0, 40, .inl (QVOw v)), .inl (0, 40, .inl (QVPr v)), .inl (0, 40, .inl (QVPg v)), .inl (0, 40, .inl (QVSt v)), .inl (0, 40, .inl (QVQu v)), .inl (0, 4, .inl (QVSp v)), .inl (0, 4, .inl (QVPd v)), .inl (2, 4, .inl (QVPs v))]) ?_ rfl rfl rfl rfl
  refine go_s 3 X (pc2 := 5) (st2 := [.int a, .ref 2]) rfl ?_
  by_cases b1 : oob a 40
  · rw [if_pos b1] at h; cases h
  rw [if_neg b1] at h
  refine r_iald X rfl rfl b1 ?_
  refine go_s 3 X (pc2 := 11) (st2 := [.int b, .ref 2, .int ((QVPr v) (Int32.toNatClampNeg a))]) rfl ?_
  by_cases b2 : oob b 40
  · rw [if_pos b2] at h; cases h
  rw [if_neg b2] at h
  refine r_iald X rfl rfl b2 ?_
  refine r_icmp_lt X 35 rfl rfl (fun c3 => ?_) (fun c3 => ?_)
  · rw [if_pos c3] at h
    refine go_s 2 X (pc2 := 40) (st2 := [.int 1]) rfl ?_
    cases h
    exact r_zret X (ty := .boolean) rfl rfl rfl ⟨rfl, rfl⟩ (by decide) (by decide)
  · rw [if_neg c3] at h
    refine go_s 3 X (pc2 := 20) (st2 := [.int a, .ref 2]) rfl ?_
    by_cases b4 : oob a 40
    · rw [if_pos b4] at h; cases h
    rw [if_neg b4] at h
    refine r_iald X rfl rfl b4 ?_
    refine go_s 3 X (pc2 := 26) (st2 := [.int b, .ref 2, .int ((QVPr v) (Int32.toNatClampNeg a))]) rfl ?_
    by_cases b5 : oob b 40
    · rw [if_pos b5] at h; cases h
    rw [if_neg b5] at h
    refine r_iald X rfl rfl b5 ?_
    refine r_icmp_ne X 39 rfl rfl (fun c6 => ?_) (fun c6 => ?_)
    · rw [if_neg c6] at h
      refine go_s 1 X (pc2 := 40) (st2 := [.int 0]) rfl ?_
      cases h
      exact r_zret X (ty := .boolean) rfl rfl rfl ⟨rfl, rfl⟩ (by decide) (by decide)
    · rw [if_pos c6] at h
      refine go_s 2 X (pc2 := 32) (st2 := [.int b, .int a]) rfl ?_
      refine r_icmp_ge X 39 rfl rfl (fun c7 => ?_) (fun c7 => ?_)
      · rw [if_pos c7] at h
        refine go_s 1 X (pc2 := 40) (st2 := [.int 0]) rfl ?_
        cases h
        exact r_zret X (ty := .boolean) rfl rfl rfl ⟨rfl, rfl⟩ (by decide) (by decide)
      · rw [if_neg c7] at h
        refine go_s 2 X (pc2 := 40) (st2 := [.int 1]) rfl ?_
        cases h
        exact r_zret X (ty := .boolean) rfl rfl rfl ⟨rfl, rfl⟩ (by decide) (by decide)
set_option maxHeartbeats 6000000 in
set_option maxRecDepth 20000 in
theorem a_L_before_h4 {κ : KX} (X : CX κ z_L_before) (hR : κR κ = rmM 1 0 0) : ∀ (n : Nat) (l1 : Int32) (l2 : Int32) (l3 : Int32) (v : QV) (r : Int32) (h : f_L_before_h4 n l1 l2 l3 v = some r), AW κ (QM κ (PST (.inl (some (.int r))) (WQ v)) 0 0) 4 [some (.ref 0), some (.int l1), some (.int l2), some (.int l3)] [] (WQ v) 0 0 := by
  intro n
  induction n with
  | zero =>
    intro l1 l2 l3 v r h
    unfold f_L_before_h4 at h
    cases h
  | succ n ih =>
    intro l1 l2 l3 v r h
    unfold f_L_before_h4 at h
    refine AW.eq (pc' := 4) (ls' := [some (.ref 0), some (.int l1), some (.int l2), some (.int l3)]) (st' := []) (AH' := [.inr (9, [.ref 1, .ref 2, .ref 3, .ref 4, .ref 5, .ref 6, .ref 7, .ref 8, .int (QVNq v), .int (QVNo v), .int (QVJb v), .int (QVSn v)]), .inl (0, 40, .inl (QVOw v)), .inl (0, 40, .inl (QVPr v)), .inl (0, 40, .inl (QVPg v)), .inl (0, 40, .inl (QVSt v)), .inl (0, 40, .inl (QVQu v)), .inl (0, 4, .inl (QVSp v)), .inl (0, 4, .inl (QVPd v)), .inl (2, 4, .inl (QVPs v))]) ?_ rfl rfl rfl rfl
    refine go_s 3 X (pc2 := 9) (st2 := [.int (QVJb v), .int l3]) rfl ?_
    refine r_icmp_ge X 50 rfl rfl (fun c1 => ?_) (fun c1 => ?_)
    · rw [if_pos c1] at h
      refine go_s 1 X (pc2 := 51) (st2 := [.int l2]) rfl ?_
      cases h
      exact r_iret X rfl rfl ⟨rfl, rfl⟩ (by decide) (by decide)
    · rw [if_neg c1] at h
      refine go_s 5 X (pc2 := 19) (st2 := [.int l1, .ref 5, .int l3, .ref 0]) rfl ?_
      by_cases b2 : oob l1 40
      · rw [if_pos b2] at h; cases h
      rw [if_neg b2] at h
      refine r_iald X rfl rfl b2 ?_
      obtain ⟨r4, hq3, h⟩ := obind_inv h
      refine q_callV X [0, 1, 2, 3, 4, 5, 6, 7, 8] [] (AH2 := [.inr (9, [.ref 1, .ref 2, .ref 3, .ref 4, .ref 5, .ref 6, .ref 7, .ref 8, .int (QVNq v), .int (QVNo v), .int (QVJb v), .int (QVSn v)]), .inl (0, 40, .inl (QVOw v)), .inl (0, 40, .inl (QVPr v)), .inl (0, 40, .inl (QVPg v)), .inl (0, 40, .inl (QVSt v)), .inl (0, 40, .inl (QVQu v)), .inl (0, 4, .inl (QVSp v)), .inl (0, 4, .inl (QVPd v)), .inl (2, 4, .inl (QVPs v))]) (st2 := [.int r4]) (c_L_isIn _ _ _ _ hq3) ⟨rfl, rfl⟩ rfl k_L_isIn l_L_59 rfl rfl rfl rfl rfl (fit_of hR (by decide) (by decide) (by decide) (by decide)) (Nat.le_of_ble_eq_true rfl) (by decide) rfl rfl rfl ?_
      refine r_if_eq X 44 rfl rfl (fun c6 => ?_) (fun c6 => ?_)
      · rw [if_pos c6] at h
        refine go_l 2 X (pc2 := 4) (ls2 := [some (.ref 0), some (.int l1), some (.int l2), some (.int (l3 + 1))]) (st2 := []) rfl ?_
        exact AW.eq (ih _ _ _ _ _ h) rfl rfl rfl rfl
      · rw [if_neg c6] at h
        refine go_s 3 X (pc2 := 29) (st2 := [.int l1, .int l3, .ref 0]) rfl ?_
        obtain ⟨r8, hq7, h⟩ := obind_inv h
        refine q_callV X [0, 1, 2, 3, 4, 5, 6, 7, 8] [] (AH2 := [.inr (9, [.ref 1, .ref 2, .ref 3, .ref 4, .ref 5, .ref 6, .ref 7, .ref 8, .int (QVNq v), .int (QVNo v), .int (QVJb v), .int (QVSn v)]), .inl (0, 40, .inl (QVOw v)), .inl (0, 40, .inl (QVPr v)), .inl (0, 40, .inl (QVPg v)), .inl (0, 40, .inl (QVSt v)), .inl (0, 40, .inl (QVQu v)), .inl (0, 4, .inl (QVSp v)), .inl (0, 4, .inl (QVPd v)), .inl (2, 4, .inl (QVPs v))]) (st2 := [.int r8]) (c_L_isBefore _ _ _ _ hq7) ⟨rfl, rfl⟩ rfl k_L_isBefore l_L_63 rfl rfl rfl rfl rfl (fit_of hR (by decide) (by decide) (by decide) (by decide)) (Nat.le_of_ble_eq_true rfl) (by decide) rfl rfl rfl ?_
        refine r_if_eq X 44 rfl rfl (fun c10 => ?_) (fun c10 => ?_)
        · rw [if_pos c10] at h
          refine go_l 2 X (pc2 := 4) (ls2 := [some (.ref 0), some (.int l1), some (.int l2), some (.int (l3 + 1))]) (st2 := []) rfl ?_
          exact AW.eq (ih _ _ _ _ _ h) rfl rfl rfl rfl
        · rw [if_neg c10] at h
          refine go_s 4 X (pc2 := 41) (st2 := [.int l3, .ref 3, .int l2]) rfl ?_
          by_cases b11 : oob l3 40
          · rw [if_pos b11] at h; cases h
          rw [if_neg b11] at h
          refine r_iald X rfl rfl b11 ?_
          refine go_l 4 X (pc2 := 4) (ls2 := [some (.ref 0), some (.int l1), some (.int (l2 + ((QVPg v) (Int32.toNatClampNeg l3)))), some (.int (l3 + 1))]) (st2 := []) rfl ?_
          exact AW.eq (ih _ _ _ _ _ h) rfl rfl rfl rfl
set_option maxHeartbeats 6000000 in
set_option maxRecDepth 20000 in
theorem c_L_before (v : QV) (a : Int32) (r : Int32) (h : f_L_before v a = some r) : Sem z_L_before 1 0 0 [.ref 0, .int a] (WQ v) (PST (.inl (some (.int r))) (WQ v)) := by
  refine Sem.of zo_L_before (by decide +kernel) (Nat.le_of_ble_eq_true rfl) fun κ X hE hR hN => ?_
  unfold f_L_before at h
  refine AW.eq (pc' := 0) (ls' := [some (.ref 0), some (.int a), none, none]) (st' := []) (AH' := [.inr (9, [.ref 1, .ref 2, .ref 3, .ref 4, .ref 5, .ref 6, .ref 7, .ref 8, .int (QVNq v), .int (QVNo v), .int (QVJb v), .int (QVSn v)]), .inl (0, 40, .inl (QVOw v)), .inl (0, 40, .inl (QVPr v)), .inl (0, 40, .inl (QVPg v)), .inl (0, 40, .inl (QVSt v)), .inl (0, 40, .inl (QVQu v)), .inl (0, 4, .inl (QVSp v)), .inl (0, 4, .inl (QVPd v)), .inl (2, 4, .inl (QVPs v))]) ?_ rfl rfl rfl rfl
  refine go_l 4 X (pc2 := 4) (ls2 := [some (.ref 0), some (.int a), some (.int 0), some (.int 0)]) (st2 := []) rfl ?_
  exact AW.eq (a_L_before_h4 X hR FU _ _ _ _ _ h) rfl rfl rfl rfl
set_option maxHeartbeats 6000000 in
set_option maxRecDepth 20000 in
theorem a_L_position_h4 {κ : KX} (X : CX κ z_L_position) (hR : κR κ = rmM 1 0 0) : ∀ (n : Nat) (l1 : Int32) (l2 : Int32) (l3 : Int32) (v : QV) (r : Int32) (h : f_L_position_h4 n l1 l2 l3 v = some r), AW κ (QM κ (PST (.inl (some (.int r))) (WQ v)) 0 0) 4 [some (.ref 0), some (.int l1), some (.int l2), some (.int l3)] [] (WQ v) 0 0 := by
  intro n
  induction n with
  | zero =>
    intro l1 l2 l3 v r h
    unfold f_L_position_h4 at h
    cases h
  | succ n ih =>
    intro l1 l2 l3 v r h
    unfold f_L_position_h4 at h
    refine AW.eq (pc' := 4) (ls' := [some (.ref 0), some (.int l1), some (.int l2), some (.int l3)]) (st' := []) (AH' := [.inr (9, [.ref 1, .ref 2, .ref 3, .ref 4, .ref 5, .ref 6, .ref 7, .ref 8, .int (QVNq v), .int (QVNo v), .int (QVJb v), .int (QVSn v)]), .inl (0, 40, .inl (QVOw v)), .inl (0, 40, .inl (QVPr v)), .inl (0, 40, .inl (QVPg v)), .inl (0, 40, .inl (QVSt v)), .inl (0, 40, .inl (QVQu v)), .inl (0, 4, .inl (QVSp v)), .inl (0, 4, .inl (QVPd v)), .inl (2, 4, .inl (QVPs v))]) ?_ rfl rfl rfl rfl
    refine go_s 3 X (pc2 := 9) (st2 := [.int (QVJb v), .int l3]) rfl ?_
    refine r_icmp_ge X 44 rfl rfl (fun c1 => ?_) (fun c1 => ?_)
    · rw [if_pos c1] at h
      refine go_s 1 X (pc2 := 45) (st2 := [.int l2]) rfl ?_
      cases h
      exact r_iret X rfl rfl ⟨rfl, rfl⟩ (by decide) (by decide)
    · rw [if_neg c1] at h
      refine go_s 5 X (pc2 := 19) (st2 := [.int l1, .ref 5, .int l3, .ref 0]) rfl ?_
      by_cases b2 : oob l1 40
      · rw [if_pos b2] at h; cases h
      rw [if_neg b2] at h
      refine r_iald X rfl rfl b2 ?_
      obtain ⟨r4, hq3, h⟩ := obind_inv h
      refine q_callV X [0, 1, 2, 3, 4, 5, 6, 7, 8] [] (AH2 := [.inr (9, [.ref 1, .ref 2, .ref 3, .ref 4, .ref 5, .ref 6, .ref 7, .ref 8, .int (QVNq v), .int (QVNo v), .int (QVJb v), .int (QVSn v)]), .inl (0, 40, .inl (QVOw v)), .inl (0, 40, .inl (QVPr v)), .inl (0, 40, .inl (QVPg v)), .inl (0, 40, .inl (QVSt v)), .inl (0, 40, .inl (QVQu v)), .inl (0, 4, .inl (QVSp v)), .inl (0, 4, .inl (QVPd v)), .inl (2, 4, .inl (QVPs v))]) (st2 := [.int r4]) (c_L_isIn _ _ _ _ hq3) ⟨rfl, rfl⟩ rfl k_L_isIn l_L_59 rfl rfl rfl rfl rfl (fit_of hR (by decide) (by decide) (by decide) (by decide)) (Nat.le_of_ble_eq_true rfl) (by decide) rfl rfl rfl ?_
      refine r_if_eq X 38 rfl rfl (fun c6 => ?_) (fun c6 => ?_)
      · rw [if_pos c6] at h
        refine go_l 2 X (pc2 := 4) (ls2 := [some (.ref 0), some (.int l1), some (.int l2), some (.int (l3 + 1))]) (st2 := []) rfl ?_
        exact AW.eq (ih _ _ _ _ _ h) rfl rfl rfl rfl
      · rw [if_neg c6] at h
        refine go_s 3 X (pc2 := 29) (st2 := [.int l1, .int l3, .ref 0]) rfl ?_
        obtain ⟨r8, hq7, h⟩ := obind_inv h
        refine q_callV X [0, 1, 2, 3, 4, 5, 6, 7, 8] [] (AH2 := [.inr (9, [.ref 1, .ref 2, .ref 3, .ref 4, .ref 5, .ref 6, .ref 7, .ref 8, .int (QVNq v), .int (QVNo v), .int (QVJb v), .int (QVSn v)]), .inl (0, 40, .inl (QVOw v)), .inl (0, 40, .inl (QVPr v)), .inl (0, 40, .inl (QVPg v)), .inl (0, 40, .inl (QVSt v)), .inl (0, 40, .inl (QVQu v)), .inl (0, 4, .inl (QVSp v)), .inl (0, 4, .inl (QVPd v)), .inl (2, 4, .inl (QVPs v))]) (st2 := [.int r8]) (c_L_isBefore _ _ _ _ hq7) ⟨rfl, rfl⟩ rfl k_L_isBefore l_L_63 rfl rfl rfl rfl rfl (fit_of hR (by decide) (by decide) (by decide) (by decide)) (Nat.le_of_ble_eq_true rfl) (by decide) rfl rfl rfl ?_
        refine r_if_eq X 38 rfl rfl (fun c10 => ?_) (fun c10 => ?_)
        · rw [if_pos c10] at h
          refine go_l 2 X (pc2 := 4) (ls2 := [some (.ref 0), some (.int l1), some (.int l2), some (.int (l3 + 1))]) (st2 := []) rfl ?_
          exact AW.eq (ih _ _ _ _ _ h) rfl rfl rfl rfl
        · rw [if_neg c10] at h
          refine go_l 3 X (pc2 := 4) (ls2 := [some (.ref 0), some (.int l1), some (.int (l2 + 1)), some (.int (l3 + 1))]) (st2 := []) rfl ?_
          exact AW.eq (ih _ _ _ _ _ h) rfl rfl rfl rfl
set_option maxHeartbeats 6000000 in
set_option maxRecDepth 20000 in
theorem c_L_position (v : QV) (a : Int32) (r : Int32) (h : f_L_position v a = some r) : Sem z_L_position 1 0 0 [.ref 0, .int a] (WQ v) (PST (.inl (some (.int r))) (WQ v)) := by
  refine Sem.of zo_L_position (by decide +kernel) (Nat.le_of_ble_eq_true rfl) fun κ X hE hR hN => ?_
  unfold f_L_position at h
  refine AW.eq (pc' := 0) (ls' := [some (.ref 0), some (.int a), none, none]) (st' := []) (AH' := [.inr (9, [.ref 1, .ref 2, .ref 3, .ref 4, .ref 5, .ref 6, .ref 7, .ref 8, .int (QVNq v), .int (QVNo v), .int (QVJb v), .int (QVSn v)]), .inl (0, 40, .inl (QVOw v)), .inl (0, 40, .inl (QVPr v)), .inl (0, 40, .inl (QVPg v)), .inl (0, 40, .inl (QVSt v)), .inl (0, 40, .inl (QVQu v)), .inl (0, 4, .inl (QVSp v)), .inl (0, 4, .inl (QVPd v)), .inl (2, 4, .inl (QVPs v))]) ?_ rfl rfl rfl rfl
  refine go_l 4 X (pc2 := 4) (ls2 := [some (.ref 0), some (.int a), some (.int 0), some (.int 0)]) (st2 := []) rfl ?_
  exact AW.eq (a_L_position_h4 X hR FU _ _ _ _ _ h) rfl rfl rfl rfl
set_option maxHeartbeats 6000000 in
set_option maxRecDepth 20000 in
theorem a_L_first_h4 {κ : KX} (X : CX κ z_L_first) (hR : κR κ = rmM 1 0 0) : ∀ (n : Nat) (l1 : Int32) (l2 : Int32) (l3 : Int32) (v : QV) (r : Int32) (h : f_L_first_h4 n l1 l2 l3 v = some r), AW κ (QM κ (PST (.inl (some (.int r))) (WQ v)) 0 0) 4 [some (.ref 0), some (.int l1), some (.int l2), some (.int l3)] [] (WQ v) 0 0 := by
  intro n
  induction n with
  | zero =>
    intro l1 l2 l3 v r h
    unfold f_L_first_h4 at h
    cases h
  | succ n ih =>
    intro l1 l2 l3 v r h
    unfold f_L_first_h4 at h
    refine AW.eq (pc' := 4) (ls' := [some (.ref 0), some (.int l1), some (.int l2), some (.int l3)]) (st' := []) (AH' := [.inr (9, [.ref 1, .ref 2, .ref 3, .ref 4, .ref 5, .ref 6, .ref 7, .ref 8, .int (QVNq v), .int (QVNo v), .int (QVJb v), .int (QVSn v)]), .inl (0, 40, .inl (QVOw v)), .inl (0, 40, .inl (QVPr v)), .inl (0, 40, .inl (QVPg v)), .inl (0, 40, .inl (QVSt v)), .inl (0, 40, .inl (QVQu v)), .inl (0, 4, .inl (QVSp v)), .inl (0, 4, .inl (QVPd v)), .inl (2, 4, .inl (QVPs v))]) ?_ rfl rfl rfl rfl
    refine go_s 3 X (pc2 := 9) (st2 := [.int (QVJb v), .int l3]) rfl ?_
    refine r_icmp_ge X 42 rfl rfl (fun c1 => ?_) (fun c1 => ?_)
    · rw [if_pos c1] at h
      refine go_s 1 X (pc2 := 43) (st2 := [.int l2]) rfl ?_
      cases h
      exact r_iret X rfl rfl ⟨rfl, rfl⟩ (by decide) (by decide)
    · rw [if_neg c1] at h
      refine go_s 3 X (pc2 := 15) (st2 := [.int l1, .int l3, .ref 0]) rfl ?_
      obtain ⟨r3, hq2, h⟩ := obind_inv h
      refine q_callV X [0, 1, 2, 3, 4, 5, 6, 7, 8] [] (AH2 := [.inr (9, [.ref 1, .ref 2, .ref 3, .ref 4, .ref 5, .ref 6, .ref 7, .ref 8, .int (QVNq v), .int (QVNo v), .int (QVJb v), .int (QVSn v)]), .inl (0, 40, .inl (QVOw v)), .inl (0, 40, .inl (QVPr v)), .inl (0, 40, .inl (QVPg v)), .inl (0, 40, .inl (QVSt v)), .inl (0, 40, .inl (QVQu v)), .inl (0, 4, .inl (QVSp v)), .inl (0, 4, .inl (QVPd v)), .inl (2, 4, .inl (QVPs v))]) (st2 := [.int r3]) (c_L_isIn _ _ _ _ hq2) ⟨rfl, rfl⟩ rfl k_L_isIn l_L_59 rfl rfl rfl rfl rfl (fit_of hR (by decide) (by decide) (by decide) (by decide)) (Nat.le_of_ble_eq_true rfl) (by decide) rfl rfl rfl ?_
      refine r_if_eq X 36 rfl rfl (fun c5 => ?_) (fun c5 => ?_)
      · rw [if_pos c5] at h
        refine go_l 2 X (pc2 := 4) (ls2 := [some (.ref 0), some (.int l1), some (.int l2), some (.int (l3 + 1))]) (st2 := []) rfl ?_
        exact AW.eq (ih _ _ _ _ _ h) rfl rfl rfl rfl
      · rw [if_neg c5] at h
        refine go_s 1 X (pc2 := 22) (st2 := [.int l2]) rfl ?_
        refine r_if_lt X 34 rfl rfl (fun c6 => ?_) (fun c6 => ?_)
        · rw [if_pos c6] at h
          refine go_l 4 X (pc2 := 4) (ls2 := [some (.ref 0), some (.int l1), some (.int l3), some (.int (l3 + 1))]) (st2 := []) rfl ?_
          exact AW.eq (ih _ _ _ _ _ h) rfl rfl rfl rfl
        · rw [if_neg c6] at h
          refine go_s 3 X (pc2 := 28) (st2 := [.int l2, .int l3, .ref 0]) rfl ?_
          obtain ⟨r8, hq7, h⟩ := obind_inv h
          refine q_callV X [0, 1, 2, 3, 4, 5, 6, 7, 8] [] (AH2 := [.inr (9, [.ref 1, .ref 2, .ref 3, .ref 4, .ref 5, .ref 6, .ref 7, .ref 8, .int (QVNq v), .int (QVNo v), .int (QVJb v), .int (QVSn v)]), .inl (0, 40, .inl (QVOw v)), .inl (0, 40, .inl (QVPr v)), .inl (0, 40, .inl (QVPg v)), .inl (0, 40, .inl (QVSt v)), .inl (0, 40, .inl (QVQu v)), .inl (0, 4, .inl (QVSp v)), .inl (0, 4, .inl (QVPd v)), .inl (2, 4, .inl (QVPs v))]) (st2 := [.int r8]) (c_L_isBefore _ _ _ _ hq7) ⟨rfl, rfl⟩ rfl k_L_isBefore l_L_63 rfl rfl rfl rfl rfl (fit_of hR (by decide) (by decide) (by decide) (by decide)) (Nat.le_of_ble_eq_true rfl) (by decide) rfl rfl rfl ?_
          refine r_if_eq X 36 rfl rfl (fun c10 => ?_) (fun c10 => ?_)
          · rw [if_pos c10] at h
            refine go_l 2 X (pc2 := 4) (ls2 := [some (.ref 0), some (.int l1), some (.int l2), some (.int (l3 + 1))]) (st2 := []) rfl ?_
            exact AW.eq (ih _ _ _ _ _ h) rfl rfl rfl rfl
          · rw [if_neg c10] at h
            refine go_l 4 X (pc2 := 4) (ls2 := [some (.ref 0), some (.int l1), some (.int l3), some (.int (l3 + 1))]) (st2 := []) rfl ?_
            exact AW.eq (ih _ _ _ _ _ h) rfl rfl rfl rfl
set_option maxHeartbeats 6000000 in
set_option maxRecDepth 20000 in
theorem c_L_first (v : QV) (a : Int32) (r : Int32) (h : f_L_first v a = some r) : Sem z_L_first 1 0 0 [.ref 0, .int a] (WQ v) (PST (.inl (some (.int r))) (WQ v)) := by
  refine Sem.of zo_L_first (by decide +kernel) (Nat.le_of_ble_eq_true rfl) fun κ X hE hR hN => ?_
  unfold f_L_first at h
  refine AW.eq (pc' := 0) (ls' := [some (.ref 0), some (.int a), none, none]) (st' := []) (AH' := [.inr (9, [.ref 1, .ref 2, .ref 3, .ref 4, .ref 5, .ref 6, .ref 7, .ref 8, .int (QVNq v), .int (QVNo v), .int (QVJb v), .int (QVSn v)]), .inl (0, 40, .inl (QVOw v)), .inl (0, 40, .inl (QVPr v)), .inl (0, 40, .inl (QVPg v)), .inl (0, 40, .inl (QVSt v)), .inl (0, 40, .inl (QVQu v)), .inl (0, 4, .inl (QVSp v)), .inl (0, 4, .inl (QVPd v)), .inl (2, 4, .inl (QVPs v))]) ?_ rfl rfl rfl rfl
  refine go_l 4 X (pc2 := 4) (ls2 := [some (.ref 0), some (.int a), some (.int (-1)), some (.int 0)]) (st2 := []) rfl ?_
  exact AW.eq (a_L_first_h4 X hR FU _ _ _ _ _ h) rfl rfl rfl rfl
set_option maxHeartbeats 6000000 in
set_option maxRecDepth 20000 in
theorem a_L_size_h4 {κ : KX} (X : CX κ z_L_size) (hR : κR κ = rmM 1 0 0) : ∀ (n : Nat) (l1 : Int32) (l2 : Int32) (l3 : Int32) (v : QV) (r : Int32) (h : f_L_size_h4 n l1 l2 l3 v = some r), AW κ (QM κ (PST (.inl (some (.int r))) (WQ v)) 0 0) 4 [some (.ref 0), some (.int l1), some (.int l2), some (.int l3)] [] (WQ v) 0 0 := by
  intro n
  induction n with
  | zero =>
    intro l1 l2 l3 v r h
    unfold f_L_size_h4 at h
    cases h
  | succ n ih =>
    intro l1 l2 l3 v r h
    unfold f_L_size_h4 at h
    refine AW.eq (pc' := 4) (ls' := [some (.ref 0), some (.int l1), some (.int l2), some (.int l3)]) (st' := []) (AH' := [.inr (9, [.ref 1, .ref 2, .ref 3, .ref 4, .ref 5, .ref 6, .ref 7, .ref 8, .int (QVNq v), .int (QVNo v), .int (QVJb v), .int (QVSn v)]), .inl (0, 40, .inl (QVOw v)), .inl (0, 40, .inl (QVPr v)), .inl (0, 40, .inl (QVPg v)), .inl (0, 40, .inl (QVSt v)), .inl (0, 40, .inl (QVQu v)), .inl (0, 4, .inl (QVSp v)), .inl (0, 4, .inl (QVPd v)), .inl (2, 4, .inl (QVPs v))]) ?_ rfl rfl rfl rfl
    refine go_s 3 X (pc2 := 9) (st2 := [.int (QVJb v), .int l3]) rfl ?_
    refine r_icmp_ge X 30 rfl rfl (fun c1 => ?_) (fun c1 => ?_)
    · rw [if_pos c1] at h
      refine go_s 1 X (pc2 := 31) (st2 := [.int l2]) rfl ?_
      cases h
      exact r_iret X rfl rfl ⟨rfl, rfl⟩ (by decide) (by decide)
    · rw [if_neg c1] at h
      refine go_s 3 X (pc2 := 15) (st2 := [.int l1, .int l3, .ref 0]) rfl ?_
      obtain ⟨r3, hq2, h⟩ := obind_inv h
      refine q_callV X [0, 1, 2, 3, 4, 5, 6, 7, 8] [] (AH2 := [.inr (9, [.ref 1, .ref 2, .ref 3, .ref 4, .ref 5, .ref 6, .ref 7, .ref 8, .int (QVNq v), .int (QVNo v), .int (QVJb v), .int (QVSn v)]), .inl (0, 40, .inl (QVOw v)), .inl (0, 40, .inl (QVPr v)), .inl (0, 40, .inl (QVPg v)), .inl (0, 40, .inl (QVSt v)), .inl (0, 40, .inl (QVQu v)), .inl (0, 4, .inl (QVSp v)), .inl (0, 4, .inl (QVPd v)), .inl (2, 4, .inl (QVPs v))]) (st2 := [.int r3]) (c_L_isIn _ _ _ _ hq2) ⟨rfl, rfl⟩ rfl k_L_isIn l_L_59 rfl rfl rfl rfl rfl (fit_of hR (by decide) (by decide) (by decide) (by decide)) (Nat.le_of_ble_eq_true rfl) (by decide) rfl rfl rfl ?_
      refine r_if_eq X 24 rfl rfl (fun c5 => ?_) (fun c5 => ?_)
      · rw [if_pos c5] at h
        refine go_l 2 X (pc2 := 4) (ls2 := [some (.ref 0), some (.int l1), some (.int l2), some (.int (l3 + 1))]) (st2 := []) rfl ?_
        exact AW.eq (ih _ _ _ _ _ h) rfl rfl rfl rfl
      · rw [if_neg c5] at h
        refine go_l 3 X (pc2 := 4) (ls2 := [some (.ref 0), some (.int l1), some (.int (l2 + 1)), some (.int (l3 + 1))]) (st2 := []) rfl ?_
        exact AW.eq (ih _ _ _ _ _ h) rfl rfl rfl rfl
set_option maxHeartbeats 6000000 in
set_option maxRecDepth 20000 in
theorem c_L_size (v : QV) (a : Int32) (r : Int32) (h : f_L_size v a = some r) : Sem z_L_size 1 0 0 [.ref 0, .int a] (WQ v) (PST (.inl (some (.int r))) (WQ v)) := by
  refine Sem.of zo_L_size (by decide +kernel) (Nat.le_of_ble_eq_true rfl) fun κ X hE hR hN => ?_
  unfold f_L_size at h
  refine AW.eq (pc' := 0) (ls' := [some (.ref 0), some (.int a), none, none]) (st' := []) (AH' := [.inr (9, [.ref 1, .ref 2, .ref 3, .ref 4, .ref 5, .ref 6, .ref 7, .ref 8, .int (QVNq v), .int (QVNo v), .int (QVJb v), .int (QVSn v)]), .inl (0, 40, .inl (QVOw v)), .inl (0, 40, .inl (QVPr v)), .inl (0, 40, .inl (QVPg v)), .inl (0, 40, .inl (QVSt v)), .inl (0, 40, .inl (QVQu v)), .inl (0, 4, .inl (QVSp v)), .inl (0, 4, .inl (QVPd v)), .inl (2, 4, .inl (QVPs v))]) ?_ rfl rfl rfl rfl
  refine go_l 4 X (pc2 := 4) (ls2 := [some (.ref 0), some (.int a), some (.int 0), some (.int 0)]) (st2 := []) rfl ?_
  exact AW.eq (a_L_size_h4 X hR FU _ _ _ _ _ h) rfl rfl rfl rfl
set_option maxHeartbeats 6000000 in
set_option maxRecDepth 20000 in
theorem c_L_bits (a : Int32) (b : Int32) (c : Int32) (r : Int32) (h : f_L_bits a b c = some r) : Sem z_L_bits 0 0 0 [.int a, .int b, .int c] [] (PST (.inl (some (.int r))) []) := by
  refine Sem.of zo_L_bits (by decide +kernel) (Nat.le_of_ble_eq_true rfl) fun κ X hE hR hN => ?_
  unfold f_L_bits at h
  refine AW.eq (pc' := 0) (ls' := [some (.int a), some (.int b), some (.int c)]) (st' := []) (AH' := []) ?_ rfl rfl rfl rfl
  refine go_s 5 X (pc2 := 5) (st2 := [.int c, .int 1, .int ((Int32.toUInt32 a >>> (Int32.toUInt32 b &&& Int32.toUInt32 31)).toInt32)]) rfl ?_
  refine r_ishl X rfl ?_
  refine go_s 3 X (pc2 := 9) (st2 := [.int (((Int32.toUInt32 a >>> (Int32.toUInt32 b &&& Int32.toUInt32 31)).toInt32) &&& ((1 <<< (c &&& 31)) - 1))]) rfl ?_
  cases h
  exact r_iret X rfl rfl ⟨rfl, rfl⟩ (by decide) (by decide)
