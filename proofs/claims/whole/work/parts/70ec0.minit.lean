/-! ===== 70ec0: the reference's constructor, from its names on (gen72.py) ===== -/
set_option maxHeartbeats 8000000 in
set_option maxRecDepth 20000 in
theorem i_X9b {κ : KX} (X : CX κ z_X9_init) (hR : κR κ = rmM 65 10 6560) (v0 : MV) (r : Unit) (w : MV) (h : ini9 v0 = some (r, w)) : AW κ (QM κ (PST (.inl none) (WM w ++ [.inl (0, 24, .inl jb24)])) 10 6560) 88 [some (.ref 0), none, none, none, none, none] [] (WM v0) 9 6536 := by
  unfold ini9 at h
  refine AW.eq (pc' := 88) (ls' := [some (.ref 0), none, none, none, none, none]) (st' := []) (AH' := [.inr (9, [.ref 1, .ref 2, .ref 3, .ref 4, .int (MVPc v0), .int (MVIs v0), .int (MVTh v0), .ref 5, .int (MVSl v0), .ref 6, .int (MVLn v0), .int (MVEc v0), .int (MVEo v0), .int (MVSa v0), .int (MVEn v0), .int (MVTk v0), .int (MVVa v0), .int (MVFa v0), .int (MVFo v0), .ref 7, .int (MVSc v0), .ref 8, .ref 9, .int (MVOl v0)]), .inl (0, 500, .inl (MVSt v0)), .inl (0, 500, .inl (MVAs v0)), .inl (0, 500, .inl (MVSv v0)), .inl (0, 4000, .inl (MVPt v0)), .inl (0, 6, .inl (MVSp v0)), .inl (3, 600, .inl (MVBf v0)), .inl (0, 150, .inl (MVSm v0)), .inl (0, 40, .inl (MVOr v0)), .inl (3, 240, .inl (MVOu v0))]) ?_ rfl rfl rfl rfl
  refine r_ldcS X 26 rfl rfl ?_
  refine go_l 5 X (pc2 := 95) (ls2 := [some (.ref 0), some (.ref (SB + 26)), some (.int 0), some (.int 0), none, none]) (st2 := []) rfl ?_
  refine go_s 2 X (pc2 := 97) (st2 := [.int 4, .int 0]) rfl ?_
  refine r_icmp_ge X 180 rfl rfl (fun h => absurd h (by decide)) (fun _ => ?_)
  refine go_l 2 X (pc2 := 103) (ls2 := [some (.ref 0), some (.ref (SB + 26)), some (.int 0), some (.int 0), some (.int 0), none]) (st2 := []) rfl ?_
  refine go_s 2 X (pc2 := 106) (st2 := [.int 0, .ref (SB + 26)]) rfl ?_
  refine r_schar X (i := 26) (j := 0) rfl (by decide +kernel) (by decide) hR (by decide) (by decide) (by decide) (Nat.le_of_ble_eq_true rfl) (by decide) ?_
  rw [show schar 26 (Int32.toNatClampNeg 0) = 102 from by decide +kernel]
  refine go_s 1 X (pc2 := 111) (st2 := [.int 32, .int 102]) rfl ?_
  refine r_icmp_eq X 135 rfl rfl (fun h => absurd h (by decide)) (fun _ => ?_)
  refine go_s 7 X (pc2 := 125) (st2 := [.int 0, .ref (SB + 26), .int 0, .ref 5]) rfl ?_
  refine r_schar X (i := 26) (j := 0) rfl (by decide +kernel) (by decide) hR (by decide) (by decide) (by decide) (Nat.le_of_ble_eq_true rfl) (by decide) ?_
  rw [show schar 26 (Int32.toNatClampNeg 0) = 102 from by decide +kernel]
  refine r_iast X (o := 5) (n := 6) (f := (MVSp v0)) rfl rfl (show ¬ oob 0 6 by decide) ?_
  refine AW.eq (pc' := 129) (ls' := [some (.ref 0), some (.ref (SB + 26)), some (.int 0), some (.int 0), some (.int 0), none]) (st' := []) (AH' := [.inr (9, [.ref 1, .ref 2, .ref 3, .ref 4, .int (MVPc v0), .int (MVIs v0), .int (MVTh v0), .ref 5, .int (MVSl v0), .ref 6, .int (MVLn v0), .int (MVEc v0), .int (MVEo v0), .int (MVSa v0), .int (MVEn v0), .int (MVTk v0), .int (MVVa v0), .int (MVFa v0), .int (MVFo v0), .ref 7, .int (MVSc v0), .ref 8, .ref 9, .int (MVOl v0)]), .inl (0, 500, .inl (MVSt v0)), .inl (0, 500, .inl (MVAs v0)), .inl (0, 500, .inl (MVSv v0)), .inl (0, 4000, .inl (MVPt v0)), .inl (0, 6, .inl (upd (MVSp v0) 0 102)), .inl (3, 600, .inl (MVBf v0)), .inl (0, 150, .inl (MVSm v0)), .inl (0, 40, .inl (MVOr v0)), .inl (3, 240, .inl (MVOu v0))]) ?_ rfl rfl rfl rfl
  refine go_l 2 X (pc2 := 103) (ls2 := [some (.ref 0), some (.ref (SB + 26)), some (.int 0), some (.int 0), some (.int 1), none]) (st2 := []) rfl ?_
  refine go_s 2 X (pc2 := 106) (st2 := [.int 1, .ref (SB + 26)]) rfl ?_
  refine r_schar X (i := 26) (j := 1) rfl (by decide +kernel) (by decide) hR (by decide) (by decide) (by decide) (Nat.le_of_ble_eq_true rfl) (by decide) ?_
  rw [show schar 26 (Int32.toNatClampNeg 1) = 97 from by decide +kernel]
  refine go_s 1 X (pc2 := 111) (st2 := [.int 32, .int 97]) rfl ?_
  refine r_icmp_eq X 135 rfl rfl (fun h => absurd h (by decide)) (fun _ => ?_)
  refine go_s 7 X (pc2 := 125) (st2 := [.int 1, .ref (SB + 26), .int 1, .ref 5]) rfl ?_
  refine r_schar X (i := 26) (j := 1) rfl (by decide +kernel) (by decide) hR (by decide) (by decide) (by decide) (Nat.le_of_ble_eq_true rfl) (by decide) ?_
  rw [show schar 26 (Int32.toNatClampNeg 1) = 97 from by decide +kernel]
  refine r_iast X (o := 5) (n := 6) (f := (upd (MVSp v0) 0 102)) rfl rfl (show ¬ oob 1 6 by decide) ?_
  refine AW.eq (pc' := 129) (ls' := [some (.ref 0), some (.ref (SB + 26)), some (.int 0), some (.int 0), some (.int 1), none]) (st' := []) (AH' := [.inr (9, [.ref 1, .ref 2, .ref 3, .ref 4, .int (MVPc v0), .int (MVIs v0), .int (MVTh v0), .ref 5, .int (MVSl v0), .ref 6, .int (MVLn v0), .int (MVEc v0), .int (MVEo v0), .int (MVSa v0), .int (MVEn v0), .int (MVTk v0), .int (MVVa v0), .int (MVFa v0), .int (MVFo v0), .ref 7, .int (MVSc v0), .ref 8, .ref 9, .int (MVOl v0)]), .inl (0, 500, .inl (MVSt v0)), .inl (0, 500, .inl (MVAs v0)), .inl (0, 500, .inl (MVSv v0)), .inl (0, 4000, .inl (MVPt v0)), .inl (0, 6, .inl (upd (upd (MVSp v0) 0 102) 1 97)), .inl (3, 600, .inl (MVBf v0)), .inl (0, 150, .inl (MVSm v0)), .inl (0, 40, .inl (MVOr v0)), .inl (3, 240, .inl (MVOu v0))]) ?_ rfl rfl rfl rfl
  refine go_l 2 X (pc2 := 103) (ls2 := [some (.ref 0), some (.ref (SB + 26)), some (.int 0), some (.int 0), some (.int 2), none]) (st2 := []) rfl ?_
  refine go_s 2 X (pc2 := 106) (st2 := [.int 2, .ref (SB + 26)]) rfl ?_
  refine r_schar X (i := 26) (j := 2) rfl (by decide +kernel) (by decide) hR (by decide) (by decide) (by decide) (Nat.le_of_ble_eq_true rfl) (by decide) ?_
  rw [show schar 26 (Int32.toNatClampNeg 2) = 115 from by decide +kernel]
  refine go_s 1 X (pc2 := 111) (st2 := [.int 32, .int 115]) rfl ?_
  refine r_icmp_eq X 135 rfl rfl (fun h => absurd h (by decide)) (fun _ => ?_)
  refine go_s 7 X (pc2 := 125) (st2 := [.int 2, .ref (SB + 26), .int 2, .ref 5]) rfl ?_
  refine r_schar X (i := 26) (j := 2) rfl (by decide +kernel) (by decide) hR (by decide) (by decide) (by decide) (Nat.le_of_ble_eq_true rfl) (by decide) ?_
  rw [show schar 26 (Int32.toNatClampNeg 2) = 115 from by decide +kernel]
  refine r_iast X (o := 5) (n := 6) (f := (upd (upd (MVSp v0) 0 102) 1 97)) rfl rfl (show ¬ oob 2 6 by decide) ?_
  refine AW.eq (pc' := 129) (ls' := [some (.ref 0), some (.ref (SB + 26)), some (.int 0), some (.int 0), some (.int 2), none]) (st' := []) (AH' := [.inr (9, [.ref 1, .ref 2, .ref 3, .ref 4, .int (MVPc v0), .int (MVIs v0), .int (MVTh v0), .ref 5, .int (MVSl v0), .ref 6, .int (MVLn v0), .int (MVEc v0), .int (MVEo v0), .int (MVSa v0), .int (MVEn v0), .int (MVTk v0), .int (MVVa v0), .int (MVFa v0), .int (MVFo v0), .ref 7, .int (MVSc v0), .ref 8, .ref 9, .int (MVOl v0)]), .inl (0, 500, .inl (MVSt v0)), .inl (0, 500, .inl (MVAs v0)), .inl (0, 500, .inl (MVSv v0)), .inl (0, 4000, .inl (MVPt v0)), .inl (0, 6, .inl (upd (upd (upd (MVSp v0) 0 102) 1 97) 2 115)), .inl (3, 600, .inl (MVBf v0)), .inl (0, 150, .inl (MVSm v0)), .inl (0, 40, .inl (MVOr v0)), .inl (3, 240, .inl (MVOu v0))]) ?_ rfl rfl rfl rfl
  refine go_l 2 X (pc2 := 103) (ls2 := [some (.ref 0), some (.ref (SB + 26)), some (.int 0), some (.int 0), some (.int 3), none]) (st2 := []) rfl ?_
  refine go_s 2 X (pc2 := 106) (st2 := [.int 3, .ref (SB + 26)]) rfl ?_
  refine r_schar X (i := 26) (j := 3) rfl (by decide +kernel) (by decide) hR (by decide) (by decide) (by decide) (Nat.le_of_ble_eq_true rfl) (by decide) ?_
  rw [show schar 26 (Int32.toNatClampNeg 3) = 116 from by decide +kernel]
  refine go_s 1 X (pc2 := 111) (st2 := [.int 32, .int 116]) rfl ?_
  refine r_icmp_eq X 135 rfl rfl (fun h => absurd h (by decide)) (fun _ => ?_)
  refine go_s 7 X (pc2 := 125) (st2 := [.int 3, .ref (SB + 26), .int 3, .ref 5]) rfl ?_
  refine r_schar X (i := 26) (j := 3) rfl (by decide +kernel) (by decide) hR (by decide) (by decide) (by decide) (Nat.le_of_ble_eq_true rfl) (by decide) ?_
  rw [show schar 26 (Int32.toNatClampNeg 3) = 116 from by decide +kernel]
  refine r_iast X (o := 5) (n := 6) (f := (upd (upd (upd (MVSp v0) 0 102) 1 97) 2 115)) rfl rfl (show ¬ oob 3 6 by decide) ?_
  refine AW.eq (pc' := 129) (ls' := [some (.ref 0), some (.ref (SB + 26)), some (.int 0), some (.int 0), some (.int 3), none]) (st' := []) (AH' := [.inr (9, [.ref 1, .ref 2, .ref 3, .ref 4, .int (MVPc v0), .int (MVIs v0), .int (MVTh v0), .ref 5, .int (MVSl v0), .ref 6, .int (MVLn v0), .int (MVEc v0), .int (MVEo v0), .int (MVSa v0), .int (MVEn v0), .int (MVTk v0), .int (MVVa v0), .int (MVFa v0), .int (MVFo v0), .ref 7, .int (MVSc v0), .ref 8, .ref 9, .int (MVOl v0)]), .inl (0, 500, .inl (MVSt v0)), .inl (0, 500, .inl (MVAs v0)), .inl (0, 500, .inl (MVSv v0)), .inl (0, 4000, .inl (MVPt v0)), .inl (0, 6, .inl (upd (upd (upd (upd (MVSp v0) 0 102) 1 97) 2 115) 3 116)), .inl (3, 600, .inl (MVBf v0)), .inl (0, 150, .inl (MVSm v0)), .inl (0, 40, .inl (MVOr v0)), .inl (3, 240, .inl (MVOu v0))]) ?_ rfl rfl rfl rfl
  refine go_l 2 X (pc2 := 103) (ls2 := [some (.ref 0), some (.ref (SB + 26)), some (.int 0), some (.int 0), some (.int 4), none]) (st2 := []) rfl ?_
  refine go_s 2 X (pc2 := 106) (st2 := [.int 4, .ref (SB + 26)]) rfl ?_
  refine r_schar X (i := 26) (j := 4) rfl (by decide +kernel) (by decide) hR (by decide) (by decide) (by decide) (Nat.le_of_ble_eq_true rfl) (by decide) ?_
  rw [show schar 26 (Int32.toNatClampNeg 4) = 32 from by decide +kernel]
  refine go_s 1 X (pc2 := 111) (st2 := [.int 32, .int 32]) rfl ?_
  refine r_icmp_eq X 135 rfl rfl (fun _ => ?_) (fun h => absurd (by decide) h)
  refine go 5 X (pc2 := 143) (ls2 := [some (.ref 0), some (.ref (SB + 26)), some (.int 0), some (.int 0), some (.int 4), none]) (st2 := []) (AH2 := [.inr (9, [.ref 1, .ref 2, .ref 3, .ref 4, .int (MVPc v0), .int (MVIs v0), .int (MVTh v0), .ref 5, .int 4, .ref 6, .int (MVLn v0), .int (MVEc v0), .int (MVEo v0), .int (MVSa v0), .int (MVEn v0), .int (MVTk v0), .int (MVVa v0), .int (MVFa v0), .int (MVFo v0), .ref 7, .int (MVSc v0), .ref 8, .ref 9, .int (MVOl v0)]), .inl (0, 500, .inl (MVSt v0)), .inl (0, 500, .inl (MVAs v0)), .inl (0, 500, .inl (MVSv v0)), .inl (0, 4000, .inl (MVPt v0)), .inl (0, 6, .inl (upd (upd (upd (upd (MVSp v0) 0 102) 1 97) 2 115) 3 116)), .inl (3, 600, .inl (MVBf v0)), .inl (0, 150, .inl (MVSm v0)), .inl (0, 40, .inl (MVOr v0)), .inl (3, 240, .inl (MVOu v0))]) rfl ?_
  refine go_l 4 X (pc2 := 148) (ls2 := [some (.ref 0), some (.ref (SB + 26)), some (.int 5), some (.int 0), some (.int 4), none]) (st2 := []) rfl ?_
  refine go_s 2 X (pc2 := 150) (st2 := [.int 2, .int 0]) rfl ?_
  obtain ⟨r1, v1, hq1, h⟩ := bnd2_inv h
  refine r_icmp_ge X 170 rfl rfl (fun h => absurd h (by decide)) (fun _ => ?_)
  refine go_s 2 X (pc2 := 155) (st2 := [.int 0, .ref 0]) rfl ?_
  refine r_if_ne X 163 rfl rfl (fun h => absurd rfl h) (fun _ => ?_)
  refine go_s 2 X (pc2 := 164) (st2 := [.int 20, .ref 0]) rfl ?_
  refine q_callV X [0, 1, 2, 3, 4, 5, 6, 7, 8, 9] [] (AH2 := [.inr (9, [.ref 1, .ref 2, .ref 3, .ref 4, .int (MVPc v1), .int (MVIs v1), .int (MVTh v1), .ref 5, .int (MVSl v1), .ref 6, .int (MVLn v1), .int (MVEc v1), .int (MVEo v1), .int (MVSa v1), .int (MVEn v1), .int (MVTk v1), .int (MVVa v1), .int (MVFa v1), .int (MVFo v1), .ref 7, .int (MVSc v1), .ref 8, .ref 9, .int (MVOl v1)]), .inl (0, 500, .inl (MVSt v1)), .inl (0, 500, .inl (MVAs v1)), .inl (0, 500, .inl (MVSv v1)), .inl (0, 4000, .inl (MVPt v1)), .inl (0, 6, .inl (MVSp v1)), .inl (3, 600, .inl (MVBf v1)), .inl (0, 150, .inl (MVSm v1)), .inl (0, 40, .inl (MVOr v1)), .inl (3, 240, .inl (MVOu v1))]) (st2 := []) (c_X9_addQueue _ _ _ _ hq1) ⟨rfl, rfl⟩ rfl k_X9_addQueue l_X9_53 rfl rfl rfl rfl rfl (fit_of hR (by decide) (by decide) (by decide) (by decide)) (Nat.le_of_ble_eq_true rfl) (by decide) rfl rfl rfl ?_
  refine go_l 3 X (pc2 := 95) (ls2 := [some (.ref 0), some (.ref (SB + 26)), some (.int 5), some (.int 1), some (.int 4), none]) (st2 := []) rfl ?_
  refine go_s 2 X (pc2 := 97) (st2 := [.int 4, .int 1]) rfl ?_
  refine r_icmp_ge X 180 rfl rfl (fun h => absurd h (by decide)) (fun _ => ?_)
  refine go_l 2 X (pc2 := 103) (ls2 := [some (.ref 0), some (.ref (SB + 26)), some (.int 5), some (.int 1), some (.int 5), none]) (st2 := []) rfl ?_
  refine go_s 2 X (pc2 := 106) (st2 := [.int 5, .ref (SB + 26)]) rfl ?_
  refine r_schar X (i := 26) (j := 5) rfl (by decide +kernel) (by decide) hR (by decide) (by decide) (by decide) (Nat.le_of_ble_eq_true rfl) (by decide) ?_
  rw [show schar 26 (Int32.toNatClampNeg 5) = 115 from by decide +kernel]
  refine go_s 1 X (pc2 := 111) (st2 := [.int 32, .int 115]) rfl ?_
  refine r_icmp_eq X 135 rfl rfl (fun h => absurd h (by decide)) (fun _ => ?_)
  refine go_s 7 X (pc2 := 125) (st2 := [.int 5, .ref (SB + 26), .int 0, .ref 5]) rfl ?_
  refine r_schar X (i := 26) (j := 5) rfl (by decide +kernel) (by decide) hR (by decide) (by decide) (by decide) (Nat.le_of_ble_eq_true rfl) (by decide) ?_
  rw [show schar 26 (Int32.toNatClampNeg 5) = 115 from by decide +kernel]
  refine r_iast X (o := 5) (n := 6) (f := (MVSp v1)) rfl rfl (show ¬ oob 0 6 by decide) ?_
  refine AW.eq (pc' := 129) (ls' := [some (.ref 0), some (.ref (SB + 26)), some (.int 5), some (.int 1), some (.int 5), none]) (st' := []) (AH' := [.inr (9, [.ref 1, .ref 2, .ref 3, .ref 4, .int (MVPc v1), .int (MVIs v1), .int (MVTh v1), .ref 5, .int (MVSl v1), .ref 6, .int (MVLn v1), .int (MVEc v1), .int (MVEo v1), .int (MVSa v1), .int (MVEn v1), .int (MVTk v1), .int (MVVa v1), .int (MVFa v1), .int (MVFo v1), .ref 7, .int (MVSc v1), .ref 8, .ref 9, .int (MVOl v1)]), .inl (0, 500, .inl (MVSt v1)), .inl (0, 500, .inl (MVAs v1)), .inl (0, 500, .inl (MVSv v1)), .inl (0, 4000, .inl (MVPt v1)), .inl (0, 6, .inl (upd (MVSp v1) 0 115)), .inl (3, 600, .inl (MVBf v1)), .inl (0, 150, .inl (MVSm v1)), .inl (0, 40, .inl (MVOr v1)), .inl (3, 240, .inl (MVOu v1))]) ?_ rfl rfl rfl rfl
  refine go_l 2 X (pc2 := 103) (ls2 := [some (.ref 0), some (.ref (SB + 26)), some (.int 5), some (.int 1), some (.int 6), none]) (st2 := []) rfl ?_
  refine go_s 2 X (pc2 := 106) (st2 := [.int 6, .ref (SB + 26)]) rfl ?_
  refine r_schar X (i := 26) (j := 6) rfl (by decide +kernel) (by decide) hR (by decide) (by decide) (by decide) (Nat.le_of_ble_eq_true rfl) (by decide) ?_
  rw [show schar 26 (Int32.toNatClampNeg 6) = 108 from by decide +kernel]
  refine go_s 1 X (pc2 := 111) (st2 := [.int 32, .int 108]) rfl ?_
  refine r_icmp_eq X 135 rfl rfl (fun h => absurd h (by decide)) (fun _ => ?_)
  refine go_s 7 X (pc2 := 125) (st2 := [.int 6, .ref (SB + 26), .int 1, .ref 5]) rfl ?_
  refine r_schar X (i := 26) (j := 6) rfl (by decide +kernel) (by decide) hR (by decide) (by decide) (by decide) (Nat.le_of_ble_eq_true rfl) (by decide) ?_
  rw [show schar 26 (Int32.toNatClampNeg 6) = 108 from by decide +kernel]
  refine r_iast X (o := 5) (n := 6) (f := (upd (MVSp v1) 0 115)) rfl rfl (show ¬ oob 1 6 by decide) ?_
  refine AW.eq (pc' := 129) (ls' := [some (.ref 0), some (.ref (SB + 26)), some (.int 5), some (.int 1), some (.int 6), none]) (st' := []) (AH' := [.inr (9, [.ref 1, .ref 2, .ref 3, .ref 4, .int (MVPc v1), .int (MVIs v1), .int (MVTh v1), .ref 5, .int (MVSl v1), .ref 6, .int (MVLn v1), .int (MVEc v1), .int (MVEo v1), .int (MVSa v1), .int (MVEn v1), .int (MVTk v1), .int (MVVa v1), .int (MVFa v1), .int (MVFo v1), .ref 7, .int (MVSc v1), .ref 8, .ref 9, .int (MVOl v1)]), .inl (0, 500, .inl (MVSt v1)), .inl (0, 500, .inl (MVAs v1)), .inl (0, 500, .inl (MVSv v1)), .inl (0, 4000, .inl (MVPt v1)), .inl (0, 6, .inl (upd (upd (MVSp v1) 0 115) 1 108)), .inl (3, 600, .inl (MVBf v1)), .inl (0, 150, .inl (MVSm v1)), .inl (0, 40, .inl (MVOr v1)), .inl (3, 240, .inl (MVOu v1))]) ?_ rfl rfl rfl rfl
  refine go_l 2 X (pc2 := 103) (ls2 := [some (.ref 0), some (.ref (SB + 26)), some (.int 5), some (.int 1), some (.int 7), none]) (st2 := []) rfl ?_
  refine go_s 2 X (pc2 := 106) (st2 := [.int 7, .ref (SB + 26)]) rfl ?_
  refine r_schar X (i := 26) (j := 7) rfl (by decide +kernel) (by decide) hR (by decide) (by decide) (by decide) (Nat.le_of_ble_eq_true rfl) (by decide) ?_
  rw [show schar 26 (Int32.toNatClampNeg 7) = 111 from by decide +kernel]
  refine go_s 1 X (pc2 := 111) (st2 := [.int 32, .int 111]) rfl ?_
  refine r_icmp_eq X 135 rfl rfl (fun h => absurd h (by decide)) (fun _ => ?_)
  refine go_s 7 X (pc2 := 125) (st2 := [.int 7, .ref (SB + 26), .int 2, .ref 5]) rfl ?_
  refine r_schar X (i := 26) (j := 7) rfl (by decide +kernel) (by decide) hR (by decide) (by decide) (by decide) (Nat.le_of_ble_eq_true rfl) (by decide) ?_
  rw [show schar 26 (Int32.toNatClampNeg 7) = 111 from by decide +kernel]
  refine r_iast X (o := 5) (n := 6) (f := (upd (upd (MVSp v1) 0 115) 1 108)) rfl rfl (show ¬ oob 2 6 by decide) ?_
  refine AW.eq (pc' := 129) (ls' := [some (.ref 0), some (.ref (SB + 26)), some (.int 5), some (.int 1), some (.int 7), none]) (st' := []) (AH' := [.inr (9, [.ref 1, .ref 2, .ref 3, .ref 4, .int (MVPc v1), .int (MVIs v1), .int (MVTh v1), .ref 5, .int (MVSl v1), .ref 6, .int (MVLn v1), .int (MVEc v1), .int (MVEo v1), .int (MVSa v1), .int (MVEn v1), .int (MVTk v1), .int (MVVa v1), .int (MVFa v1), .int (MVFo v1), .ref 7, .int (MVSc v1), .ref 8, .ref 9, .int (MVOl v1)]), .inl (0, 500, .inl (MVSt v1)), .inl (0, 500, .inl (MVAs v1)), .inl (0, 500, .inl (MVSv v1)), .inl (0, 4000, .inl (MVPt v1)), .inl (0, 6, .inl (upd (upd (upd (MVSp v1) 0 115) 1 108) 2 111)), .inl (3, 600, .inl (MVBf v1)), .inl (0, 150, .inl (MVSm v1)), .inl (0, 40, .inl (MVOr v1)), .inl (3, 240, .inl (MVOu v1))]) ?_ rfl rfl rfl rfl
  refine go_l 2 X (pc2 := 103) (ls2 := [some (.ref 0), some (.ref (SB + 26)), some (.int 5), some (.int 1), some (.int 8), none]) (st2 := []) rfl ?_
  refine go_s 2 X (pc2 := 106) (st2 := [.int 8, .ref (SB + 26)]) rfl ?_
  refine r_schar X (i := 26) (j := 8) rfl (by decide +kernel) (by decide) hR (by decide) (by decide) (by decide) (Nat.le_of_ble_eq_true rfl) (by decide) ?_
  rw [show schar 26 (Int32.toNatClampNeg 8) = 119 from by decide +kernel]
  refine go_s 1 X (pc2 := 111) (st2 := [.int 32, .int 119]) rfl ?_
  refine r_icmp_eq X 135 rfl rfl (fun h => absurd h (by decide)) (fun _ => ?_)
  refine go_s 7 X (pc2 := 125) (st2 := [.int 8, .ref (SB + 26), .int 3, .ref 5]) rfl ?_
  refine r_schar X (i := 26) (j := 8) rfl (by decide +kernel) (by decide) hR (by decide) (by decide) (by decide) (Nat.le_of_ble_eq_true rfl) (by decide) ?_
  rw [show schar 26 (Int32.toNatClampNeg 8) = 119 from by decide +kernel]
  refine r_iast X (o := 5) (n := 6) (f := (upd (upd (upd (MVSp v1) 0 115) 1 108) 2 111)) rfl rfl (show ¬ oob 3 6 by decide) ?_
  refine AW.eq (pc' := 129) (ls' := [some (.ref 0), some (.ref (SB + 26)), some (.int 5), some (.int 1), some (.int 8), none]) (st' := []) (AH' := [.inr (9, [.ref 1, .ref 2, .ref 3, .ref 4, .int (MVPc v1), .int (MVIs v1), .int (MVTh v1), .ref 5, .int (MVSl v1), .ref 6, .int (MVLn v1), .int (MVEc v1), .int (MVEo v1), .int (MVSa v1), .int (MVEn v1), .int (MVTk v1), .int (MVVa v1), .int (MVFa v1), .int (MVFo v1), .ref 7, .int (MVSc v1), .ref 8, .ref 9, .int (MVOl v1)]), .inl (0, 500, .inl (MVSt v1)), .inl (0, 500, .inl (MVAs v1)), .inl (0, 500, .inl (MVSv v1)), .inl (0, 4000, .inl (MVPt v1)), .inl (0, 6, .inl (upd (upd (upd (upd (MVSp v1) 0 115) 1 108) 2 111) 3 119)), .inl (3, 600, .inl (MVBf v1)), .inl (0, 150, .inl (MVSm v1)), .inl (0, 40, .inl (MVOr v1)), .inl (3, 240, .inl (MVOu v1))]) ?_ rfl rfl rfl rfl
  refine go_l 2 X (pc2 := 103) (ls2 := [some (.ref 0), some (.ref (SB + 26)), some (.int 5), some (.int 1), some (.int 9), none]) (st2 := []) rfl ?_
  refine go_s 2 X (pc2 := 106) (st2 := [.int 9, .ref (SB + 26)]) rfl ?_
  refine r_schar X (i := 26) (j := 9) rfl (by decide +kernel) (by decide) hR (by decide) (by decide) (by decide) (Nat.le_of_ble_eq_true rfl) (by decide) ?_
  rw [show schar 26 (Int32.toNatClampNeg 9) = 32 from by decide +kernel]
  refine go_s 1 X (pc2 := 111) (st2 := [.int 32, .int 32]) rfl ?_
  refine r_icmp_eq X 135 rfl rfl (fun _ => ?_) (fun h => absurd (by decide) h)
  refine go 5 X (pc2 := 143) (ls2 := [some (.ref 0), some (.ref (SB + 26)), some (.int 5), some (.int 1), some (.int 9), none]) (st2 := []) (AH2 := [.inr (9, [.ref 1, .ref 2, .ref 3, .ref 4, .int (MVPc v1), .int (MVIs v1), .int (MVTh v1), .ref 5, .int 4, .ref 6, .int (MVLn v1), .int (MVEc v1), .int (MVEo v1), .int (MVSa v1), .int (MVEn v1), .int (MVTk v1), .int (MVVa v1), .int (MVFa v1), .int (MVFo v1), .ref 7, .int (MVSc v1), .ref 8, .ref 9, .int (MVOl v1)]), .inl (0, 500, .inl (MVSt v1)), .inl (0, 500, .inl (MVAs v1)), .inl (0, 500, .inl (MVSv v1)), .inl (0, 4000, .inl (MVPt v1)), .inl (0, 6, .inl (upd (upd (upd (upd (MVSp v1) 0 115) 1 108) 2 111) 3 119)), .inl (3, 600, .inl (MVBf v1)), .inl (0, 150, .inl (MVSm v1)), .inl (0, 40, .inl (MVOr v1)), .inl (3, 240, .inl (MVOu v1))]) rfl ?_
  refine go_l 4 X (pc2 := 148) (ls2 := [some (.ref 0), some (.ref (SB + 26)), some (.int 10), some (.int 1), some (.int 9), none]) (st2 := []) rfl ?_
  refine go_s 2 X (pc2 := 150) (st2 := [.int 2, .int 1]) rfl ?_
  obtain ⟨r2, v2, hq2, h⟩ := bnd2_inv h
  refine r_icmp_ge X 170 rfl rfl (fun h => absurd h (by decide)) (fun _ => ?_)
  refine go_s 2 X (pc2 := 155) (st2 := [.int 1, .ref 0]) rfl ?_
  refine r_if_ne X 163 rfl rfl (fun _ => ?_) (fun h => absurd h (by decide))
  refine go_s 1 X (pc2 := 164) (st2 := [.int 5, .ref 0]) rfl ?_
  refine q_callV X [0, 1, 2, 3, 4, 5, 6, 7, 8, 9] [] (AH2 := [.inr (9, [.ref 1, .ref 2, .ref 3, .ref 4, .int (MVPc v2), .int (MVIs v2), .int (MVTh v2), .ref 5, .int (MVSl v2), .ref 6, .int (MVLn v2), .int (MVEc v2), .int (MVEo v2), .int (MVSa v2), .int (MVEn v2), .int (MVTk v2), .int (MVVa v2), .int (MVFa v2), .int (MVFo v2), .ref 7, .int (MVSc v2), .ref 8, .ref 9, .int (MVOl v2)]), .inl (0, 500, .inl (MVSt v2)), .inl (0, 500, .inl (MVAs v2)), .inl (0, 500, .inl (MVSv v2)), .inl (0, 4000, .inl (MVPt v2)), .inl (0, 6, .inl (MVSp v2)), .inl (3, 600, .inl (MVBf v2)), .inl (0, 150, .inl (MVSm v2)), .inl (0, 40, .inl (MVOr v2)), .inl (3, 240, .inl (MVOu v2))]) (st2 := []) (c_X9_addQueue _ _ _ _ hq2) ⟨rfl, rfl⟩ rfl k_X9_addQueue l_X9_53 rfl rfl rfl rfl rfl (fit_of hR (by decide) (by decide) (by decide) (by decide)) (Nat.le_of_ble_eq_true rfl) (by decide) rfl rfl rfl ?_
  refine go_l 3 X (pc2 := 95) (ls2 := [some (.ref 0), some (.ref (SB + 26)), some (.int 10), some (.int 2), some (.int 9), none]) (st2 := []) rfl ?_
  refine go_s 2 X (pc2 := 97) (st2 := [.int 4, .int 2]) rfl ?_
  refine r_icmp_ge X 180 rfl rfl (fun h => absurd h (by decide)) (fun _ => ?_)
  refine go_l 2 X (pc2 := 103) (ls2 := [some (.ref 0), some (.ref (SB + 26)), some (.int 10), some (.int 2), some (.int 10), none]) (st2 := []) rfl ?_
  refine go_s 2 X (pc2 := 106) (st2 := [.int 10, .ref (SB + 26)]) rfl ?_
  refine r_schar X (i := 26) (j := 10) rfl (by decide +kernel) (by decide) hR (by decide) (by decide) (by decide) (Nat.le_of_ble_eq_true rfl) (by decide) ?_
  rw [show schar 26 (Int32.toNatClampNeg 10) = 97 from by decide +kernel]
  refine go_s 1 X (pc2 := 111) (st2 := [.int 32, .int 97]) rfl ?_
  refine r_icmp_eq X 135 rfl rfl (fun h => absurd h (by decide)) (fun _ => ?_)
  refine go_s 7 X (pc2 := 125) (st2 := [.int 10, .ref (SB + 26), .int 0, .ref 5]) rfl ?_
  refine r_schar X (i := 26) (j := 10) rfl (by decide +kernel) (by decide) hR (by decide) (by decide) (by decide) (Nat.le_of_ble_eq_true rfl) (by decide) ?_
  rw [show schar 26 (Int32.toNatClampNeg 10) = 97 from by decide +kernel]
  refine r_iast X (o := 5) (n := 6) (f := (MVSp v2)) rfl rfl (show ¬ oob 0 6 by decide) ?_
  refine AW.eq (pc' := 129) (ls' := [some (.ref 0), some (.ref (SB + 26)), some (.int 10), some (.int 2), some (.int 10), none]) (st' := []) (AH' := [.inr (9, [.ref 1, .ref 2, .ref 3, .ref 4, .int (MVPc v2), .int (MVIs v2), .int (MVTh v2), .ref 5, .int (MVSl v2), .ref 6, .int (MVLn v2), .int (MVEc v2), .int (MVEo v2), .int (MVSa v2), .int (MVEn v2), .int (MVTk v2), .int (MVVa v2), .int (MVFa v2), .int (MVFo v2), .ref 7, .int (MVSc v2), .ref 8, .ref 9, .int (MVOl v2)]), .inl (0, 500, .inl (MVSt v2)), .inl (0, 500, .inl (MVAs v2)), .inl (0, 500, .inl (MVSv v2)), .inl (0, 4000, .inl (MVPt v2)), .inl (0, 6, .inl (upd (MVSp v2) 0 97)), .inl (3, 600, .inl (MVBf v2)), .inl (0, 150, .inl (MVSm v2)), .inl (0, 40, .inl (MVOr v2)), .inl (3, 240, .inl (MVOu v2))]) ?_ rfl rfl rfl rfl
  refine go_l 2 X (pc2 := 103) (ls2 := [some (.ref 0), some (.ref (SB + 26)), some (.int 10), some (.int 2), some (.int 11), none]) (st2 := []) rfl ?_
  refine go_s 2 X (pc2 := 106) (st2 := [.int 11, .ref (SB + 26)]) rfl ?_
  refine r_schar X (i := 26) (j := 11) rfl (by decide +kernel) (by decide) hR (by decide) (by decide) (by decide) (Nat.le_of_ble_eq_true rfl) (by decide) ?_
  rw [show schar 26 (Int32.toNatClampNeg 11) = 110 from by decide +kernel]
  refine go_s 1 X (pc2 := 111) (st2 := [.int 32, .int 110]) rfl ?_
  refine r_icmp_eq X 135 rfl rfl (fun h => absurd h (by decide)) (fun _ => ?_)
  refine go_s 7 X (pc2 := 125) (st2 := [.int 11, .ref (SB + 26), .int 1, .ref 5]) rfl ?_
  refine r_schar X (i := 26) (j := 11) rfl (by decide +kernel) (by decide) hR (by decide) (by decide) (by decide) (Nat.le_of_ble_eq_true rfl) (by decide) ?_
  rw [show schar 26 (Int32.toNatClampNeg 11) = 110 from by decide +kernel]
  refine r_iast X (o := 5) (n := 6) (f := (upd (MVSp v2) 0 97)) rfl rfl (show ¬ oob 1 6 by decide) ?_
  refine AW.eq (pc' := 129) (ls' := [some (.ref 0), some (.ref (SB + 26)), some (.int 10), some (.int 2), some (.int 11), none]) (st' := []) (AH' := [.inr (9, [.ref 1, .ref 2, .ref 3, .ref 4, .int (MVPc v2), .int (MVIs v2), .int (MVTh v2), .ref 5, .int (MVSl v2), .ref 6, .int (MVLn v2), .int (MVEc v2), .int (MVEo v2), .int (MVSa v2), .int (MVEn v2), .int (MVTk v2), .int (MVVa v2), .int (MVFa v2), .int (MVFo v2), .ref 7, .int (MVSc v2), .ref 8, .ref 9, .int (MVOl v2)]), .inl (0, 500, .inl (MVSt v2)), .inl (0, 500, .inl (MVAs v2)), .inl (0, 500, .inl (MVSv v2)), .inl (0, 4000, .inl (MVPt v2)), .inl (0, 6, .inl (upd (upd (MVSp v2) 0 97) 1 110)), .inl (3, 600, .inl (MVBf v2)), .inl (0, 150, .inl (MVSm v2)), .inl (0, 40, .inl (MVOr v2)), .inl (3, 240, .inl (MVOu v2))]) ?_ rfl rfl rfl rfl
  refine go_l 2 X (pc2 := 103) (ls2 := [some (.ref 0), some (.ref (SB + 26)), some (.int 10), some (.int 2), some (.int 12), none]) (st2 := []) rfl ?_
  refine go_s 2 X (pc2 := 106) (st2 := [.int 12, .ref (SB + 26)]) rfl ?_
  refine r_schar X (i := 26) (j := 12) rfl (by decide +kernel) (by decide) hR (by decide) (by decide) (by decide) (Nat.le_of_ble_eq_true rfl) (by decide) ?_
  rw [show schar 26 (Int32.toNatClampNeg 12) = 110 from by decide +kernel]
  refine go_s 1 X (pc2 := 111) (st2 := [.int 32, .int 110]) rfl ?_
  refine r_icmp_eq X 135 rfl rfl (fun h => absurd h (by decide)) (fun _ => ?_)
  refine go_s 7 X (pc2 := 125) (st2 := [.int 12, .ref (SB + 26), .int 2, .ref 5]) rfl ?_
  refine r_schar X (i := 26) (j := 12) rfl (by decide +kernel) (by decide) hR (by decide) (by decide) (by decide) (Nat.le_of_ble_eq_true rfl) (by decide) ?_
  rw [show schar 26 (Int32.toNatClampNeg 12) = 110 from by decide +kernel]
  refine r_iast X (o := 5) (n := 6) (f := (upd (upd (MVSp v2) 0 97) 1 110)) rfl rfl (show ¬ oob 2 6 by decide) ?_
  refine AW.eq (pc' := 129) (ls' := [some (.ref 0), some (.ref (SB + 26)), some (.int 10), some (.int 2), some (.int 12), none]) (st' := []) (AH' := [.inr (9, [.ref 1, .ref 2, .ref 3, .ref 4, .int (MVPc v2), .int (MVIs v2), .int (MVTh v2), .ref 5, .int (MVSl v2), .ref 6, .int (MVLn v2), .int (MVEc v2), .int (MVEo v2), .int (MVSa v2), .int (MVEn v2), .int (MVTk v2), .int (MVVa v2), .int (MVFa v2), .int (MVFo v2), .ref 7, .int (MVSc v2), .ref 8, .ref 9, .int (MVOl v2)]), .inl (0, 500, .inl (MVSt v2)), .inl (0, 500, .inl (MVAs v2)), .inl (0, 500, .inl (MVSv v2)), .inl (0, 4000, .inl (MVPt v2)), .inl (0, 6, .inl (upd (upd (upd (MVSp v2) 0 97) 1 110) 2 110)), .inl (3, 600, .inl (MVBf v2)), .inl (0, 150, .inl (MVSm v2)), .inl (0, 40, .inl (MVOr v2)), .inl (3, 240, .inl (MVOu v2))]) ?_ rfl rfl rfl rfl
  refine go_l 2 X (pc2 := 103) (ls2 := [some (.ref 0), some (.ref (SB + 26)), some (.int 10), some (.int 2), some (.int 13), none]) (st2 := []) rfl ?_
  refine go_s 2 X (pc2 := 106) (st2 := [.int 13, .ref (SB + 26)]) rfl ?_
  refine r_schar X (i := 26) (j := 13) rfl (by decide +kernel) (by decide) hR (by decide) (by decide) (by decide) (Nat.le_of_ble_eq_true rfl) (by decide) ?_
  rw [show schar 26 (Int32.toNatClampNeg 13) = 32 from by decide +kernel]
  refine go_s 1 X (pc2 := 111) (st2 := [.int 32, .int 32]) rfl ?_
  refine r_icmp_eq X 135 rfl rfl (fun _ => ?_) (fun h => absurd (by decide) h)
  refine go 5 X (pc2 := 143) (ls2 := [some (.ref 0), some (.ref (SB + 26)), some (.int 10), some (.int 2), some (.int 13), none]) (st2 := []) (AH2 := [.inr (9, [.ref 1, .ref 2, .ref 3, .ref 4, .int (MVPc v2), .int (MVIs v2), .int (MVTh v2), .ref 5, .int 3, .ref 6, .int (MVLn v2), .int (MVEc v2), .int (MVEo v2), .int (MVSa v2), .int (MVEn v2), .int (MVTk v2), .int (MVVa v2), .int (MVFa v2), .int (MVFo v2), .ref 7, .int (MVSc v2), .ref 8, .ref 9, .int (MVOl v2)]), .inl (0, 500, .inl (MVSt v2)), .inl (0, 500, .inl (MVAs v2)), .inl (0, 500, .inl (MVSv v2)), .inl (0, 4000, .inl (MVPt v2)), .inl (0, 6, .inl (upd (upd (upd (MVSp v2) 0 97) 1 110) 2 110)), .inl (3, 600, .inl (MVBf v2)), .inl (0, 150, .inl (MVSm v2)), .inl (0, 40, .inl (MVOr v2)), .inl (3, 240, .inl (MVOu v2))]) rfl ?_
  refine go_l 4 X (pc2 := 148) (ls2 := [some (.ref 0), some (.ref (SB + 26)), some (.int 14), some (.int 2), some (.int 13), none]) (st2 := []) rfl ?_
  refine go_s 2 X (pc2 := 150) (st2 := [.int 2, .int 2]) rfl ?_
  obtain ⟨r3, v3, hq3, h⟩ := bnd2_inv h
  refine r_icmp_ge X 170 rfl rfl (fun _ => ?_) (fun h => absurd (by decide) h)
  refine go_s 1 X (pc2 := 171) (st2 := [.ref 0]) rfl ?_
  refine q_callV X [0, 1, 2, 3, 4, 5, 6, 7, 8, 9] [] (AH2 := [.inr (9, [.ref 1, .ref 2, .ref 3, .ref 4, .int (MVPc v3), .int (MVIs v3), .int (MVTh v3), .ref 5, .int (MVSl v3), .ref 6, .int (MVLn v3), .int (MVEc v3), .int (MVEo v3), .int (MVSa v3), .int (MVEn v3), .int (MVTk v3), .int (MVVa v3), .int (MVFa v3), .int (MVFo v3), .ref 7, .int (MVSc v3), .ref 8, .ref 9, .int (MVOl v3)]), .inl (0, 500, .inl (MVSt v3)), .inl (0, 500, .inl (MVAs v3)), .inl (0, 500, .inl (MVSv v3)), .inl (0, 4000, .inl (MVPt v3)), .inl (0, 6, .inl (MVSp v3)), .inl (3, 600, .inl (MVBf v3)), .inl (0, 150, .inl (MVSm v3)), .inl (0, 40, .inl (MVOr v3)), .inl (3, 240, .inl (MVOu v3))]) (st2 := []) (c_X9_addOwner _ _ _ hq3) ⟨rfl, rfl⟩ rfl k_X9_addOwner l_X9_57 rfl rfl rfl rfl rfl (fit_of hR (by decide) (by decide) (by decide) (by decide)) (Nat.le_of_ble_eq_true rfl) (by decide) rfl rfl rfl ?_
  refine go_l 2 X (pc2 := 95) (ls2 := [some (.ref 0), some (.ref (SB + 26)), some (.int 14), some (.int 3), some (.int 13), none]) (st2 := []) rfl ?_
  refine go_s 2 X (pc2 := 97) (st2 := [.int 4, .int 3]) rfl ?_
  refine r_icmp_ge X 180 rfl rfl (fun h => absurd h (by decide)) (fun _ => ?_)
  refine go_l 2 X (pc2 := 103) (ls2 := [some (.ref 0), some (.ref (SB + 26)), some (.int 14), some (.int 3), some (.int 14), none]) (st2 := []) rfl ?_
  refine go_s 2 X (pc2 := 106) (st2 := [.int 14, .ref (SB + 26)]) rfl ?_
  refine r_schar X (i := 26) (j := 14) rfl (by decide +kernel) (by decide) hR (by decide) (by decide) (by decide) (Nat.le_of_ble_eq_true rfl) (by decide) ?_
  rw [show schar 26 (Int32.toNatClampNeg 14) = 98 from by decide +kernel]
  refine go_s 1 X (pc2 := 111) (st2 := [.int 32, .int 98]) rfl ?_
  refine r_icmp_eq X 135 rfl rfl (fun h => absurd h (by decide)) (fun _ => ?_)
  refine go_s 7 X (pc2 := 125) (st2 := [.int 14, .ref (SB + 26), .int 0, .ref 5]) rfl ?_
  refine r_schar X (i := 26) (j := 14) rfl (by decide +kernel) (by decide) hR (by decide) (by decide) (by decide) (Nat.le_of_ble_eq_true rfl) (by decide) ?_
  rw [show schar 26 (Int32.toNatClampNeg 14) = 98 from by decide +kernel]
  refine r_iast X (o := 5) (n := 6) (f := (MVSp v3)) rfl rfl (show ¬ oob 0 6 by decide) ?_
  refine AW.eq (pc' := 129) (ls' := [some (.ref 0), some (.ref (SB + 26)), some (.int 14), some (.int 3), some (.int 14), none]) (st' := []) (AH' := [.inr (9, [.ref 1, .ref 2, .ref 3, .ref 4, .int (MVPc v3), .int (MVIs v3), .int (MVTh v3), .ref 5, .int (MVSl v3), .ref 6, .int (MVLn v3), .int (MVEc v3), .int (MVEo v3), .int (MVSa v3), .int (MVEn v3), .int (MVTk v3), .int (MVVa v3), .int (MVFa v3), .int (MVFo v3), .ref 7, .int (MVSc v3), .ref 8, .ref 9, .int (MVOl v3)]), .inl (0, 500, .inl (MVSt v3)), .inl (0, 500, .inl (MVAs v3)), .inl (0, 500, .inl (MVSv v3)), .inl (0, 4000, .inl (MVPt v3)), .inl (0, 6, .inl (upd (MVSp v3) 0 98)), .inl (3, 600, .inl (MVBf v3)), .inl (0, 150, .inl (MVSm v3)), .inl (0, 40, .inl (MVOr v3)), .inl (3, 240, .inl (MVOu v3))]) ?_ rfl rfl rfl rfl
  refine go_l 2 X (pc2 := 103) (ls2 := [some (.ref 0), some (.ref (SB + 26)), some (.int 14), some (.int 3), some (.int 15), none]) (st2 := []) rfl ?_
  refine go_s 2 X (pc2 := 106) (st2 := [.int 15, .ref (SB + 26)]) rfl ?_
  refine r_schar X (i := 26) (j := 15) rfl (by decide +kernel) (by decide) hR (by decide) (by decide) (by decide) (Nat.le_of_ble_eq_true rfl) (by decide) ?_
  rw [show schar 26 (Int32.toNatClampNeg 15) = 111 from by decide +kernel]
  refine go_s 1 X (pc2 := 111) (st2 := [.int 32, .int 111]) rfl ?_
  refine r_icmp_eq X 135 rfl rfl (fun h => absurd h (by decide)) (fun _ => ?_)
  refine go_s 7 X (pc2 := 125) (st2 := [.int 15, .ref (SB + 26), .int 1, .ref 5]) rfl ?_
  refine r_schar X (i := 26) (j := 15) rfl (by decide +kernel) (by decide) hR (by decide) (by decide) (by decide) (Nat.le_of_ble_eq_true rfl) (by decide) ?_
  rw [show schar 26 (Int32.toNatClampNeg 15) = 111 from by decide +kernel]
  refine r_iast X (o := 5) (n := 6) (f := (upd (MVSp v3) 0 98)) rfl rfl (show ¬ oob 1 6 by decide) ?_
  refine AW.eq (pc' := 129) (ls' := [some (.ref 0), some (.ref (SB + 26)), some (.int 14), some (.int 3), some (.int 15), none]) (st' := []) (AH' := [.inr (9, [.ref 1, .ref 2, .ref 3, .ref 4, .int (MVPc v3), .int (MVIs v3), .int (MVTh v3), .ref 5, .int (MVSl v3), .ref 6, .int (MVLn v3), .int (MVEc v3), .int (MVEo v3), .int (MVSa v3), .int (MVEn v3), .int (MVTk v3), .int (MVVa v3), .int (MVFa v3), .int (MVFo v3), .ref 7, .int (MVSc v3), .ref 8, .ref 9, .int (MVOl v3)]), .inl (0, 500, .inl (MVSt v3)), .inl (0, 500, .inl (MVAs v3)), .inl (0, 500, .inl (MVSv v3)), .inl (0, 4000, .inl (MVPt v3)), .inl (0, 6, .inl (upd (upd (MVSp v3) 0 98) 1 111)), .inl (3, 600, .inl (MVBf v3)), .inl (0, 150, .inl (MVSm v3)), .inl (0, 40, .inl (MVOr v3)), .inl (3, 240, .inl (MVOu v3))]) ?_ rfl rfl rfl rfl
  refine go_l 2 X (pc2 := 103) (ls2 := [some (.ref 0), some (.ref (SB + 26)), some (.int 14), some (.int 3), some (.int 16), none]) (st2 := []) rfl ?_
  refine go_s 2 X (pc2 := 106) (st2 := [.int 16, .ref (SB + 26)]) rfl ?_
  refine r_schar X (i := 26) (j := 16) rfl (by decide +kernel) (by decide) hR (by decide) (by decide) (by decide) (Nat.le_of_ble_eq_true rfl) (by decide) ?_
  rw [show schar 26 (Int32.toNatClampNeg 16) = 98 from by decide +kernel]
  refine go_s 1 X (pc2 := 111) (st2 := [.int 32, .int 98]) rfl ?_
  refine r_icmp_eq X 135 rfl rfl (fun h => absurd h (by decide)) (fun _ => ?_)
  refine go_s 7 X (pc2 := 125) (st2 := [.int 16, .ref (SB + 26), .int 2, .ref 5]) rfl ?_
  refine r_schar X (i := 26) (j := 16) rfl (by decide +kernel) (by decide) hR (by decide) (by decide) (by decide) (Nat.le_of_ble_eq_true rfl) (by decide) ?_
  rw [show schar 26 (Int32.toNatClampNeg 16) = 98 from by decide +kernel]
  refine r_iast X (o := 5) (n := 6) (f := (upd (upd (MVSp v3) 0 98) 1 111)) rfl rfl (show ¬ oob 2 6 by decide) ?_
  refine AW.eq (pc' := 129) (ls' := [some (.ref 0), some (.ref (SB + 26)), some (.int 14), some (.int 3), some (.int 16), none]) (st' := []) (AH' := [.inr (9, [.ref 1, .ref 2, .ref 3, .ref 4, .int (MVPc v3), .int (MVIs v3), .int (MVTh v3), .ref 5, .int (MVSl v3), .ref 6, .int (MVLn v3), .int (MVEc v3), .int (MVEo v3), .int (MVSa v3), .int (MVEn v3), .int (MVTk v3), .int (MVVa v3), .int (MVFa v3), .int (MVFo v3), .ref 7, .int (MVSc v3), .ref 8, .ref 9, .int (MVOl v3)]), .inl (0, 500, .inl (MVSt v3)), .inl (0, 500, .inl (MVAs v3)), .inl (0, 500, .inl (MVSv v3)), .inl (0, 4000, .inl (MVPt v3)), .inl (0, 6, .inl (upd (upd (upd (MVSp v3) 0 98) 1 111) 2 98)), .inl (3, 600, .inl (MVBf v3)), .inl (0, 150, .inl (MVSm v3)), .inl (0, 40, .inl (MVOr v3)), .inl (3, 240, .inl (MVOu v3))]) ?_ rfl rfl rfl rfl
  refine go_l 2 X (pc2 := 103) (ls2 := [some (.ref 0), some (.ref (SB + 26)), some (.int 14), some (.int 3), some (.int 17), none]) (st2 := []) rfl ?_
  refine go_s 2 X (pc2 := 106) (st2 := [.int 17, .ref (SB + 26)]) rfl ?_
  refine r_schar X (i := 26) (j := 17) rfl (by decide +kernel) (by decide) hR (by decide) (by decide) (by decide) (Nat.le_of_ble_eq_true rfl) (by decide) ?_
  rw [show schar 26 (Int32.toNatClampNeg 17) = 32 from by decide +kernel]
  refine go_s 1 X (pc2 := 111) (st2 := [.int 32, .int 32]) rfl ?_
  refine r_icmp_eq X 135 rfl rfl (fun _ => ?_) (fun h => absurd (by decide) h)
  refine go 5 X (pc2 := 143) (ls2 := [some (.ref 0), some (.ref (SB + 26)), some (.int 14), some (.int 3), some (.int 17), none]) (st2 := []) (AH2 := [.inr (9, [.ref 1, .ref 2, .ref 3, .ref 4, .int (MVPc v3), .int (MVIs v3), .int (MVTh v3), .ref 5, .int 3, .ref 6, .int (MVLn v3), .int (MVEc v3), .int (MVEo v3), .int (MVSa v3), .int (MVEn v3), .int (MVTk v3), .int (MVVa v3), .int (MVFa v3), .int (MVFo v3), .ref 7, .int (MVSc v3), .ref 8, .ref 9, .int (MVOl v3)]), .inl (0, 500, .inl (MVSt v3)), .inl (0, 500, .inl (MVAs v3)), .inl (0, 500, .inl (MVSv v3)), .inl (0, 4000, .inl (MVPt v3)), .inl (0, 6, .inl (upd (upd (upd (MVSp v3) 0 98) 1 111) 2 98)), .inl (3, 600, .inl (MVBf v3)), .inl (0, 150, .inl (MVSm v3)), .inl (0, 40, .inl (MVOr v3)), .inl (3, 240, .inl (MVOu v3))]) rfl ?_
  refine go_l 4 X (pc2 := 148) (ls2 := [some (.ref 0), some (.ref (SB + 26)), some (.int 18), some (.int 3), some (.int 17), none]) (st2 := []) rfl ?_
  refine go_s 2 X (pc2 := 150) (st2 := [.int 2, .int 3]) rfl ?_
  obtain ⟨r4, v4, hq4, h⟩ := bnd2_inv h
  refine r_icmp_ge X 170 rfl rfl (fun _ => ?_) (fun h => absurd (by decide) h)
  refine go_s 1 X (pc2 := 171) (st2 := [.ref 0]) rfl ?_
  refine q_callV X [0, 1, 2, 3, 4, 5, 6, 7, 8, 9] [] (AH2 := [.inr (9, [.ref 1, .ref 2, .ref 3, .ref 4, .int (MVPc v4), .int (MVIs v4), .int (MVTh v4), .ref 5, .int (MVSl v4), .ref 6, .int (MVLn v4), .int (MVEc v4), .int (MVEo v4), .int (MVSa v4), .int (MVEn v4), .int (MVTk v4), .int (MVVa v4), .int (MVFa v4), .int (MVFo v4), .ref 7, .int (MVSc v4), .ref 8, .ref 9, .int (MVOl v4)]), .inl (0, 500, .inl (MVSt v4)), .inl (0, 500, .inl (MVAs v4)), .inl (0, 500, .inl (MVSv v4)), .inl (0, 4000, .inl (MVPt v4)), .inl (0, 6, .inl (MVSp v4)), .inl (3, 600, .inl (MVBf v4)), .inl (0, 150, .inl (MVSm v4)), .inl (0, 40, .inl (MVOr v4)), .inl (3, 240, .inl (MVOu v4))]) (st2 := []) (c_X9_addOwner _ _ _ hq4) ⟨rfl, rfl⟩ rfl k_X9_addOwner l_X9_57 rfl rfl rfl rfl rfl (fit_of hR (by decide) (by decide) (by decide) (by decide)) (Nat.le_of_ble_eq_true rfl) (by decide) rfl rfl rfl ?_
  refine go_l 2 X (pc2 := 95) (ls2 := [some (.ref 0), some (.ref (SB + 26)), some (.int 18), some (.int 4), some (.int 17), none]) (st2 := []) rfl ?_
  refine go_s 2 X (pc2 := 97) (st2 := [.int 4, .int 4]) rfl ?_
  refine r_icmp_ge X 180 rfl rfl (fun _ => ?_) (fun h => absurd (by decide) h)
  refine go_s 1 X (pc2 := 182) (st2 := [.int 24]) rfl ?_
  refine r_newa X 0 .int (a0 := (24, .inl z0)) (N := 24) rfl rfl hkd0 (by decide +kernel) (fun _ => rfl) (fun _ => rfl) (by decide) (by decide) (by decide) ⟨clo_all rfl, rfl, rfl⟩ (show 10 < SB by decide) (by rw [hR]; decide) (by rw [hR]; decide) ?_
  refine AW.eq (pc' := 184) (ls' := [some (.ref 0), some (.ref (SB + 26)), some (.int 18), some (.int 4), some (.int 17), none]) (st' := [.ref 10]) (AH' := [.inr (9, [.ref 1, .ref 2, .ref 3, .ref 4, .int (MVPc v4), .int (MVIs v4), .int (MVTh v4), .ref 5, .int (MVSl v4), .ref 6, .int (MVLn v4), .int (MVEc v4), .int (MVEo v4), .int (MVSa v4), .int (MVEn v4), .int (MVTk v4), .int (MVVa v4), .int (MVFa v4), .int (MVFo v4), .ref 7, .int (MVSc v4), .ref 8, .ref 9, .int (MVOl v4)]), .inl (0, 500, .inl (MVSt v4)), .inl (0, 500, .inl (MVAs v4)), .inl (0, 500, .inl (MVSv v4)), .inl (0, 4000, .inl (MVPt v4)), .inl (0, 6, .inl (MVSp v4)), .inl (3, 600, .inl (MVBf v4)), .inl (0, 150, .inl (MVSm v4)), .inl (0, 40, .inl (MVOr v4)), .inl (3, 240, .inl (MVOu v4)), .inl (0, 24, .inl jb0)]) ?_ rfl rfl rfl rfl
  refine go_s 3 X (pc2 := 187) (st2 := [.int 0, .int 0, .ref 10, .ref 10]) rfl ?_
  refine r_iast X (o := 10) (n := 24) (f := jb0) rfl rfl (show ¬ oob 0 24 by decide) ?_
  refine AW.eq (pc' := 188) (ls' := [some (.ref 0), some (.ref (SB + 26)), some (.int 18), some (.int 4), some (.int 17), none]) (st' := [.ref 10]) (AH' := [.inr (9, [.ref 1, .ref 2, .ref 3, .ref 4, .int (MVPc v4), .int (MVIs v4), .int (MVTh v4), .ref 5, .int (MVSl v4), .ref 6, .int (MVLn v4), .int (MVEc v4), .int (MVEo v4), .int (MVSa v4), .int (MVEn v4), .int (MVTk v4), .int (MVVa v4), .int (MVFa v4), .int (MVFo v4), .ref 7, .int (MVSc v4), .ref 8, .ref 9, .int (MVOl v4)]), .inl (0, 500, .inl (MVSt v4)), .inl (0, 500, .inl (MVAs v4)), .inl (0, 500, .inl (MVSv v4)), .inl (0, 4000, .inl (MVPt v4)), .inl (0, 6, .inl (MVSp v4)), .inl (3, 600, .inl (MVBf v4)), .inl (0, 150, .inl (MVSm v4)), .inl (0, 40, .inl (MVOr v4)), .inl (3, 240, .inl (MVOu v4)), .inl (0, 24, .inl jb1)]) ?_ rfl rfl rfl rfl
  refine go_s 3 X (pc2 := 191) (st2 := [.int 0, .int 1, .ref 10, .ref 10]) rfl ?_
  refine r_iast X (o := 10) (n := 24) (f := jb1) rfl rfl (show ¬ oob 1 24 by decide) ?_
  refine AW.eq (pc' := 192) (ls' := [some (.ref 0), some (.ref (SB + 26)), some (.int 18), some (.int 4), some (.int 17), none]) (st' := [.ref 10]) (AH' := [.inr (9, [.ref 1, .ref 2, .ref 3, .ref 4, .int (MVPc v4), .int (MVIs v4), .int (MVTh v4), .ref 5, .int (MVSl v4), .ref 6, .int (MVLn v4), .int (MVEc v4), .int (MVEo v4), .int (MVSa v4), .int (MVEn v4), .int (MVTk v4), .int (MVVa v4), .int (MVFa v4), .int (MVFo v4), .ref 7, .int (MVSc v4), .ref 8, .ref 9, .int (MVOl v4)]), .inl (0, 500, .inl (MVSt v4)), .inl (0, 500, .inl (MVAs v4)), .inl (0, 500, .inl (MVSv v4)), .inl (0, 4000, .inl (MVPt v4)), .inl (0, 6, .inl (MVSp v4)), .inl (3, 600, .inl (MVBf v4)), .inl (0, 150, .inl (MVSm v4)), .inl (0, 40, .inl (MVOr v4)), .inl (3, 240, .inl (MVOu v4)), .inl (0, 24, .inl jb2)]) ?_ rfl rfl rfl rfl
  refine go_s 3 X (pc2 := 196) (st2 := [.int 50, .int 2, .ref 10, .ref 10]) rfl ?_
  refine r_iast X (o := 10) (n := 24) (f := jb2) rfl rfl (show ¬ oob 2 24 by decide) ?_
  refine AW.eq (pc' := 197) (ls' := [some (.ref 0), some (.ref (SB + 26)), some (.int 18), some (.int 4), some (.int 17), none]) (st' := [.ref 10]) (AH' := [.inr (9, [.ref 1, .ref 2, .ref 3, .ref 4, .int (MVPc v4), .int (MVIs v4), .int (MVTh v4), .ref 5, .int (MVSl v4), .ref 6, .int (MVLn v4), .int (MVEc v4), .int (MVEo v4), .int (MVSa v4), .int (MVEn v4), .int (MVTk v4), .int (MVVa v4), .int (MVFa v4), .int (MVFo v4), .ref 7, .int (MVSc v4), .ref 8, .ref 9, .int (MVOl v4)]), .inl (0, 500, .inl (MVSt v4)), .inl (0, 500, .inl (MVAs v4)), .inl (0, 500, .inl (MVSv v4)), .inl (0, 4000, .inl (MVPt v4)), .inl (0, 6, .inl (MVSp v4)), .inl (3, 600, .inl (MVBf v4)), .inl (0, 150, .inl (MVSm v4)), .inl (0, 40, .inl (MVOr v4)), .inl (3, 240, .inl (MVOu v4)), .inl (0, 24, .inl jb3)]) ?_ rfl rfl rfl rfl
  refine go_s 3 X (pc2 := 201) (st2 := [.int 10, .int 3, .ref 10, .ref 10]) rfl ?_
  refine r_iast X (o := 10) (n := 24) (f := jb3) rfl rfl (show ¬ oob 3 24 by decide) ?_
  refine AW.eq (pc' := 202) (ls' := [some (.ref 0), some (.ref (SB + 26)), some (.int 18), some (.int 4), some (.int 17), none]) (st' := [.ref 10]) (AH' := [.inr (9, [.ref 1, .ref 2, .ref 3, .ref 4, .int (MVPc v4), .int (MVIs v4), .int (MVTh v4), .ref 5, .int (MVSl v4), .ref 6, .int (MVLn v4), .int (MVEc v4), .int (MVEo v4), .int (MVSa v4), .int (MVEn v4), .int (MVTk v4), .int (MVVa v4), .int (MVFa v4), .int (MVFo v4), .ref 7, .int (MVSc v4), .ref 8, .ref 9, .int (MVOl v4)]), .inl (0, 500, .inl (MVSt v4)), .inl (0, 500, .inl (MVAs v4)), .inl (0, 500, .inl (MVSv v4)), .inl (0, 4000, .inl (MVPt v4)), .inl (0, 6, .inl (MVSp v4)), .inl (3, 600, .inl (MVBf v4)), .inl (0, 150, .inl (MVSm v4)), .inl (0, 40, .inl (MVOr v4)), .inl (3, 240, .inl (MVOu v4)), .inl (0, 24, .inl jb4)]) ?_ rfl rfl rfl rfl
  refine go_s 3 X (pc2 := 205) (st2 := [.int 0, .int 4, .ref 10, .ref 10]) rfl ?_
  refine r_iast X (o := 10) (n := 24) (f := jb4) rfl rfl (show ¬ oob 4 24 by decide) ?_
  refine AW.eq (pc' := 206) (ls' := [some (.ref 0), some (.ref (SB + 26)), some (.int 18), some (.int 4), some (.int 17), none]) (st' := [.ref 10]) (AH' := [.inr (9, [.ref 1, .ref 2, .ref 3, .ref 4, .int (MVPc v4), .int (MVIs v4), .int (MVTh v4), .ref 5, .int (MVSl v4), .ref 6, .int (MVLn v4), .int (MVEc v4), .int (MVEo v4), .int (MVSa v4), .int (MVEn v4), .int (MVTk v4), .int (MVVa v4), .int (MVFa v4), .int (MVFo v4), .ref 7, .int (MVSc v4), .ref 8, .ref 9, .int (MVOl v4)]), .inl (0, 500, .inl (MVSt v4)), .inl (0, 500, .inl (MVAs v4)), .inl (0, 500, .inl (MVSv v4)), .inl (0, 4000, .inl (MVPt v4)), .inl (0, 6, .inl (MVSp v4)), .inl (3, 600, .inl (MVBf v4)), .inl (0, 150, .inl (MVSm v4)), .inl (0, 40, .inl (MVOr v4)), .inl (3, 240, .inl (MVOu v4)), .inl (0, 24, .inl jb5)]) ?_ rfl rfl rfl rfl
  refine go_s 3 X (pc2 := 209) (st2 := [.int 1, .int 5, .ref 10, .ref 10]) rfl ?_
  refine r_iast X (o := 10) (n := 24) (f := jb5) rfl rfl (show ¬ oob 5 24 by decide) ?_
  refine AW.eq (pc' := 210) (ls' := [some (.ref 0), some (.ref (SB + 26)), some (.int 18), some (.int 4), some (.int 17), none]) (st' := [.ref 10]) (AH' := [.inr (9, [.ref 1, .ref 2, .ref 3, .ref 4, .int (MVPc v4), .int (MVIs v4), .int (MVTh v4), .ref 5, .int (MVSl v4), .ref 6, .int (MVLn v4), .int (MVEc v4), .int (MVEo v4), .int (MVSa v4), .int (MVEn v4), .int (MVTk v4), .int (MVVa v4), .int (MVFa v4), .int (MVFo v4), .ref 7, .int (MVSc v4), .ref 8, .ref 9, .int (MVOl v4)]), .inl (0, 500, .inl (MVSt v4)), .inl (0, 500, .inl (MVAs v4)), .inl (0, 500, .inl (MVSv v4)), .inl (0, 4000, .inl (MVPt v4)), .inl (0, 6, .inl (MVSp v4)), .inl (3, 600, .inl (MVBf v4)), .inl (0, 150, .inl (MVSm v4)), .inl (0, 40, .inl (MVOr v4)), .inl (3, 240, .inl (MVOu v4)), .inl (0, 24, .inl jb6)]) ?_ rfl rfl rfl rfl
  refine go_s 3 X (pc2 := 215) (st2 := [.int 30, .int 6, .ref 10, .ref 10]) rfl ?_
  refine r_iast X (o := 10) (n := 24) (f := jb6) rfl rfl (show ¬ oob 6 24 by decide) ?_
  refine AW.eq (pc' := 216) (ls' := [some (.ref 0), some (.ref (SB + 26)), some (.int 18), some (.int 4), some (.int 17), none]) (st' := [.ref 10]) (AH' := [.inr (9, [.ref 1, .ref 2, .ref 3, .ref 4, .int (MVPc v4), .int (MVIs v4), .int (MVTh v4), .ref 5, .int (MVSl v4), .ref 6, .int (MVLn v4), .int (MVEc v4), .int (MVEo v4), .int (MVSa v4), .int (MVEn v4), .int (MVTk v4), .int (MVVa v4), .int (MVFa v4), .int (MVFo v4), .ref 7, .int (MVSc v4), .ref 8, .ref 9, .int (MVOl v4)]), .inl (0, 500, .inl (MVSt v4)), .inl (0, 500, .inl (MVAs v4)), .inl (0, 500, .inl (MVSv v4)), .inl (0, 4000, .inl (MVPt v4)), .inl (0, 6, .inl (MVSp v4)), .inl (3, 600, .inl (MVBf v4)), .inl (0, 150, .inl (MVSm v4)), .inl (0, 40, .inl (MVOr v4)), .inl (3, 240, .inl (MVOu v4)), .inl (0, 24, .inl jb7)]) ?_ rfl rfl rfl rfl
  refine go_s 3 X (pc2 := 220) (st2 := [.int 4, .int 7, .ref 10, .ref 10]) rfl ?_
  refine r_iast X (o := 10) (n := 24) (f := jb7) rfl rfl (show ¬ oob 7 24 by decide) ?_
  refine AW.eq (pc' := 221) (ls' := [some (.ref 0), some (.ref (SB + 26)), some (.int 18), some (.int 4), some (.int 17), none]) (st' := [.ref 10]) (AH' := [.inr (9, [.ref 1, .ref 2, .ref 3, .ref 4, .int (MVPc v4), .int (MVIs v4), .int (MVTh v4), .ref 5, .int (MVSl v4), .ref 6, .int (MVLn v4), .int (MVEc v4), .int (MVEo v4), .int (MVSa v4), .int (MVEn v4), .int (MVTk v4), .int (MVVa v4), .int (MVFa v4), .int (MVFo v4), .ref 7, .int (MVSc v4), .ref 8, .ref 9, .int (MVOl v4)]), .inl (0, 500, .inl (MVSt v4)), .inl (0, 500, .inl (MVAs v4)), .inl (0, 500, .inl (MVSv v4)), .inl (0, 4000, .inl (MVPt v4)), .inl (0, 6, .inl (MVSp v4)), .inl (3, 600, .inl (MVBf v4)), .inl (0, 150, .inl (MVSm v4)), .inl (0, 40, .inl (MVOr v4)), .inl (3, 240, .inl (MVOu v4)), .inl (0, 24, .inl jb8)]) ?_ rfl rfl rfl rfl
  refine go_s 3 X (pc2 := 225) (st2 := [.int 0, .int 8, .ref 10, .ref 10]) rfl ?_
  refine r_iast X (o := 10) (n := 24) (f := jb8) rfl rfl (show ¬ oob 8 24 by decide) ?_
  refine AW.eq (pc' := 226) (ls' := [some (.ref 0), some (.ref (SB + 26)), some (.int 18), some (.int 4), some (.int 17), none]) (st' := [.ref 10]) (AH' := [.inr (9, [.ref 1, .ref 2, .ref 3, .ref 4, .int (MVPc v4), .int (MVIs v4), .int (MVTh v4), .ref 5, .int (MVSl v4), .ref 6, .int (MVLn v4), .int (MVEc v4), .int (MVEo v4), .int (MVSa v4), .int (MVEn v4), .int (MVTk v4), .int (MVVa v4), .int (MVFa v4), .int (MVFo v4), .ref 7, .int (MVSc v4), .ref 8, .ref 9, .int (MVOl v4)]), .inl (0, 500, .inl (MVSt v4)), .inl (0, 500, .inl (MVAs v4)), .inl (0, 500, .inl (MVSv v4)), .inl (0, 4000, .inl (MVPt v4)), .inl (0, 6, .inl (MVSp v4)), .inl (3, 600, .inl (MVBf v4)), .inl (0, 150, .inl (MVSm v4)), .inl (0, 40, .inl (MVOr v4)), .inl (3, 240, .inl (MVOu v4)), .inl (0, 24, .inl jb9)]) ?_ rfl rfl rfl rfl
  refine go_s 3 X (pc2 := 230) (st2 := [.int 0, .int 9, .ref 10, .ref 10]) rfl ?_
  refine r_iast X (o := 10) (n := 24) (f := jb9) rfl rfl (show ¬ oob 9 24 by decide) ?_
  refine AW.eq (pc' := 231) (ls' := [some (.ref 0), some (.ref (SB + 26)), some (.int 18), some (.int 4), some (.int 17), none]) (st' := [.ref 10]) (AH' := [.inr (9, [.ref 1, .ref 2, .ref 3, .ref 4, .int (MVPc v4), .int (MVIs v4), .int (MVTh v4), .ref 5, .int (MVSl v4), .ref 6, .int (MVLn v4), .int (MVEc v4), .int (MVEo v4), .int (MVSa v4), .int (MVEn v4), .int (MVTk v4), .int (MVVa v4), .int (MVFa v4), .int (MVFo v4), .ref 7, .int (MVSc v4), .ref 8, .ref 9, .int (MVOl v4)]), .inl (0, 500, .inl (MVSt v4)), .inl (0, 500, .inl (MVAs v4)), .inl (0, 500, .inl (MVSv v4)), .inl (0, 4000, .inl (MVPt v4)), .inl (0, 6, .inl (MVSp v4)), .inl (3, 600, .inl (MVBf v4)), .inl (0, 150, .inl (MVSm v4)), .inl (0, 40, .inl (MVOr v4)), .inl (3, 240, .inl (MVOu v4)), .inl (0, 24, .inl jb10)]) ?_ rfl rfl rfl rfl
  refine go_s 3 X (pc2 := 236) (st2 := [.int 70, .int 10, .ref 10, .ref 10]) rfl ?_
  refine r_iast X (o := 10) (n := 24) (f := jb10) rfl rfl (show ¬ oob 10 24 by decide) ?_
  refine AW.eq (pc' := 237) (ls' := [some (.ref 0), some (.ref (SB + 26)), some (.int 18), some (.int 4), some (.int 17), none]) (st' := [.ref 10]) (AH' := [.inr (9, [.ref 1, .ref 2, .ref 3, .ref 4, .int (MVPc v4), .int (MVIs v4), .int (MVTh v4), .ref 5, .int (MVSl v4), .ref 6, .int (MVLn v4), .int (MVEc v4), .int (MVEo v4), .int (MVSa v4), .int (MVEn v4), .int (MVTk v4), .int (MVVa v4), .int (MVFa v4), .int (MVFo v4), .ref 7, .int (MVSc v4), .ref 8, .ref 9, .int (MVOl v4)]), .inl (0, 500, .inl (MVSt v4)), .inl (0, 500, .inl (MVAs v4)), .inl (0, 500, .inl (MVSv v4)), .inl (0, 4000, .inl (MVPt v4)), .inl (0, 6, .inl (MVSp v4)), .inl (3, 600, .inl (MVBf v4)), .inl (0, 150, .inl (MVSm v4)), .inl (0, 40, .inl (MVOr v4)), .inl (3, 240, .inl (MVOu v4)), .inl (0, 24, .inl jb11)]) ?_ rfl rfl rfl rfl
  refine go_s 3 X (pc2 := 242) (st2 := [.int 25, .int 11, .ref 10, .ref 10]) rfl ?_
  refine r_iast X (o := 10) (n := 24) (f := jb11) rfl rfl (show ¬ oob 11 24 by decide) ?_
  refine AW.eq (pc' := 243) (ls' := [some (.ref 0), some (.ref (SB + 26)), some (.int 18), some (.int 4), some (.int 17), none]) (st' := [.ref 10]) (AH' := [.inr (9, [.ref 1, .ref 2, .ref 3, .ref 4, .int (MVPc v4), .int (MVIs v4), .int (MVTh v4), .ref 5, .int (MVSl v4), .ref 6, .int (MVLn v4), .int (MVEc v4), .int (MVEo v4), .int (MVSa v4), .int (MVEn v4), .int (MVTk v4), .int (MVVa v4), .int (MVFa v4), .int (MVFo v4), .ref 7, .int (MVSc v4), .ref 8, .ref 9, .int (MVOl v4)]), .inl (0, 500, .inl (MVSt v4)), .inl (0, 500, .inl (MVAs v4)), .inl (0, 500, .inl (MVSv v4)), .inl (0, 4000, .inl (MVPt v4)), .inl (0, 6, .inl (MVSp v4)), .inl (3, 600, .inl (MVBf v4)), .inl (0, 150, .inl (MVSm v4)), .inl (0, 40, .inl (MVOr v4)), .inl (3, 240, .inl (MVOu v4)), .inl (0, 24, .inl jb12)]) ?_ rfl rfl rfl rfl
  refine go_s 3 X (pc2 := 247) (st2 := [.int 0, .int 12, .ref 10, .ref 10]) rfl ?_
  refine r_iast X (o := 10) (n := 24) (f := jb12) rfl rfl (show ¬ oob 12 24 by decide) ?_
  refine AW.eq (pc' := 248) (ls' := [some (.ref 0), some (.ref (SB + 26)), some (.int 18), some (.int 4), some (.int 17), none]) (st' := [.ref 10]) (AH' := [.inr (9, [.ref 1, .ref 2, .ref 3, .ref 4, .int (MVPc v4), .int (MVIs v4), .int (MVTh v4), .ref 5, .int (MVSl v4), .ref 6, .int (MVLn v4), .int (MVEc v4), .int (MVEo v4), .int (MVSa v4), .int (MVEn v4), .int (MVTk v4), .int (MVVa v4), .int (MVFa v4), .int (MVFo v4), .ref 7, .int (MVSc v4), .ref 8, .ref 9, .int (MVOl v4)]), .inl (0, 500, .inl (MVSt v4)), .inl (0, 500, .inl (MVAs v4)), .inl (0, 500, .inl (MVSv v4)), .inl (0, 4000, .inl (MVPt v4)), .inl (0, 6, .inl (MVSp v4)), .inl (3, 600, .inl (MVBf v4)), .inl (0, 150, .inl (MVSm v4)), .inl (0, 40, .inl (MVOr v4)), .inl (3, 240, .inl (MVOu v4)), .inl (0, 24, .inl jb13)]) ?_ rfl rfl rfl rfl
  refine go_s 3 X (pc2 := 252) (st2 := [.int 1, .int 13, .ref 10, .ref 10]) rfl ?_
  refine r_iast X (o := 10) (n := 24) (f := jb13) rfl rfl (show ¬ oob 13 24 by decide) ?_
  refine AW.eq (pc' := 253) (ls' := [some (.ref 0), some (.ref (SB + 26)), some (.int 18), some (.int 4), some (.int 17), none]) (st' := [.ref 10]) (AH' := [.inr (9, [.ref 1, .ref 2, .ref 3, .ref 4, .int (MVPc v4), .int (MVIs v4), .int (MVTh v4), .ref 5, .int (MVSl v4), .ref 6, .int (MVLn v4), .int (MVEc v4), .int (MVEo v4), .int (MVSa v4), .int (MVEn v4), .int (MVTk v4), .int (MVVa v4), .int (MVFa v4), .int (MVFo v4), .ref 7, .int (MVSc v4), .ref 8, .ref 9, .int (MVOl v4)]), .inl (0, 500, .inl (MVSt v4)), .inl (0, 500, .inl (MVAs v4)), .inl (0, 500, .inl (MVSv v4)), .inl (0, 4000, .inl (MVPt v4)), .inl (0, 6, .inl (MVSp v4)), .inl (3, 600, .inl (MVBf v4)), .inl (0, 150, .inl (MVSm v4)), .inl (0, 40, .inl (MVOr v4)), .inl (3, 240, .inl (MVOu v4)), .inl (0, 24, .inl jb14)]) ?_ rfl rfl rfl rfl
  refine go_s 3 X (pc2 := 258) (st2 := [.int 40, .int 14, .ref 10, .ref 10]) rfl ?_
  refine r_iast X (o := 10) (n := 24) (f := jb14) rfl rfl (show ¬ oob 14 24 by decide) ?_
  refine AW.eq (pc' := 259) (ls' := [some (.ref 0), some (.ref (SB + 26)), some (.int 18), some (.int 4), some (.int 17), none]) (st' := [.ref 10]) (AH' := [.inr (9, [.ref 1, .ref 2, .ref 3, .ref 4, .int (MVPc v4), .int (MVIs v4), .int (MVTh v4), .ref 5, .int (MVSl v4), .ref 6, .int (MVLn v4), .int (MVEc v4), .int (MVEo v4), .int (MVSa v4), .int (MVEn v4), .int (MVTk v4), .int (MVVa v4), .int (MVFa v4), .int (MVFo v4), .ref 7, .int (MVSc v4), .ref 8, .ref 9, .int (MVOl v4)]), .inl (0, 500, .inl (MVSt v4)), .inl (0, 500, .inl (MVAs v4)), .inl (0, 500, .inl (MVSv v4)), .inl (0, 4000, .inl (MVPt v4)), .inl (0, 6, .inl (MVSp v4)), .inl (3, 600, .inl (MVBf v4)), .inl (0, 150, .inl (MVSm v4)), .inl (0, 40, .inl (MVOr v4)), .inl (3, 240, .inl (MVOu v4)), .inl (0, 24, .inl jb15)]) ?_ rfl rfl rfl rfl
  refine go_s 3 X (pc2 := 264) (st2 := [.int 8, .int 15, .ref 10, .ref 10]) rfl ?_
  refine r_iast X (o := 10) (n := 24) (f := jb15) rfl rfl (show ¬ oob 15 24 by decide) ?_
  refine AW.eq (pc' := 265) (ls' := [some (.ref 0), some (.ref (SB + 26)), some (.int 18), some (.int 4), some (.int 17), none]) (st' := [.ref 10]) (AH' := [.inr (9, [.ref 1, .ref 2, .ref 3, .ref 4, .int (MVPc v4), .int (MVIs v4), .int (MVTh v4), .ref 5, .int (MVSl v4), .ref 6, .int (MVLn v4), .int (MVEc v4), .int (MVEo v4), .int (MVSa v4), .int (MVEn v4), .int (MVTk v4), .int (MVVa v4), .int (MVFa v4), .int (MVFo v4), .ref 7, .int (MVSc v4), .ref 8, .ref 9, .int (MVOl v4)]), .inl (0, 500, .inl (MVSt v4)), .inl (0, 500, .inl (MVAs v4)), .inl (0, 500, .inl (MVSv v4)), .inl (0, 4000, .inl (MVPt v4)), .inl (0, 6, .inl (MVSp v4)), .inl (3, 600, .inl (MVBf v4)), .inl (0, 150, .inl (MVSm v4)), .inl (0, 40, .inl (MVOr v4)), .inl (3, 240, .inl (MVOu v4)), .inl (0, 24, .inl jb16)]) ?_ rfl rfl rfl rfl
  refine go_s 3 X (pc2 := 269) (st2 := [.int 1, .int 16, .ref 10, .ref 10]) rfl ?_
  refine r_iast X (o := 10) (n := 24) (f := jb16) rfl rfl (show ¬ oob 16 24 by decide) ?_
  refine AW.eq (pc' := 270) (ls' := [some (.ref 0), some (.ref (SB + 26)), some (.int 18), some (.int 4), some (.int 17), none]) (st' := [.ref 10]) (AH' := [.inr (9, [.ref 1, .ref 2, .ref 3, .ref 4, .int (MVPc v4), .int (MVIs v4), .int (MVTh v4), .ref 5, .int (MVSl v4), .ref 6, .int (MVLn v4), .int (MVEc v4), .int (MVEo v4), .int (MVSa v4), .int (MVEn v4), .int (MVTk v4), .int (MVVa v4), .int (MVFa v4), .int (MVFo v4), .ref 7, .int (MVSc v4), .ref 8, .ref 9, .int (MVOl v4)]), .inl (0, 500, .inl (MVSt v4)), .inl (0, 500, .inl (MVAs v4)), .inl (0, 500, .inl (MVSv v4)), .inl (0, 4000, .inl (MVPt v4)), .inl (0, 6, .inl (MVSp v4)), .inl (3, 600, .inl (MVBf v4)), .inl (0, 150, .inl (MVSm v4)), .inl (0, 40, .inl (MVOr v4)), .inl (3, 240, .inl (MVOu v4)), .inl (0, 24, .inl jb17)]) ?_ rfl rfl rfl rfl
  refine go_s 3 X (pc2 := 274) (st2 := [.int 0, .int 17, .ref 10, .ref 10]) rfl ?_
  refine r_iast X (o := 10) (n := 24) (f := jb17) rfl rfl (show ¬ oob 17 24 by decide) ?_
  refine AW.eq (pc' := 275) (ls' := [some (.ref 0), some (.ref (SB + 26)), some (.int 18), some (.int 4), some (.int 17), none]) (st' := [.ref 10]) (AH' := [.inr (9, [.ref 1, .ref 2, .ref 3, .ref 4, .int (MVPc v4), .int (MVIs v4), .int (MVTh v4), .ref 5, .int (MVSl v4), .ref 6, .int (MVLn v4), .int (MVEc v4), .int (MVEo v4), .int (MVSa v4), .int (MVEn v4), .int (MVTk v4), .int (MVVa v4), .int (MVFa v4), .int (MVFo v4), .ref 7, .int (MVSc v4), .ref 8, .ref 9, .int (MVOl v4)]), .inl (0, 500, .inl (MVSt v4)), .inl (0, 500, .inl (MVAs v4)), .inl (0, 500, .inl (MVSv v4)), .inl (0, 4000, .inl (MVPt v4)), .inl (0, 6, .inl (MVSp v4)), .inl (3, 600, .inl (MVBf v4)), .inl (0, 150, .inl (MVSm v4)), .inl (0, 40, .inl (MVOr v4)), .inl (3, 240, .inl (MVOu v4)), .inl (0, 24, .inl jb18)]) ?_ rfl rfl rfl rfl
  refine go_s 3 X (pc2 := 280) (st2 := [.int 20, .int 18, .ref 10, .ref 10]) rfl ?_
  refine r_iast X (o := 10) (n := 24) (f := jb18) rfl rfl (show ¬ oob 18 24 by decide) ?_
  refine AW.eq (pc' := 281) (ls' := [some (.ref 0), some (.ref (SB + 26)), some (.int 18), some (.int 4), some (.int 17), none]) (st' := [.ref 10]) (AH' := [.inr (9, [.ref 1, .ref 2, .ref 3, .ref 4, .int (MVPc v4), .int (MVIs v4), .int (MVTh v4), .ref 5, .int (MVSl v4), .ref 6, .int (MVLn v4), .int (MVEc v4), .int (MVEo v4), .int (MVSa v4), .int (MVEn v4), .int (MVTk v4), .int (MVVa v4), .int (MVFa v4), .int (MVFo v4), .ref 7, .int (MVSc v4), .ref 8, .ref 9, .int (MVOl v4)]), .inl (0, 500, .inl (MVSt v4)), .inl (0, 500, .inl (MVAs v4)), .inl (0, 500, .inl (MVSv v4)), .inl (0, 4000, .inl (MVPt v4)), .inl (0, 6, .inl (MVSp v4)), .inl (3, 600, .inl (MVBf v4)), .inl (0, 150, .inl (MVSm v4)), .inl (0, 40, .inl (MVOr v4)), .inl (3, 240, .inl (MVOu v4)), .inl (0, 24, .inl jb19)]) ?_ rfl rfl rfl rfl
  refine go_s 3 X (pc2 := 285) (st2 := [.int 3, .int 19, .ref 10, .ref 10]) rfl ?_
  refine r_iast X (o := 10) (n := 24) (f := jb19) rfl rfl (show ¬ oob 19 24 by decide) ?_
  refine AW.eq (pc' := 286) (ls' := [some (.ref 0), some (.ref (SB + 26)), some (.int 18), some (.int 4), some (.int 17), none]) (st' := [.ref 10]) (AH' := [.inr (9, [.ref 1, .ref 2, .ref 3, .ref 4, .int (MVPc v4), .int (MVIs v4), .int (MVTh v4), .ref 5, .int (MVSl v4), .ref 6, .int (MVLn v4), .int (MVEc v4), .int (MVEo v4), .int (MVSa v4), .int (MVEn v4), .int (MVTk v4), .int (MVVa v4), .int (MVFa v4), .int (MVFo v4), .ref 7, .int (MVSc v4), .ref 8, .ref 9, .int (MVOl v4)]), .inl (0, 500, .inl (MVSt v4)), .inl (0, 500, .inl (MVAs v4)), .inl (0, 500, .inl (MVSv v4)), .inl (0, 4000, .inl (MVPt v4)), .inl (0, 6, .inl (MVSp v4)), .inl (3, 600, .inl (MVBf v4)), .inl (0, 150, .inl (MVSm v4)), .inl (0, 40, .inl (MVOr v4)), .inl (3, 240, .inl (MVOu v4)), .inl (0, 24, .inl jb20)]) ?_ rfl rfl rfl rfl
  refine go_s 3 X (pc2 := 290) (st2 := [.int 1, .int 20, .ref 10, .ref 10]) rfl ?_
  refine r_iast X (o := 10) (n := 24) (f := jb20) rfl rfl (show ¬ oob 20 24 by decide) ?_
  refine AW.eq (pc' := 291) (ls' := [some (.ref 0), some (.ref (SB + 26)), some (.int 18), some (.int 4), some (.int 17), none]) (st' := [.ref 10]) (AH' := [.inr (9, [.ref 1, .ref 2, .ref 3, .ref 4, .int (MVPc v4), .int (MVIs v4), .int (MVTh v4), .ref 5, .int (MVSl v4), .ref 6, .int (MVLn v4), .int (MVEc v4), .int (MVEo v4), .int (MVSa v4), .int (MVEn v4), .int (MVTk v4), .int (MVVa v4), .int (MVFa v4), .int (MVFo v4), .ref 7, .int (MVSc v4), .ref 8, .ref 9, .int (MVOl v4)]), .inl (0, 500, .inl (MVSt v4)), .inl (0, 500, .inl (MVAs v4)), .inl (0, 500, .inl (MVSv v4)), .inl (0, 4000, .inl (MVPt v4)), .inl (0, 6, .inl (MVSp v4)), .inl (3, 600, .inl (MVBf v4)), .inl (0, 150, .inl (MVSm v4)), .inl (0, 40, .inl (MVOr v4)), .inl (3, 240, .inl (MVOu v4)), .inl (0, 24, .inl jb21)]) ?_ rfl rfl rfl rfl
  refine go_s 3 X (pc2 := 295) (st2 := [.int 1, .int 21, .ref 10, .ref 10]) rfl ?_
  refine r_iast X (o := 10) (n := 24) (f := jb21) rfl rfl (show ¬ oob 21 24 by decide) ?_
  refine AW.eq (pc' := 296) (ls' := [some (.ref 0), some (.ref (SB + 26)), some (.int 18), some (.int 4), some (.int 17), none]) (st' := [.ref 10]) (AH' := [.inr (9, [.ref 1, .ref 2, .ref 3, .ref 4, .int (MVPc v4), .int (MVIs v4), .int (MVTh v4), .ref 5, .int (MVSl v4), .ref 6, .int (MVLn v4), .int (MVEc v4), .int (MVEo v4), .int (MVSa v4), .int (MVEn v4), .int (MVTk v4), .int (MVVa v4), .int (MVFa v4), .int (MVFo v4), .ref 7, .int (MVSc v4), .ref 8, .ref 9, .int (MVOl v4)]), .inl (0, 500, .inl (MVSt v4)), .inl (0, 500, .inl (MVAs v4)), .inl (0, 500, .inl (MVSv v4)), .inl (0, 4000, .inl (MVPt v4)), .inl (0, 6, .inl (MVSp v4)), .inl (3, 600, .inl (MVBf v4)), .inl (0, 150, .inl (MVSm v4)), .inl (0, 40, .inl (MVOr v4)), .inl (3, 240, .inl (MVOu v4)), .inl (0, 24, .inl jb22)]) ?_ rfl rfl rfl rfl
  refine go_s 3 X (pc2 := 301) (st2 := [.int 60, .int 22, .ref 10, .ref 10]) rfl ?_
  refine r_iast X (o := 10) (n := 24) (f := jb22) rfl rfl (show ¬ oob 22 24 by decide) ?_
  refine AW.eq (pc' := 302) (ls' := [some (.ref 0), some (.ref (SB + 26)), some (.int 18), some (.int 4), some (.int 17), none]) (st' := [.ref 10]) (AH' := [.inr (9, [.ref 1, .ref 2, .ref 3, .ref 4, .int (MVPc v4), .int (MVIs v4), .int (MVTh v4), .ref 5, .int (MVSl v4), .ref 6, .int (MVLn v4), .int (MVEc v4), .int (MVEo v4), .int (MVSa v4), .int (MVEn v4), .int (MVTk v4), .int (MVVa v4), .int (MVFa v4), .int (MVFo v4), .ref 7, .int (MVSc v4), .ref 8, .ref 9, .int (MVOl v4)]), .inl (0, 500, .inl (MVSt v4)), .inl (0, 500, .inl (MVAs v4)), .inl (0, 500, .inl (MVSv v4)), .inl (0, 4000, .inl (MVPt v4)), .inl (0, 6, .inl (MVSp v4)), .inl (3, 600, .inl (MVBf v4)), .inl (0, 150, .inl (MVSm v4)), .inl (0, 40, .inl (MVOr v4)), .inl (3, 240, .inl (MVOu v4)), .inl (0, 24, .inl jb23)]) ?_ rfl rfl rfl rfl
  refine go_s 3 X (pc2 := 307) (st2 := [.int 6, .int 23, .ref 10, .ref 10]) rfl ?_
  refine r_iast X (o := 10) (n := 24) (f := jb23) rfl rfl (show ¬ oob 23 24 by decide) ?_
  refine AW.eq (pc' := 308) (ls' := [some (.ref 0), some (.ref (SB + 26)), some (.int 18), some (.int 4), some (.int 17), none]) (st' := [.ref 10]) (AH' := [.inr (9, [.ref 1, .ref 2, .ref 3, .ref 4, .int (MVPc v4), .int (MVIs v4), .int (MVTh v4), .ref 5, .int (MVSl v4), .ref 6, .int (MVLn v4), .int (MVEc v4), .int (MVEo v4), .int (MVSa v4), .int (MVEn v4), .int (MVTk v4), .int (MVVa v4), .int (MVFa v4), .int (MVFo v4), .ref 7, .int (MVSc v4), .ref 8, .ref 9, .int (MVOl v4)]), .inl (0, 500, .inl (MVSt v4)), .inl (0, 500, .inl (MVAs v4)), .inl (0, 500, .inl (MVSv v4)), .inl (0, 4000, .inl (MVPt v4)), .inl (0, 6, .inl (MVSp v4)), .inl (3, 600, .inl (MVBf v4)), .inl (0, 150, .inl (MVSm v4)), .inl (0, 40, .inl (MVOr v4)), .inl (3, 240, .inl (MVOu v4)), .inl (0, 24, .inl jb24)]) ?_ rfl rfl rfl rfl
  refine go_l 3 X (pc2 := 312) (ls2 := [some (.ref 0), some (.ref (SB + 26)), some (.int 18), some (.ref 10), some (.int 0), none]) (st2 := []) rfl ?_
  refine go_s 3 X (pc2 := 316) (st2 := [.int 24, .int 0]) rfl ?_
  refine r_icmp_ge X 353 rfl rfl (fun h => absurd h (by decide)) (fun _ => ?_)
  refine go_s 3 X (pc2 := 323) (st2 := [.int 0, .ref 10, .ref 0]) rfl ?_
  refine r_iald X (o := 10) (n := 24) (f := jb24) rfl rfl (show ¬ oob 0 24 by decide) ?_
  rw [show jb24 (Int32.toNatClampNeg 0) = 0 from by decide +kernel]
  refine go_s 4 X (pc2 := 329) (st2 := [.int 1, .ref 10, .int 0, .ref 0]) rfl ?_
  refine r_iald X (o := 10) (n := 24) (f := jb24) rfl rfl (show ¬ oob 1 24 by decide) ?_
  rw [show jb24 (Int32.toNatClampNeg 1) = 0 from by decide +kernel]
  refine go_s 4 X (pc2 := 335) (st2 := [.int 2, .ref 10, .int 0, .int 0, .ref 0]) rfl ?_
  refine r_iald X (o := 10) (n := 24) (f := jb24) rfl rfl (show ¬ oob 2 24 by decide) ?_
  rw [show jb24 (Int32.toNatClampNeg 2) = 50 from by decide +kernel]
  refine go_s 4 X (pc2 := 341) (st2 := [.int 3, .ref 10, .int 50, .int 0, .int 0, .ref 0]) rfl ?_
  refine r_iald X (o := 10) (n := 24) (f := jb24) rfl rfl (show ¬ oob 3 24 by decide) ?_
  rw [show jb24 (Int32.toNatClampNeg 3) = 10 from by decide +kernel]
  obtain ⟨r5, v5, hq5, h⟩ := bnd2_inv h
  refine q_callV X [0, 1, 2, 3, 4, 5, 6, 7, 8, 9] [] (AH2 := [.inr (9, [.ref 1, .ref 2, .ref 3, .ref 4, .int (MVPc v5), .int (MVIs v5), .int (MVTh v5), .ref 5, .int (MVSl v5), .ref 6, .int (MVLn v5), .int (MVEc v5), .int (MVEo v5), .int (MVSa v5), .int (MVEn v5), .int (MVTk v5), .int (MVVa v5), .int (MVFa v5), .int (MVFo v5), .ref 7, .int (MVSc v5), .ref 8, .ref 9, .int (MVOl v5)]), .inl (0, 500, .inl (MVSt v5)), .inl (0, 500, .inl (MVAs v5)), .inl (0, 500, .inl (MVSv v5)), .inl (0, 4000, .inl (MVPt v5)), .inl (0, 6, .inl (MVSp v5)), .inl (3, 600, .inl (MVBf v5)), .inl (0, 150, .inl (MVSm v5)), .inl (0, 40, .inl (MVOr v5)), .inl (3, 240, .inl (MVOu v5)), .inl (0, 24, .inl jb24)]) (st2 := [.int r5]) (c_X9_addJob _ _ _ _ _ _ _ hq5) ⟨rfl, rfl⟩ rfl k_X9_addJob l_X9_60 rfl rfl rfl rfl rfl (fit_of hR (by decide) (by decide) (by decide) (by decide)) (Nat.le_of_ble_eq_true rfl) (by decide) rfl rfl rfl ?_
  refine go_l 3 X (pc2 := 312) (ls2 := [some (.ref 0), some (.ref (SB + 26)), some (.int 18), some (.ref 10), some (.int 4), some (.int r5)]) (st2 := []) rfl ?_
  refine go_s 3 X (pc2 := 316) (st2 := [.int 24, .int 4]) rfl ?_
  refine r_icmp_ge X 353 rfl rfl (fun h => absurd h (by decide)) (fun _ => ?_)
  refine go_s 3 X (pc2 := 323) (st2 := [.int 4, .ref 10, .ref 0]) rfl ?_
  refine r_iald X (o := 10) (n := 24) (f := jb24) rfl rfl (show ¬ oob 4 24 by decide) ?_
  rw [show jb24 (Int32.toNatClampNeg 4) = 0 from by decide +kernel]
  refine go_s 4 X (pc2 := 329) (st2 := [.int 5, .ref 10, .int 0, .ref 0]) rfl ?_
  refine r_iald X (o := 10) (n := 24) (f := jb24) rfl rfl (show ¬ oob 5 24 by decide) ?_
  rw [show jb24 (Int32.toNatClampNeg 5) = 1 from by decide +kernel]
  refine go_s 4 X (pc2 := 335) (st2 := [.int 6, .ref 10, .int 1, .int 0, .ref 0]) rfl ?_
  refine r_iald X (o := 10) (n := 24) (f := jb24) rfl rfl (show ¬ oob 6 24 by decide) ?_
  rw [show jb24 (Int32.toNatClampNeg 6) = 30 from by decide +kernel]
  refine go_s 4 X (pc2 := 341) (st2 := [.int 7, .ref 10, .int 30, .int 1, .int 0, .ref 0]) rfl ?_
  refine r_iald X (o := 10) (n := 24) (f := jb24) rfl rfl (show ¬ oob 7 24 by decide) ?_
  rw [show jb24 (Int32.toNatClampNeg 7) = 4 from by decide +kernel]
  obtain ⟨r6, v6, hq6, h⟩ := bnd2_inv h
  refine q_callV X [0, 1, 2, 3, 4, 5, 6, 7, 8, 9] [] (AH2 := [.inr (9, [.ref 1, .ref 2, .ref 3, .ref 4, .int (MVPc v6), .int (MVIs v6), .int (MVTh v6), .ref 5, .int (MVSl v6), .ref 6, .int (MVLn v6), .int (MVEc v6), .int (MVEo v6), .int (MVSa v6), .int (MVEn v6), .int (MVTk v6), .int (MVVa v6), .int (MVFa v6), .int (MVFo v6), .ref 7, .int (MVSc v6), .ref 8, .ref 9, .int (MVOl v6)]), .inl (0, 500, .inl (MVSt v6)), .inl (0, 500, .inl (MVAs v6)), .inl (0, 500, .inl (MVSv v6)), .inl (0, 4000, .inl (MVPt v6)), .inl (0, 6, .inl (MVSp v6)), .inl (3, 600, .inl (MVBf v6)), .inl (0, 150, .inl (MVSm v6)), .inl (0, 40, .inl (MVOr v6)), .inl (3, 240, .inl (MVOu v6)), .inl (0, 24, .inl jb24)]) (st2 := [.int r6]) (c_X9_addJob _ _ _ _ _ _ _ hq6) ⟨rfl, rfl⟩ rfl k_X9_addJob l_X9_60 rfl rfl rfl rfl rfl (fit_of hR (by decide) (by decide) (by decide) (by decide)) (Nat.le_of_ble_eq_true rfl) (by decide) rfl rfl rfl ?_
  refine go_l 3 X (pc2 := 312) (ls2 := [some (.ref 0), some (.ref (SB + 26)), some (.int 18), some (.ref 10), some (.int 8), some (.int r6)]) (st2 := []) rfl ?_
  refine go_s 3 X (pc2 := 316) (st2 := [.int 24, .int 8]) rfl ?_
  refine r_icmp_ge X 353 rfl rfl (fun h => absurd h (by decide)) (fun _ => ?_)
  refine go_s 3 X (pc2 := 323) (st2 := [.int 8, .ref 10, .ref 0]) rfl ?_
  refine r_iald X (o := 10) (n := 24) (f := jb24) rfl rfl (show ¬ oob 8 24 by decide) ?_
  rw [show jb24 (Int32.toNatClampNeg 8) = 0 from by decide +kernel]
  refine go_s 4 X (pc2 := 329) (st2 := [.int 9, .ref 10, .int 0, .ref 0]) rfl ?_
  refine r_iald X (o := 10) (n := 24) (f := jb24) rfl rfl (show ¬ oob 9 24 by decide) ?_
  rw [show jb24 (Int32.toNatClampNeg 9) = 0 from by decide +kernel]
  refine go_s 4 X (pc2 := 335) (st2 := [.int 10, .ref 10, .int 0, .int 0, .ref 0]) rfl ?_
  refine r_iald X (o := 10) (n := 24) (f := jb24) rfl rfl (show ¬ oob 10 24 by decide) ?_
  rw [show jb24 (Int32.toNatClampNeg 10) = 70 from by decide +kernel]
  refine go_s 4 X (pc2 := 341) (st2 := [.int 11, .ref 10, .int 70, .int 0, .int 0, .ref 0]) rfl ?_
  refine r_iald X (o := 10) (n := 24) (f := jb24) rfl rfl (show ¬ oob 11 24 by decide) ?_
  rw [show jb24 (Int32.toNatClampNeg 11) = 25 from by decide +kernel]
  obtain ⟨r7, v7, hq7, h⟩ := bnd2_inv h
  refine q_callV X [0, 1, 2, 3, 4, 5, 6, 7, 8, 9] [] (AH2 := [.inr (9, [.ref 1, .ref 2, .ref 3, .ref 4, .int (MVPc v7), .int (MVIs v7), .int (MVTh v7), .ref 5, .int (MVSl v7), .ref 6, .int (MVLn v7), .int (MVEc v7), .int (MVEo v7), .int (MVSa v7), .int (MVEn v7), .int (MVTk v7), .int (MVVa v7), .int (MVFa v7), .int (MVFo v7), .ref 7, .int (MVSc v7), .ref 8, .ref 9, .int (MVOl v7)]), .inl (0, 500, .inl (MVSt v7)), .inl (0, 500, .inl (MVAs v7)), .inl (0, 500, .inl (MVSv v7)), .inl (0, 4000, .inl (MVPt v7)), .inl (0, 6, .inl (MVSp v7)), .inl (3, 600, .inl (MVBf v7)), .inl (0, 150, .inl (MVSm v7)), .inl (0, 40, .inl (MVOr v7)), .inl (3, 240, .inl (MVOu v7)), .inl (0, 24, .inl jb24)]) (st2 := [.int r7]) (c_X9_addJob _ _ _ _ _ _ _ hq7) ⟨rfl, rfl⟩ rfl k_X9_addJob l_X9_60 rfl rfl rfl rfl rfl (fit_of hR (by decide) (by decide) (by decide) (by decide)) (Nat.le_of_ble_eq_true rfl) (by decide) rfl rfl rfl ?_
  refine go_l 3 X (pc2 := 312) (ls2 := [some (.ref 0), some (.ref (SB + 26)), some (.int 18), some (.ref 10), some (.int 12), some (.int r7)]) (st2 := []) rfl ?_
  refine go_s 3 X (pc2 := 316) (st2 := [.int 24, .int 12]) rfl ?_
  refine r_icmp_ge X 353 rfl rfl (fun h => absurd h (by decide)) (fun _ => ?_)
  refine go_s 3 X (pc2 := 323) (st2 := [.int 12, .ref 10, .ref 0]) rfl ?_
  refine r_iald X (o := 10) (n := 24) (f := jb24) rfl rfl (show ¬ oob 12 24 by decide) ?_
  rw [show jb24 (Int32.toNatClampNeg 12) = 0 from by decide +kernel]
  refine go_s 4 X (pc2 := 329) (st2 := [.int 13, .ref 10, .int 0, .ref 0]) rfl ?_
  refine r_iald X (o := 10) (n := 24) (f := jb24) rfl rfl (show ¬ oob 13 24 by decide) ?_
  rw [show jb24 (Int32.toNatClampNeg 13) = 1 from by decide +kernel]
  refine go_s 4 X (pc2 := 335) (st2 := [.int 14, .ref 10, .int 1, .int 0, .ref 0]) rfl ?_
  refine r_iald X (o := 10) (n := 24) (f := jb24) rfl rfl (show ¬ oob 14 24 by decide) ?_
  rw [show jb24 (Int32.toNatClampNeg 14) = 40 from by decide +kernel]
  refine go_s 4 X (pc2 := 341) (st2 := [.int 15, .ref 10, .int 40, .int 1, .int 0, .ref 0]) rfl ?_
  refine r_iald X (o := 10) (n := 24) (f := jb24) rfl rfl (show ¬ oob 15 24 by decide) ?_
  rw [show jb24 (Int32.toNatClampNeg 15) = 8 from by decide +kernel]
  obtain ⟨r8, v8, hq8, h⟩ := bnd2_inv h
  refine q_callV X [0, 1, 2, 3, 4, 5, 6, 7, 8, 9] [] (AH2 := [.inr (9, [.ref 1, .ref 2, .ref 3, .ref 4, .int (MVPc v8), .int (MVIs v8), .int (MVTh v8), .ref 5, .int (MVSl v8), .ref 6, .int (MVLn v8), .int (MVEc v8), .int (MVEo v8), .int (MVSa v8), .int (MVEn v8), .int (MVTk v8), .int (MVVa v8), .int (MVFa v8), .int (MVFo v8), .ref 7, .int (MVSc v8), .ref 8, .ref 9, .int (MVOl v8)]), .inl (0, 500, .inl (MVSt v8)), .inl (0, 500, .inl (MVAs v8)), .inl (0, 500, .inl (MVSv v8)), .inl (0, 4000, .inl (MVPt v8)), .inl (0, 6, .inl (MVSp v8)), .inl (3, 600, .inl (MVBf v8)), .inl (0, 150, .inl (MVSm v8)), .inl (0, 40, .inl (MVOr v8)), .inl (3, 240, .inl (MVOu v8)), .inl (0, 24, .inl jb24)]) (st2 := [.int r8]) (c_X9_addJob _ _ _ _ _ _ _ hq8) ⟨rfl, rfl⟩ rfl k_X9_addJob l_X9_60 rfl rfl rfl rfl rfl (fit_of hR (by decide) (by decide) (by decide) (by decide)) (Nat.le_of_ble_eq_true rfl) (by decide) rfl rfl rfl ?_
  refine go_l 3 X (pc2 := 312) (ls2 := [some (.ref 0), some (.ref (SB + 26)), some (.int 18), some (.ref 10), some (.int 16), some (.int r8)]) (st2 := []) rfl ?_
  refine go_s 3 X (pc2 := 316) (st2 := [.int 24, .int 16]) rfl ?_
  refine r_icmp_ge X 353 rfl rfl (fun h => absurd h (by decide)) (fun _ => ?_)
  refine go_s 3 X (pc2 := 323) (st2 := [.int 16, .ref 10, .ref 0]) rfl ?_
  refine r_iald X (o := 10) (n := 24) (f := jb24) rfl rfl (show ¬ oob 16 24 by decide) ?_
  rw [show jb24 (Int32.toNatClampNeg 16) = 1 from by decide +kernel]
  refine go_s 4 X (pc2 := 329) (st2 := [.int 17, .ref 10, .int 1, .ref 0]) rfl ?_
  refine r_iald X (o := 10) (n := 24) (f := jb24) rfl rfl (show ¬ oob 17 24 by decide) ?_
  rw [show jb24 (Int32.toNatClampNeg 17) = 0 from by decide +kernel]
  refine go_s 4 X (pc2 := 335) (st2 := [.int 18, .ref 10, .int 0, .int 1, .ref 0]) rfl ?_
  refine r_iald X (o := 10) (n := 24) (f := jb24) rfl rfl (show ¬ oob 18 24 by decide) ?_
  rw [show jb24 (Int32.toNatClampNeg 18) = 20 from by decide +kernel]
  refine go_s 4 X (pc2 := 341) (st2 := [.int 19, .ref 10, .int 20, .int 0, .int 1, .ref 0]) rfl ?_
  refine r_iald X (o := 10) (n := 24) (f := jb24) rfl rfl (show ¬ oob 19 24 by decide) ?_
  rw [show jb24 (Int32.toNatClampNeg 19) = 3 from by decide +kernel]
  obtain ⟨r9, v9, hq9, h⟩ := bnd2_inv h
  refine q_callV X [0, 1, 2, 3, 4, 5, 6, 7, 8, 9] [] (AH2 := [.inr (9, [.ref 1, .ref 2, .ref 3, .ref 4, .int (MVPc v9), .int (MVIs v9), .int (MVTh v9), .ref 5, .int (MVSl v9), .ref 6, .int (MVLn v9), .int (MVEc v9), .int (MVEo v9), .int (MVSa v9), .int (MVEn v9), .int (MVTk v9), .int (MVVa v9), .int (MVFa v9), .int (MVFo v9), .ref 7, .int (MVSc v9), .ref 8, .ref 9, .int (MVOl v9)]), .inl (0, 500, .inl (MVSt v9)), .inl (0, 500, .inl (MVAs v9)), .inl (0, 500, .inl (MVSv v9)), .inl (0, 4000, .inl (MVPt v9)), .inl (0, 6, .inl (MVSp v9)), .inl (3, 600, .inl (MVBf v9)), .inl (0, 150, .inl (MVSm v9)), .inl (0, 40, .inl (MVOr v9)), .inl (3, 240, .inl (MVOu v9)), .inl (0, 24, .inl jb24)]) (st2 := [.int r9]) (c_X9_addJob _ _ _ _ _ _ _ hq9) ⟨rfl, rfl⟩ rfl k_X9_addJob l_X9_60 rfl rfl rfl rfl rfl (fit_of hR (by decide) (by decide) (by decide) (by decide)) (Nat.le_of_ble_eq_true rfl) (by decide) rfl rfl rfl ?_
  refine go_l 3 X (pc2 := 312) (ls2 := [some (.ref 0), some (.ref (SB + 26)), some (.int 18), some (.ref 10), some (.int 20), some (.int r9)]) (st2 := []) rfl ?_
  refine go_s 3 X (pc2 := 316) (st2 := [.int 24, .int 20]) rfl ?_
  refine r_icmp_ge X 353 rfl rfl (fun h => absurd h (by decide)) (fun _ => ?_)
  refine go_s 3 X (pc2 := 323) (st2 := [.int 20, .ref 10, .ref 0]) rfl ?_
  refine r_iald X (o := 10) (n := 24) (f := jb24) rfl rfl (show ¬ oob 20 24 by decide) ?_
  rw [show jb24 (Int32.toNatClampNeg 20) = 1 from by decide +kernel]
  refine go_s 4 X (pc2 := 329) (st2 := [.int 21, .ref 10, .int 1, .ref 0]) rfl ?_
  refine r_iald X (o := 10) (n := 24) (f := jb24) rfl rfl (show ¬ oob 21 24 by decide) ?_
  rw [show jb24 (Int32.toNatClampNeg 21) = 1 from by decide +kernel]
  refine go_s 4 X (pc2 := 335) (st2 := [.int 22, .ref 10, .int 1, .int 1, .ref 0]) rfl ?_
  refine r_iald X (o := 10) (n := 24) (f := jb24) rfl rfl (show ¬ oob 22 24 by decide) ?_
  rw [show jb24 (Int32.toNatClampNeg 22) = 60 from by decide +kernel]
  refine go_s 4 X (pc2 := 341) (st2 := [.int 23, .ref 10, .int 60, .int 1, .int 1, .ref 0]) rfl ?_
  refine r_iald X (o := 10) (n := 24) (f := jb24) rfl rfl (show ¬ oob 23 24 by decide) ?_
  rw [show jb24 (Int32.toNatClampNeg 23) = 6 from by decide +kernel]
  obtain ⟨r10, v10, hq10, h⟩ := bnd2_inv h
  refine q_callV X [0, 1, 2, 3, 4, 5, 6, 7, 8, 9] [] (AH2 := [.inr (9, [.ref 1, .ref 2, .ref 3, .ref 4, .int (MVPc v10), .int (MVIs v10), .int (MVTh v10), .ref 5, .int (MVSl v10), .ref 6, .int (MVLn v10), .int (MVEc v10), .int (MVEo v10), .int (MVSa v10), .int (MVEn v10), .int (MVTk v10), .int (MVVa v10), .int (MVFa v10), .int (MVFo v10), .ref 7, .int (MVSc v10), .ref 8, .ref 9, .int (MVOl v10)]), .inl (0, 500, .inl (MVSt v10)), .inl (0, 500, .inl (MVAs v10)), .inl (0, 500, .inl (MVSv v10)), .inl (0, 4000, .inl (MVPt v10)), .inl (0, 6, .inl (MVSp v10)), .inl (3, 600, .inl (MVBf v10)), .inl (0, 150, .inl (MVSm v10)), .inl (0, 40, .inl (MVOr v10)), .inl (3, 240, .inl (MVOu v10)), .inl (0, 24, .inl jb24)]) (st2 := [.int r10]) (c_X9_addJob _ _ _ _ _ _ _ hq10) ⟨rfl, rfl⟩ rfl k_X9_addJob l_X9_60 rfl rfl rfl rfl rfl (fit_of hR (by decide) (by decide) (by decide) (by decide)) (Nat.le_of_ble_eq_true rfl) (by decide) rfl rfl rfl ?_
  refine go_l 3 X (pc2 := 312) (ls2 := [some (.ref 0), some (.ref (SB + 26)), some (.int 18), some (.ref 10), some (.int 24), some (.int r10)]) (st2 := []) rfl ?_
  refine go_s 3 X (pc2 := 316) (st2 := [.int 24, .int 24]) rfl ?_
  refine r_icmp_ge X 353 rfl rfl (fun _ => ?_) (fun h => absurd (by decide) h)
  refine go_s 1 X (pc2 := 354) (st2 := [.ref 0]) rfl ?_
  refine q_callV X [0, 1, 2, 3, 4, 5, 6, 7, 8, 9] [] (AH2 := [.inr (9, [.ref 1, .ref 2, .ref 3, .ref 4, .int (MVPc w), .int (MVIs w), .int (MVTh w), .ref 5, .int (MVSl w), .ref 6, .int (MVLn w), .int (MVEc w), .int (MVEo w), .int (MVSa w), .int (MVEn w), .int (MVTk w), .int (MVVa w), .int (MVFa w), .int (MVFo w), .ref 7, .int (MVSc w), .ref 8, .ref 9, .int (MVOl w)]), .inl (0, 500, .inl (MVSt w)), .inl (0, 500, .inl (MVAs w)), .inl (0, 500, .inl (MVSv w)), .inl (0, 4000, .inl (MVPt w)), .inl (0, 6, .inl (MVSp w)), .inl (3, 600, .inl (MVBf w)), .inl (0, 150, .inl (MVSm w)), .inl (0, 40, .inl (MVOr w)), .inl (3, 240, .inl (MVOu w)), .inl (0, 24, .inl jb24)]) (st2 := []) (c_X9_clearCounters _ _ _ h) ⟨rfl, rfl⟩ rfl k_X9_clearCounters l_X9_64 rfl rfl rfl rfl rfl (fit_of hR (by decide) (by decide) (by decide) (by decide)) (Nat.le_of_ble_eq_true rfl) (by decide) rfl rfl rfl ?_
  exact r_vret X rfl rfl ⟨rfl, rfl⟩ (by decide) (by decide)
theorem c_X9_init {w : MV} (h : ini9 mv00 = some ((), w)) : Sem z_X9_init 65 10 6560 [.ref 0] [.inr (9, [.null, .null, .null, .null, .int 0, .int 0, .int 0, .null, .int 0, .null, .int 0, .int 0, .int 0, .int 0, .int 0, .int 0, .int 0, .int 0, .int 0, .null, .int 0, .null, .null, .int 0])] (PST (.inl none) (WM w ++ [.inl (0, 24, .inl jb24)])) := by
  refine Sem.of zo_X9_init (by decide +kernel) (Nat.le_of_ble_eq_true rfl) fun κ X hE hR hN => ?_
  exact AW.eq (i_X9a X hR (i_X9b X hR mv00 () w h)) rfl rfl rfl rfl
