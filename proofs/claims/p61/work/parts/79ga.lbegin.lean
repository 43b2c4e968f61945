/-! ===== 79ga: queues and owners (gen79g.py) ===== -/
set_option maxRecDepth 20000 in
set_option maxHeartbeats 8000000 in
theorem law_b1 {κ : KX} {Q : State → Prop} {nm : String} {L : Nat} {xs : Nat → Int32} (X : CX κ (z_W nm)) (SX : SCX κ L xs) (hR : κR κ = room_1) (hL : L ≤ 260) {R4 : RV} {Y1 : YV} {S1 C1 : SV} {D1 : UV} (K : ∀ (x : Int32) (j j2 : Nat), j < 4 → j2 < 4 → AW κ Q 46 [some (.ref (SB + 201)), some (.ref 0), some (.ref 190), some (.int x), none, none] [] (LAt 0 R4 tv0 ov0 Y1 S1 C1 sv0 D1 uv0 (QV_sNo (QV_sNq q00 (nI (1 + j))) (nI (1 + j2)))) 500 10000) : AW κ Q 15 [some (.ref (SB + 201)), some (.ref 0), none, none, none, none] [.ref 190] (LAt 0 R4 tv0 ov0 Y1 S1 C1 sv0 D1 uv0 q00) 500 10000 := by
  refine go_l 3 X (pc2 := 18) (ls2 := [some (.ref (SB + 201)), some (.ref 0), some (.ref 190), none, none, none]) (st2 := [.int 0, .ref (SB + 201)]) rfl ?_
  refine lw_cell X SX hR hL (k := 0) (by decide) rfl (by decide) (by decide) (by decide) (fun x => ?_)
  refine go_l 6 X (pc2 := 27) (ls2 := [some (.ref (SB + 201)), some (.ref 0), some (.ref 190), some (.int x), none, none]) (st2 := [.int 2, .int 0, .int x, .int 1, .ref 190]) rfl ?_
  refine lw_bits X hR (k := 2) (by decide +kernel) rfl (by decide) (by decide) (by decide) (fun j hj => ?_)
  refine go_s 1 X (pc2 := 31) (st2 := [.int (1 + nI j), .ref 190]) rfl ?_
  rw [one_nI]
  refine r_putI X rfl rfl lt_190 rfl rfl rfl rfl (Nat.le_of_ble_eq_true rfl) ?_
  rw [show (lawO q00).set 8 (.int (nI (1 + j))) = lawO (QV_sNq q00 (nI (1 + j))) from rfl, lt_setNq]
  refine go_s 5 X (pc2 := 39) (st2 := [.int 2, .int 2, .int x, .int 1, .ref 190]) rfl ?_
  refine lw_bits X hR (k := 2) (by decide +kernel) rfl (by decide) (by decide) (by decide) (fun j2 hj2 => ?_)
  refine go_s 1 X (pc2 := 43) (st2 := [.int (1 + nI j2), .ref 190]) rfl ?_
  rw [one_nI]
  refine r_putI X rfl rfl lt_190 rfl rfl rfl rfl (Nat.le_of_ble_eq_true rfl) ?_
  rw [show (lawO (QV_sNq q00 (nI (1 + j)))).set 9 (.int (nI (1 + j2))) = lawO (QV_sNo (QV_sNq q00 (nI (1 + j))) (nI (1 + j2))) from rfl, lt_setNo]
  exact K x j j2 hj hj2
