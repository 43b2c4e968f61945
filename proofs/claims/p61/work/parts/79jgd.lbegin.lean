/-! ===== 79gd: queues (gen79ga.py) ===== -/
set_option maxRecDepth 20000 in
set_option maxHeartbeats 1000000 in
theorem law_b1b {κ : KX} {Q : State → Prop} {nm : String} (X : CX κ (z_W nm)) (hR : κR κ = room_1) {x : Int32} {R4 : RV} {Y1 : YV} {S1 C1 : SV} {D1 : UV} {V : QV} (K : ∀ (j : Nat), j < 4 → AW κ Q 34 [some (.ref (SB + 201)), some (.ref 0), some (.ref 190), some (.int x), none, none] [] (LAt 0 R4 tv0 ov0 Y1 S1 C1 sv0 D1 uv0 (QV_sNq V (nI (1 + j)))) 500 10000) : AW κ Q 21 [some (.ref (SB + 201)), some (.ref 0), some (.ref 190), none, none, none] [.int x] (LAt 0 R4 tv0 ov0 Y1 S1 C1 sv0 D1 uv0 V) 500 10000 := by
  refine go_l 6 X (pc2 := 27) (ls2 := [some (.ref (SB + 201)), some (.ref 0), some (.ref 190), some (.int x), none, none]) (st2 := [.int 2, .int 0, .int x, .int 1, .ref 190]) rfl ?_
  refine lw_bits X hR (k := 2) (by decide +kernel) rfl (by decide) (by decide) (by decide) (fun j hj => ?_)
  refine go_s 1 X (pc2 := 31) (st2 := [.int (1 + nI j), .ref 190]) rfl ?_
  rw [one_nI]
  refine r_putI X rfl rfl lt_190 rfl rfl rfl rfl (Nat.le_of_ble_eq_true rfl) ?_
  refine AW.eq (K j hj) rfl rfl rfl ?_
  exact lt_setNq (nI (1 + j))
