/-! ===== 79jgc: the first cell (gen79ga.py) ===== -/
set_option maxRecDepth 20000 in
set_option maxHeartbeats 1000000 in
theorem law_b1a {κ : KX} {Q : State → Prop} {nm : String} {L : Nat} {xs : Nat → Int32} (X : CX κ (z_W nm)) (SX : SCX κ L xs) (hR : κR κ = room_1) (hL : L ≤ 260) {AH : List AC} (K : ∀ (x : Int32), AW κ Q 21 [some (.ref (SB + 201)), some (.ref 0), some (.ref 190), none, none, none] [.int x] AH 500 10000) : AW κ Q 15 [some (.ref (SB + 201)), some (.ref 0), none, none, none, none] [.ref 190] AH 500 10000 := by
  refine go_l 3 X (pc2 := 18) (ls2 := [some (.ref (SB + 201)), some (.ref 0), some (.ref 190), none, none, none]) (st2 := [.int (nI 0), .ref (SB + 201)]) rfl ?_
  exact lw_cell X SX hR hL (k := 0) (by decide) rfl (by decide) (by decide) (by decide) (fun x => K x)
