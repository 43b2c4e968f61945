/-! ===== 79jb: put together (gen79ga.py) ===== -/
set_option maxRecDepth 20000 in
set_option maxHeartbeats 1000000 in
theorem law_b {κ : KX} {Q : State → Prop} {nm : String} {L : Nat} {xs : Nat → Int32} (X : CX κ (z_W nm)) (SX : SCX κ L xs) (hR : κR κ = room_1) (hL : L ≤ 260) {R4 : RV} {Y1 : YV} {S1 C1 : SV} {D1 : UV} (K : ∀ (x : Int32) (j j2 : Nat) (AH : List AC), j < 4 → j2 < 4 → BLD (LAt 0 R4 tv0 ov0 Y1 S1 C1 sv0 D1 uv0 (QV_sNo (QV_sNq q00 (nI (1 + j))) (nI (1 + j2)))) [] 201 AH → AW κ Q 58 (W6 x (nI 0)) [] AH 1000 20000) : AW κ Q 15 [some (.ref (SB + 201)), some (.ref 0), none, none, none, none] [.ref 190] (LAt 0 R4 tv0 ov0 Y1 S1 C1 sv0 D1 uv0 q00) 500 10000 :=
  law_b1a X SX hR hL (fun x => law_b1b X hR (fun j hj => law_b1c X hR (fun j2 hj2 => law_b2 X hR (fun AH hB => K x j j2 AH hj hj2 hB))))
