/-! ===== 79gb: the builder is made (gen79g.py) ===== -/
set_option maxRecDepth 20000 in
set_option maxHeartbeats 1000000 in
theorem law_b2 {κ : KX} {Q : State → Prop} {nm : String} {x : Int32} {V : QV} (X : CX κ (z_W nm)) (hR : κR κ = room_1) {R4 : RV} {Y1 : YV} {S1 C1 : SV} {D1 : UV} (K : ∀ (AH : List AC), BLD (LAt 0 R4 tv0 ov0 Y1 S1 C1 sv0 D1 uv0 V) [] 201 AH → AW κ Q 58 (W6 x (nI 0)) [] AH 1000 20000) : AW κ Q 46 [some (.ref (SB + 201)), some (.ref 0), some (.ref 190), some (.int x), none, none] [] (LAt 0 R4 tv0 ov0 Y1 S1 C1 sv0 D1 uv0 V) 500 10000 := by
  refine r_new X 10 (fs := [.null, .int 0, .int 0, .int 0]) rfl rfl rfl (show (inALL (.classLink RL 204 "java/lang/StringBuilder") && (inALL (.instantiable "java/lang/StringBuilder" 4) && inALL (.initialized "java/lang/StringBuilder"))) = true from by decide +kernel) (fun j hj => by match j, hj with | 0, _ => rfl | 1, _ => rfl | 2, _ => rfl | 3, _ => rfl | n + 4, h => exact absurd (show n + 4 < 4 from h) (by omega)) rfl ⟨by rw [la_len_t]; exact la_clo_t, rfl, by rw [la_len_t]; rfl⟩ (by rw [la_len_t]; decide) (by rw [hR]; exact Nat.le_of_ble_eq_true rfl) (by rw [hR]; exact Nat.le_of_ble_eq_true rfl) ?_
  refine AW.eq (pc' := 49) (ls' := [some (.ref (SB + 201)), some (.ref 0), some (.ref 190), some (.int x), none, none]) (st' := [.ref 199]) (AH' := LAt 0 R4 tv0 ov0 Y1 S1 C1 sv0 D1 uv0 V ++ [.inr (10, [.null, .int 0, .int 0, .int 0])]) ?_ rfl rfl rfl rfl
  refine go_s 1 X (pc2 := 50) (st2 := [.ref 199, .ref 199]) rfl ?_
  refine r_gI X [199] [] (o := 0) (As := []) (rest := [.ref 199]) c_sb4 ⟨rfl, rfl⟩ rfl k_J4_init_da8c8 m_LW_206 rfl rfl (fitR hR (by decide) (by decide) (Nat.le_of_ble_eq_true rfl) (Nat.le_of_ble_eq_true rfl)) (by decide) (fun _ h => by cases h) (by rw [List.length_append, la_len_t]; decide) (by decide) ⟨clo_snoc la_len_t la_clo_t rfl, by rw [List.length_append, la_len_t]; rfl, by rw [List.length_append, la_len_t]; rfl⟩ (clo_all rfl) (grw_of (Nat.le_of_ble_eq_true rfl) (Nat.le_of_ble_eq_true rfl) rfl (fun _ h => by cases h)) (fun v W2 hp => ?_)
  obtain ⟨e1, rfl⟩ := hp
  cases e1
  refine AW.eq (pc' := 53) (ls' := [some (.ref (SB + 201)), some (.ref 0), some (.ref 190), some (.int x), none, none]) (st' := [.ref 199]) (AH' := LAt 0 R4 tv0 ov0 Y1 S1 C1 sv0 D1 uv0 V ++ (WB 16 z0 0 0).map (rnE (iof [199] [] 200))) ?_ rfl rfl rfl (grow_app rfl)
  refine go_l 3 X (pc2 := 58) (ls2 := W6 x (nI 0)) (st2 := []) rfl ?_
  refine AW.widen (Nat.le_of_ble_eq_true rfl) (Nat.le_of_ble_eq_true rfl) (K _ ?_)
  refine ⟨16, z0, 0, 200, [.inl (3, 16, .inl z0)], rfl, ⟨by decide, Nat.le_of_ble_eq_true rfl⟩, rfl, ⟨Nat.zero_le _, fun j c hj => (by cases j <;> cases hj), byf0⟩, ⟨by decide, by decide⟩, fun c hc => ?_, Nat.le_of_ble_eq_true rfl⟩
  rw [List.mem_singleton] at hc
  exact ⟨_, _, hc⟩
