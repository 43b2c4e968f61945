/-! ===== 79ka: the law's object is made (gen79g.py) ===== -/
set_option maxRecDepth 20000 in
set_option maxHeartbeats 1000000 in
theorem wxs_len {hs : Int32} {R : RV} {T : TV} {O : OV} {Y : YV} {S C K : SV} {U D : UV} : (WXs hs R T O Y S C K U D).length = 190 := rfl
set_option maxRecDepth 20000 in
set_option maxHeartbeats 1000000 in
theorem wxs_clo {hs : Int32} {R : RV} {T : TV} {O : OV} {Y : YV} {S C K : SV} {U D : UV} : ∀ c ∈ WXs hs R T O Y S C K U D, cloE 190 c := clo_at 12 rfl (hA_lt (Nat.le_of_ble_eq_true rfl)) rfl
set_option maxRecDepth 20000 in
set_option maxHeartbeats 1000000 in
theorem la_new {hs : Int32} {R : RV} {T : TV} {O : OV} {Y : YV} {S C0 K0 : SV} {U D : UV} (V : QV) : WXs hs R T O Y S C0 K0 U D ++ (WQ V).map (rnE (iof [190] [] 191)) = LAt hs R T O Y S C0 K0 U D V := rfl
set_option maxRecDepth 20000 in
set_option maxHeartbeats 1000000 in
theorem law_a2 {κ : KX} {Q : State → Prop} {nm : String} {hs : Int32} {R : RV} {T : TV} {O : OV} {Y : YV} {S C0 K0 : SV} {U D : UV} (X : CX κ (z_W nm)) (hR : κR κ = room_1) (K : AW κ Q 15 [some (.ref (SB + 201)), some (.ref 0), none, none, none, none] [.ref 190] (LAt hs R T O Y S C0 K0 U D q00) 500 10000) : AW κ Q 7 [some (.ref (SB + 201)), none, none, none, none, none] [.ref 0] (WXs hs R T O Y S C0 K0 U D) 400 8000 := by
  refine go_l 1 X (pc2 := 8) (ls2 := [some (.ref (SB + 201)), some (.ref 0), none, none, none, none]) (st2 := []) rfl ?_
  refine r_new X 9 (fs := [.null, .null, .null, .null, .null, .null, .null, .null, .int 0, .int 0, .int 0, .int 0]) rfl rfl rfl (show (inALL (.classLink RL 8 "LeftistSpoolerLaw") && (inALL (.instantiable "LeftistSpoolerLaw" 12) && inALL (.initialized "LeftistSpoolerLaw"))) = true from by decide +kernel) (fun j hj => by match j, hj with | 0, _ => rfl | 1, _ => rfl | 2, _ => rfl | 3, _ => rfl | 4, _ => rfl | 5, _ => rfl | 6, _ => rfl | 7, _ => rfl | 8, _ => rfl | 9, _ => rfl | 10, _ => rfl | 11, _ => rfl | n + 12, h => exact absurd (show n + 12 < 12 from h) (by omega)) rfl ⟨by rw [wxs_len]; exact wxs_clo, rfl, by rw [wxs_len]; rfl⟩ (by rw [wxs_len]; decide) (by rw [hR]; exact Nat.le_of_ble_eq_true rfl) (by rw [hR]; exact Nat.le_of_ble_eq_true rfl) ?_
  refine AW.eq (pc' := 11) (ls' := [some (.ref (SB + 201)), some (.ref 0), none, none, none, none]) (st' := [.ref 190]) (AH' := WXs hs R T O Y S C0 K0 U D ++ [.inr (9, [.null, .null, .null, .null, .null, .null, .null, .null, .int 0, .int 0, .int 0, .int 0])]) ?_ rfl rfl rfl rfl
  refine go_s 1 X (pc2 := 12) (st2 := [.ref 190, .ref 190]) rfl ?_
  refine r_init X [190] [] (o := 0) (k9 := 8) c_L_init ⟨rfl, rfl⟩ rfl k_L_init (Or.inl m_LW_199) rfl (fitR hR (by decide) (by decide) (Nat.le_of_ble_eq_true rfl) (Nat.le_of_ble_eq_true rfl)) (by decide) (by decide) rfl (fun _ h => by cases h) (by rw [List.length_append, wxs_len]; decide) (by decide) ⟨clo_snoc wxs_len wxs_clo rfl, by rw [List.length_append, wxs_len]; rfl, by rw [List.length_append, wxs_len]; rfl⟩ (clo_all rfl) (clo_all rfl) ?_
  refine AW.eq (pc' := 15) (ls' := [some (.ref (SB + 201)), some (.ref 0), none, none, none, none]) (st' := [.ref 190]) (AH' := WXs hs R T O Y S C0 K0 U D ++ (WQ q00).map (rnE (iof [190] [] 191))) ?_ rfl rfl rfl (grow_app rfl)
  refine AW.eq (pc' := 15) (ls' := [some (.ref (SB + 201)), some (.ref 0), none, none, none, none]) (st' := [.ref 190]) (AH' := LAt hs R T O Y S C0 K0 U D q00) ?_ rfl rfl rfl (la_new q00)
  exact AW.widen (Nat.le_of_ble_eq_true rfl) (Nat.le_of_ble_eq_true rfl) K
