/-! ===== 79g: the law begins; its text is built (gen79g.py) ===== -/
theorem iof_one (k : Nat) : iof [0] [] 1 k = k := by
  unfold iof
  by_cases h : k < 1
  · have e : k = 0 := by omega
    subst e
    rfl
  · rw [show Nat.blt k [0].length = false from blt_no h]
    by_cases h2 : k < SB
    · rw [show Nat.blt k SB = true from Nat.ble_eq_true_of_le h2]
      show 1 + (k - 1) = k
      omega
    · rw [blt_no h2]
      by_cases h3 : k < SD
      · rw [show Nat.blt k SD = true from Nat.ble_eq_true_of_le h3]
        rfl
      · rw [blt_no h3]
        rfl
theorem cvV_id : cvV id = id := by
  funext v
  cases v <;> rfl
theorem cvE_id (c : AC) : cvE id id c = c := by
  rcases c with ⟨k, n, a⟩ | ⟨ci, fs⟩
  · rcases a with g | g | g | g | g
    · rfl
    · rfl
    · rfl
    · rfl
    · show (Sum.inl (k, n, Sum.inr (Sum.inr (Sum.inr (Sum.inr fun j => (g j).map id)))) : va_E) = _
      have e : (fun j => (g j).map id) = g := by
        funext j
        cases g j <;> rfl
      rw [e]
  · show (Sum.inr (ci, fs.map (cvV id)) : va_E) = _
    rw [cvV_id, List.map_id]
theorem grow_one {c : AC} {W2 : List AC} (h : 0 < W2.length) : grow [c] [0] [] W2 = W2 := by
  have e : rnE (iof [0] [] [c].length) = id := by
    funext x
    show cvE id (iof [0] [] 1) x = x
    rw [show iof [0] [] 1 = id from funext iof_one]
    exact cvE_id x
  unfold grow
  rw [e, List.map_id, List.map_id]
  cases W2 with
  | nil => cases h
  | cons a t => rfl
theorem grow_app {AH : List AC} {n : Nat} (hn : AH.length = n) {c x : AC} {t : List AC} : grow (AH ++ [c]) [n] [] (x :: t) = AH ++ (x :: t).map (rnE (iof [n] [] (n + 1))) := by
  subst hn
  have e : (AH ++ [c]).length = AH.length + 1 := by simp
  unfold grow
  rw [e]
  show putB (AH ++ [c]) [AH.length] [rnE (iof [AH.length] [] (AH.length + 1)) x] ++ t.map _ = _
  show (AH ++ [c]).set AH.length (rnE (iof [AH.length] [] (AH.length + 1)) x) ++ t.map _ = _
  rw [List.set_append_right _ _ (Nat.le_refl _), Nat.sub_self]
  simp
theorem AW.widen {κ : KX} {Q : State → Prop} {pc : Nat} {ls : List (Option Value)} {st : List Value} {AH : List AC} {nc ns nc' ns' : Nat} (h1 : nc ≤ nc') (h2 : ns ≤ ns') (k : AW κ Q pc ls st AH nc' ns') : AW κ Q pc ls st AH nc ns := by
  obtain ⟨p, l, e, R, s, m, args, below, meth, c, D, cA, A, n0, ad0⟩ := κ
  intro ad H locs lsA g1 g2 g3 hP hD hS hL
  exact W.widen h1 h2 (k ad H locs lsA g1 g2 g3 hP hD hS hL)
abbrev W6 (x i : Int32) : List (Option Value) := [some (.ref (SB + 201)), some (.ref 0), some (.ref 190), some (.int x), some (.ref 199), some (.int i)]
theorem w6_cl {x i : Int32} {N : Nat} (h : 199 < N) : cloL N (W6 x i) = true := cl_cons cl_sb (cl_cons (cloV_lt (by omega)) (cl_cons (cloV_lt (by omega)) (cl_cons rfl (cl_cons (cloV_lt h) (cl_cons rfl rfl)))))
theorem FOKt {hs : Int32} {R : RV} {T : TV} {O : OV} {Y : YV} {S C K : SV} {U D : UV} {V : QV} : FOK (LAt hs R T O Y S C K U D V) := ⟨la_len_t, la_clo_t⟩
theorem clo_snoc {A : List AC} {n : Nat} {c : AC} (hl : A.length = n) (h : ∀ c ∈ A, cloE n c) (hc : cloE (n + 1) c) : ∀ d ∈ A ++ [c], cloE (A ++ [c]).length d := by
  have e : (A ++ [c]).length = n + 1 := by rw [List.length_append, hl]; rfl
  rw [e]
  intro d hd
  rcases List.mem_append.mp hd with hd | hd
  · exact cloE_mono (Nat.le_succ n) (h d hd)
  · rw [List.mem_singleton] at hd
    rw [hd]
    exact hc
section LAWB
variable {κ : KX} {Q : State → Prop} {nm : String} {L : Nat} {xs : Nat → Int32} {pc nc ns : Nat} {ls : List (Option Value)} {rest : List Value} {AH : List AC}
theorem lw_cell (X : CX κ (z_W nm)) (SX : SCX κ L xs) (hR : κR κ = room_1) (hL : L ≤ 260) {k : Nat} (hk : k < 1000) (hd : fetch (zC (z_W nm)) pc = some (.invokestatic 200, 3)) (hsum : csum rest ≤ 8) (hnc : nc ≤ 600086) (hns : ns ≤ 7301442) (kk : ∀ x, AW κ Q (pc + 3) ls (.int x :: rest) AH nc ns) : AW κ Q pc ls (.int (nI k) :: .ref (SB + 201) :: rest) AH nc ns := by
  refine r_callSs X SX [] [] (As := [.ref (SB + 201), .int (nI k)]) (rest := rest) (c_L_cell hL hk) ⟨rfl, rfl⟩ hd k_L_cell m_LW_200 rfl ?_ (fitR hR (by decide) (by decide) hnc hns) hsum (Nat.zero_le _) (fun _ _ h => by rw [h.2]) (fun v A2 hp => ?_) (fun E A2 hp => ?_)
  · show _ = [Value.int (nI k), .ref (iof [] [] _ (SB + 201))] ++ rest
    rw [iof_sb (Nat.le_add_right _ _) (by unfold SD; omega) (Nat.zero_le _)]
    rfl
  · obtain ⟨⟨x, ev⟩, rfl⟩ := hp
    cases ev
    exact kk x
  · obtain ⟨⟨x, ev⟩, -⟩ := hp
    cases ev
theorem lw_bits (X : CX κ (z_W nm)) (hR : κR κ = room_1) {x b c : Int32} {k : Nat} (hm : ((1 <<< (c &&& 31)) - 1 : Int32).toBitVec.toNat = 2 ^ k - 1) (hd : fetch (zC (z_W nm)) pc = some (.invokestatic 86, 3)) (hsum : csum rest ≤ 8) (hnc : nc ≤ 600086) (hns : ns ≤ 7301442) (kk : ∀ j, j < 2 ^ k → AW κ Q (pc + 3) ls (.int (nI j) :: rest) AH nc ns) : AW κ Q pc ls (.int c :: .int b :: .int x :: rest) AH nc ns := by
  obtain ⟨j, hj, e⟩ := bits_n x b c k hm
  exact q_callS X [] [] (As := [.int x, .int b, .int c]) (rest := rest) (AH2 := AH) (st2 := .int (nI j) :: rest) (c_L_bits _ _ _ _ e) ⟨rfl, rfl⟩ hd k_L_bits l_L_86 rfl rfl (fitR hR (by decide) (by decide) hnc hns) hsum (Nat.zero_le _) rfl rfl rfl (kk j hj)
set_option maxRecDepth 20000 in
set_option maxHeartbeats 8000000 in
theorem law_b (X : CX κ (z_W nm)) (SX : SCX κ L xs) (hR : κR κ = room_1) (hL : L ≤ 260) {R4 : RV} {Y1 : YV} {S1 C1 : SV} {D1 : UV} (K : ∀ (x : Int32) (j j2 : Nat) (AH : List AC), j < 4 → j2 < 4 → BLD (LAt 0 R4 tv0 ov0 Y1 S1 C1 sv0 D1 uv0 (QV_sNo (QV_sNq q00 (nI (1 + j))) (nI (1 + j2)))) [] 201 AH → AW κ Q 58 (W6 x (nI 0)) [] AH 1000 20000) : AW κ Q 15 [some (.ref (SB + 201)), some (.ref 0), none, none, none, none] [.ref 190] (LAt 0 R4 tv0 ov0 Y1 S1 C1 sv0 D1 uv0 q00) 500 10000 := by
  refine go_l 3 X (pc2 := 18) (ls2 := [some (.ref (SB + 201)), some (.ref 0), some (.ref 190), none, none, none]) (st2 := [.int 0, .ref (SB + 201)]) rfl ?_
  refine lw_cell X SX hR hL (k := 0) (by decide) rfl (by decide) (by decide) (by decide) (fun x => ?_)
  refine go_l 6 X (pc2 := 27) (ls2 := [some (.ref (SB + 201)), some (.ref 0), some (.ref 190), some (.int x), none, none]) (st2 := [.int 2, .int 0, .int x, .int 1, .ref 190]) rfl ?_
  refine lw_bits X hR (k := 2) (by decide +kernel) rfl (by decide) (by decide) (by decide) (fun j hj => ?_)
  refine go_s 1 X (pc2 := 31) (st2 := [.int (1 + nI j), .ref 190]) rfl ?_
  rw [one_nI]
  refine go 1 X (pc2 := 34) (ls2 := [some (.ref (SB + 201)), some (.ref 0), some (.ref 190), some (.int x), none, none]) (st2 := []) (AH2 := LAt 0 R4 tv0 ov0 Y1 S1 C1 sv0 D1 uv0 (QV_sNq q00 (nI (1 + j)))) rfl ?_
  refine go_s 5 X (pc2 := 39) (st2 := [.int 2, .int 2, .int x, .int 1, .ref 190]) rfl ?_
  refine lw_bits X hR (k := 2) (by decide +kernel) rfl (by decide) (by decide) (by decide) (fun j2 hj2 => ?_)
  refine go_s 1 X (pc2 := 43) (st2 := [.int (1 + nI j2), .ref 190]) rfl ?_
  rw [one_nI]
  refine go 1 X (pc2 := 46) (ls2 := [some (.ref (SB + 201)), some (.ref 0), some (.ref 190), some (.int x), none, none]) (st2 := []) (AH2 := LAt 0 R4 tv0 ov0 Y1 S1 C1 sv0 D1 uv0 (QV_sNo (QV_sNq q00 (nI (1 + j))) (nI (1 + j2)))) rfl ?_
  refine r_new X 10 (fs := [.null, .int 0, .int 0, .int 0]) rfl rfl rfl (show (inALL (.classLink RL 204 "java/lang/StringBuilder") && (inALL (.instantiable "java/lang/StringBuilder" 4) && inALL (.initialized "java/lang/StringBuilder"))) = true from by decide +kernel) (fun j hj => by match j, hj with | 0, _ => rfl | 1, _ => rfl | 2, _ => rfl | 3, _ => rfl | n + 4, h => exact absurd (show n + 4 < 4 from h) (by omega)) rfl ⟨by rw [la_len_t]; exact la_clo_t, rfl, by rw [la_len_t]; rfl⟩ (by rw [la_len_t]; decide) (by rw [hR]; exact Nat.le_of_ble_eq_true rfl) (by rw [hR]; exact Nat.le_of_ble_eq_true rfl) ?_
  refine AW.eq (pc' := 49) (ls' := [some (.ref (SB + 201)), some (.ref 0), some (.ref 190), some (.int x), none, none]) (st' := [.ref 199]) (AH' := LAt 0 R4 tv0 ov0 Y1 S1 C1 sv0 D1 uv0 (QV_sNo (QV_sNq q00 (nI (1 + j))) (nI (1 + j2))) ++ [.inr (10, [.null, .int 0, .int 0, .int 0])]) ?_ rfl rfl rfl rfl
  refine go_s 1 X (pc2 := 50) (st2 := [.ref 199, .ref 199]) rfl ?_
  refine r_gI X [199] [] (o := 0) (As := []) (rest := [.ref 199]) c_sb4 ⟨rfl, rfl⟩ rfl k_J4_init_da8c8 m_LW_206 rfl rfl (fitR hR (by decide) (by decide) (Nat.le_of_ble_eq_true rfl) (Nat.le_of_ble_eq_true rfl)) (by decide) (fun _ h => by cases h) (by rw [List.length_append, la_len_t]; decide) (by decide) ⟨clo_snoc la_len_t la_clo_t rfl, by rw [List.length_append, la_len_t]; rfl, by rw [List.length_append, la_len_t]; rfl⟩ (clo_all rfl) (grw_of (Nat.le_of_ble_eq_true rfl) (Nat.le_of_ble_eq_true rfl) rfl (fun _ h => by cases h)) (fun v W2 hp => ?_)
  obtain ⟨e1, rfl⟩ := hp
  cases e1
  refine AW.eq (pc' := 53) (ls' := [some (.ref (SB + 201)), some (.ref 0), some (.ref 190), some (.int x), none, none]) (st' := [.ref 199]) (AH' := LAt 0 R4 tv0 ov0 Y1 S1 C1 sv0 D1 uv0 (QV_sNo (QV_sNq q00 (nI (1 + j))) (nI (1 + j2))) ++ (WB 16 z0 0 0).map (rnE (iof [199] [] 200))) ?_ rfl rfl rfl (grow_app rfl)
  refine go_l 3 X (pc2 := 58) (ls2 := W6 x (nI 0)) (st2 := []) rfl ?_
  refine AW.widen (Nat.le_of_ble_eq_true rfl) (Nat.le_of_ble_eq_true rfl) (K x j j2 _ hj hj2 ?_)
  refine ⟨16, z0, 0, 200, [.inl (3, 16, .inl z0)], rfl, ⟨by decide, Nat.le_of_ble_eq_true rfl⟩, rfl, ⟨Nat.zero_le _, fun j c hj => (by cases j <;> cases hj), byf0⟩, ⟨by decide, by decide⟩, fun c hc => ?_, Nat.le_of_ble_eq_true rfl⟩
  rw [List.mem_singleton] at hc
  exact ⟨_, _, hc⟩
end LAWB
