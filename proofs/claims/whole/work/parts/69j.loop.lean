/-! ===== 69j: the law's loop (gen69j.py) ===== -/
def HALL : Prop := H_0 ∧ H_1 ∧ H_2 ∧ H_3 ∧ H_4 ∧ H_5 ∧ H_6 ∧ H_7 ∧ H_8 ∧ H_9 ∧ H_10 ∧ H_11 ∧ H_12 ∧ H_13 ∧ H_14 ∧ H_15 ∧ H_16 ∧ H_17 ∧ H_18 ∧ H_19 ∧ H_20 ∧ H_21 ∧ H_22 ∧ H_23 ∧ H_24 ∧ H_25 ∧ H_26 ∧ H_27 ∧ H_28 ∧ H_29 ∧ H_30 ∧ H_31 ∧ H_32 ∧ H_33 ∧ H_34 ∧ H_35 ∧ H_36 ∧ H_37 ∧ H_38 ∧ H_39 ∧ H_40 ∧ H_41 ∧ H_42 ∧ H_43 ∧ H_44 ∧ H_45 ∧ H_46 ∧ H_47 ∧ H_48 ∧ H_49 ∧ H_50 ∧ H_51 ∧ H_52 ∧ H_53 ∧ H_54 ∧ H_55 ∧ H_56 ∧ H_57
theorem and63 (x : Int32) : ∃ c : Nat, c < 64 ∧ x &&& 63 = nI c := by
  refine ⟨x.toBitVec.toNat % 64, Nat.mod_lt _ (by decide), ?_⟩
  apply Int32.toBitVec_inj.mp
  apply BitVec.eq_of_toNat_eq
  show (x.toBitVec &&& 63#32).toNat = (BitVec.ofNat 32 (x.toBitVec.toNat % 64)).toNat
  rw [BitVec.toNat_and, show (63#32).toNat = 2 ^ 6 - 1 from rfl, Nat.and_two_pow_sub_one_eq_mod, BitVec.toNat_ofNat]
  omega
theorem sub6 {L : Nat} (h : 6 ≤ L) : Int32.ofNat L - 6 = nI (L - 6) := by
  have e : nI (L - 6) + nI 6 = nI L := by rw [nI_add]; congr 1; omega
  show nI L - nI 6 = nI (L - 6)
  rw [← e, Int32.add_sub_cancel]
theorem si_of {L j : Nat} (h : 6 * j + 6 ≤ L) (hL : L ≤ 3072) : SI L (nI (6 * j)) := by
  have e : ∀ c, c < 6 → vp_in (nI (6 * j) + nI c) L := fun c hc => by rw [nI_add]; exact nI_in (by omega) (by omega)
  exact ⟨nI_in (by omega) (by omega), e 1 (by omega), e 2 (by omega), e 3 (by omega), e 4 (by omega), e 5 (by omega)⟩
theorem law_head {κ : KX} {Q : State → Prop} {nm : String} (X : CX κ (z_W_h nm)) {L : Nat} {xs : Nat → Int32} (SX : SCX κ L xs) (hL : L ≤ 3072) {j : Nat} (hj : 6 * j ≤ L) {AH : List AC} {nc ns : Nat} (kt : ¬ 6 * j + 6 ≤ L → AW κ Q 3136 (L0 (nI (6 * j))) [] AH nc ns) (kf : 6 * j + 6 ≤ L → AW κ Q 33 (L0 (nI (6 * j))) [] AH nc ns) : AW κ Q 23 (L0 (nI (6 * j))) [] AH nc ns := by
  refine go_s 2 X (pc2 := 26) (st2 := [.ref (SB + 201), .int (nI (6 * j))]) rfl ?_
  refine r_slenA X SX rfl ?_
  refine go_s 2 X (pc2 := 30) (st2 := [.int (Int32.ofNat L - 6), .int (nI (6 * j))]) rfl ?_
  refine r_icmp_gt X 3136 rfl rfl (fun h => kt ?_) (fun h => kf ?_)
  · intro h6
    rw [sub6 (by omega)] at h
    exact nI_nlt (by omega) (by omega) h
  · by_cases h6 : 6 * j + 6 ≤ L
    · exact h6
    · refine absurd ?_ h
      by_cases hL6 : 6 ≤ L
      · rw [sub6 hL6]
        exact nI_lt (by omega) (by omega)
      · have e : j = 0 := by omega
        subst e
        have e2 : L = 0 ∨ L = 1 ∨ L = 2 ∨ L = 3 ∨ L = 4 ∨ L = 5 := by omega
        rcases e2 with rfl | rfl | rfl | rfl | rfl | rfl <;> decide
set_option maxRecDepth 20000 in
set_option maxHeartbeats 4000000 in
theorem law_step {κ : KX} {Q : State → Prop} {nm : String} (X : CX κ (z_W_h nm)) (hR : κR κ = room_1) {L : Nat} {xs : Nat → Int32} (SX : SCX κ L xs) (hT : H_th) (HA : HALL) {i : Int32} (hi : SI L i) {nc ns : Nat} (hnc : nc + 4 ≤ 601024) (hns : ns + 24 ≤ 7293034) {b : Bool} {jf : Nat → Int32} {hs : Int32} {R : RV} {T : TV} {O : OV} {Y : YV} {S C K : SV} {U D : UV} {v : MV} {A : Nat → Int64} (hA : ALL' hs R O Y S C K U v) (hk : KONT κ Q i nc ns) : AW κ Q 33 (L0 i) [] (LW b jf hs R T O Y S C K U D v A) nc ns := by
  obtain ⟨H0, H1, H2, H3, H4, H5, H6, H7, H8, H9, H10, H11, H12, H13, H14, H15, H16, H17, H18, H19, H20, H21, H22, H23, H24, H25, H26, H27, H28, H29, H30, H31, H32, H33, H34, H35, H36, H37, H38, H39, H40, H41, H42, H43, H44, H45, H46, H47, H48, H49, H50, H51, H52, H53, H54, H55, H56, H57⟩ := HA
  refine go_s 2 X (pc2 := 36) (st2 := [.int i, .ref (SB + 201)]) rfl ?_
  refine r_sld X SX rfl hi.1 ?_
  refine go_s 2 X (pc2 := 40) (st2 := [.int (xs i.toNatClampNeg &&& 63)]) rfl ?_
  obtain ⟨c, hc, e⟩ := and63 (xs i.toNatClampNeg)
  rw [e]
  match c, hc with
  | 0, _ => exact r_tableIn X 288 rfl (by decide) (by decide) rfl rfl (W_0 X hR SX hT H0 hi hnc hns hA hk)
  | 1, _ => exact r_tableIn X 361 rfl (by decide) (by decide) rfl rfl (W_1 X hR SX hT H1 hi hnc hns hA hk)
  | 2, _ => exact r_tableIn X 386 rfl (by decide) (by decide) rfl rfl (W_2 X hR SX hT H2 hi hnc hns hA hk)
  | 3, _ => exact r_tableIn X 399 rfl (by decide) (by decide) rfl rfl (W_3 X hR SX hT H3 hi hnc hns hA hk)
  | 4, _ => exact r_tableIn X 412 rfl (by decide) (by decide) rfl rfl (W_4 X hR SX hT H4 hi hnc hns hA hk)
  | 5, _ => exact r_tableIn X 425 rfl (by decide) (by decide) rfl rfl (W_5 X hR SX hT H5 hi hnc hns hA hk)
  | 6, _ => exact r_tableIn X 438 rfl (by decide) (by decide) rfl rfl (W_6 X hR SX hT H6 hi hnc hns hA hk)
  | 7, _ => exact r_tableIn X 451 rfl (by decide) (by decide) rfl rfl (W_7 X hR SX hT H7 hi hnc hns hA hk)
  | 8, _ => exact r_tableIn X 464 rfl (by decide) (by decide) rfl rfl (W_8 X hR SX hT H8 hi hnc hns hA hk)
  | 9, _ => exact r_tableIn X 477 rfl (by decide) (by decide) rfl rfl (W_9 X hR SX hT H9 hi hnc hns hA hk)
  | 10, _ => exact r_tableIn X 545 rfl (by decide) (by decide) rfl rfl (W_10 X hR SX hT H10 hi hnc hns hA hk)
  | 11, _ => exact r_tableIn X 613 rfl (by decide) (by decide) rfl rfl (W_11 X hR SX hT H11 hi hnc hns hA hk)
  | 12, _ => exact r_tableIn X 669 rfl (by decide) (by decide) rfl rfl (W_12 X hR SX hT H12 hi hnc hns hA hk)
  | 13, _ => exact r_tableIn X 725 rfl (by decide) (by decide) rfl rfl (W_13 X hR SX hT H13 hi hnc hns hA hk)
  | 14, _ => exact r_tableIn X 781 rfl (by decide) (by decide) rfl rfl (W_14 X hR SX hT H14 hi hnc hns hA hk)
  | 15, _ => exact r_tableIn X 837 rfl (by decide) (by decide) rfl rfl (W_15 X hR SX hT H15 hi hnc hns hA hk)
  | 16, _ => exact r_tableIn X 900 rfl (by decide) (by decide) rfl rfl (W_16 X hR SX hT H16 hi hnc hns hA hk)
  | 17, _ => exact r_tableIn X 963 rfl (by decide) (by decide) rfl rfl (W_17 X hR SX hT H17 hi hnc hns hA hk)
  | 18, _ => exact r_tableIn X 1026 rfl (by decide) (by decide) rfl rfl (W_18 X hR SX hT H18 hi hnc hns hA hk)
  | 19, _ => exact r_tableIn X 1082 rfl (by decide) (by decide) rfl rfl (W_19 X hR SX hT H19 hi hnc hns hA hk)
  | 20, _ => exact r_tableIn X 1138 rfl (by decide) (by decide) rfl rfl (W_20 X hR SX hT H20 hi hnc hns hA hk)
  | 21, _ => exact r_tableIn X 1194 rfl (by decide) (by decide) rfl rfl (W_21 X hR SX hT H21 hi hnc hns hA hk)
  | 22, _ => exact r_tableIn X 1250 rfl (by decide) (by decide) rfl rfl (W_22 X hR SX hT H22 hi hnc hns hA hk)
  | 23, _ => exact r_tableIn X 1306 rfl (by decide) (by decide) rfl rfl (W_23 X hR SX hT H23 hi hnc hns hA hk)
  | 24, _ => exact r_tableIn X 1362 rfl (by decide) (by decide) rfl rfl (W_24 X hR SX hT H24 hi hnc hns hA hk)
  | 25, _ => exact r_tableIn X 1418 rfl (by decide) (by decide) rfl rfl (W_25 X hR SX hT H25 hi hnc hns hA hk)
  | 26, _ => exact r_tableIn X 1474 rfl (by decide) (by decide) rfl rfl (W_26 X hR SX hT H26 hi hnc hns hA hk)
  | 27, _ => exact r_tableIn X 1542 rfl (by decide) (by decide) rfl rfl (W_27 X hR SX hT H27 hi hnc hns hA hk)
  | 28, _ => exact r_tableIn X 1598 rfl (by decide) (by decide) rfl rfl (W_28 X hR SX hT H28 hi hnc hns hA hk)
  | 29, _ => exact r_tableIn X 1654 rfl (by decide) (by decide) rfl rfl (W_29 X hR SX hT H29 hi hnc hns hA hk)
  | 30, _ => exact r_tableIn X 1710 rfl (by decide) (by decide) rfl rfl (W_30 X hR SX hT H30 hi hnc hns hA hk)
  | 31, _ => exact r_tableIn X 1766 rfl (by decide) (by decide) rfl rfl (W_31 X hR SX hT H31 hi hnc hns hA hk)
  | 32, _ => exact r_tableIn X 1822 rfl (by decide) (by decide) rfl rfl (W_32 X hR SX hT H32 hi hnc hns hA hk)
  | 33, _ => exact r_tableIn X 1878 rfl (by decide) (by decide) rfl rfl (W_33 X hR SX hT H33 hi hnc hns hA hk)
  | 34, _ => exact r_tableIn X 1941 rfl (by decide) (by decide) rfl rfl (W_34 X hR SX hT H34 hi hnc hns hA hk)
  | 35, _ => exact r_tableIn X 1954 rfl (by decide) (by decide) rfl rfl (W_35 X hR SX hT H35 hi hnc hns hA hk)
  | 36, _ => exact r_tableIn X 2010 rfl (by decide) (by decide) rfl rfl (W_36 X hR SX hT H36 hi hnc hns hA hk)
  | 37, _ => exact r_tableIn X 2066 rfl (by decide) (by decide) rfl rfl (W_37 X hR SX hT H37 hi hnc hns hA hk)
  | 38, _ => exact r_tableIn X 2122 rfl (by decide) (by decide) rfl rfl (W_38 X hR SX hT H38 hi hnc hns hA hk)
  | 39, _ => exact r_tableIn X 2135 rfl (by decide) (by decide) rfl rfl (W_39 X hR SX hT H39 hi hnc hns hA hk)
  | 40, _ => exact r_tableIn X 2148 rfl (by decide) (by decide) rfl rfl (W_40 X hR SX hT H40 hi hnc hns hA hk)
  | 41, _ => exact r_tableIn X 2216 rfl (by decide) (by decide) rfl rfl (W_41 X hR SX hT H41 hi hnc hns hA hk)
  | 42, _ => exact r_tableIn X 2284 rfl (by decide) (by decide) rfl rfl (W_42 X hR SX hT H42 hi hnc hns hA hk)
  | 43, _ => exact r_tableIn X 2352 rfl (by decide) (by decide) rfl rfl (W_43 X hR SX hT H43 hi hnc hns hA hk)
  | 44, _ => exact r_tableIn X 2393 rfl (by decide) (by decide) rfl rfl (W_44 X hR SX hT H44 hi hnc hns hA hk)
  | 45, _ => exact r_tableIn X 2436 rfl (by decide) (by decide) rfl rfl (W_45 X hR SX hT H45 hi hnc hns hA hk)
  | 46, _ => exact r_tableIn X 2449 rfl (by decide) (by decide) rfl rfl (W_46 X hR SX hT H46 hi hnc hns hA hk)
  | 47, _ => exact r_tableIn X 2541 rfl (by decide) (by decide) rfl rfl (W_47 X hR SX hT H47 hi hnc hns hA hk)
  | 48, _ => exact r_tableIn X 2597 rfl (by decide) (by decide) rfl rfl (W_48 X hR SX hT H48 hi hnc hns hA hk)
  | 49, _ => exact r_tableIn X 2653 rfl (by decide) (by decide) rfl rfl (W_49 X hR SX hT H49 hi hnc hns hA hk)
  | 50, _ => exact r_tableIn X 2721 rfl (by decide) (by decide) rfl rfl (W_50 X hR SX hT H50 hi hnc hns hA hk)
  | 51, _ => exact r_tableIn X 2789 rfl (by decide) (by decide) rfl rfl (W_51 X hR SX hT H51 hi hnc hns hA hk)
  | 52, _ => exact r_tableIn X 2857 rfl (by decide) (by decide) rfl rfl (W_52 X hR SX hT H52 hi hnc hns hA hk)
  | 53, _ => exact r_tableIn X 2948 rfl (by decide) (by decide) rfl rfl (W_53 X hR SX hT H53 hi hnc hns hA hk)
  | 54, _ => exact r_tableIn X 2992 rfl (by decide) (by decide) rfl rfl (W_54 X hR SX hT H54 hi hnc hns hA hk)
  | 55, _ => exact r_tableIn X 3048 rfl (by decide) (by decide) rfl rfl (W_55 X hR SX hT H55 hi hnc hns hA hk)
  | 56, _ => exact r_tableIn X 3073 rfl (by decide) (by decide) rfl rfl (W_56 X hR SX hT H56 hi hnc hns hA hk)
  | 57, _ => exact r_tableIn X 3086 rfl (by decide) (by decide) rfl rfl (W_57 X hR SX hT H57 hi hnc hns hA hk)
  | 58, _ => exact r_tableOut X 3130 rfl (Or.inr (by decide)) rfl (kfin hk hA (by omega) (by omega))
  | 59, _ => exact r_tableOut X 3130 rfl (Or.inr (by decide)) rfl (kfin hk hA (by omega) (by omega))
  | 60, _ => exact r_tableOut X 3130 rfl (Or.inr (by decide)) rfl (kfin hk hA (by omega) (by omega))
  | 61, _ => exact r_tableOut X 3130 rfl (Or.inr (by decide)) rfl (kfin hk hA (by omega) (by omega))
  | 62, _ => exact r_tableOut X 3130 rfl (Or.inr (by decide)) rfl (kfin hk hA (by omega) (by omega))
  | 63, _ => exact r_tableOut X 3130 rfl (Or.inr (by decide)) rfl (kfin hk hA (by omega) (by omega))
  | n + 64, h => exact absurd h (by omega)
set_option maxRecDepth 20000 in
theorem law_loop {κ : KX} {Q : State → Prop} {nm : String} (X : CX κ (z_W_h nm)) (hR : κR κ = room_1) {L : Nat} {xs : Nat → Int32} (SX : SCX κ L xs) (hL : L ≤ 3072) (hT : H_th) (HA : HALL) (hend : ∀ (i : Int32) (AH : List AC) (nc ns : Nat), nc ≤ 601024 → ns ≤ 7293034 → AW κ Q 3136 (L0 i) [] AH nc ns) : ∀ (n j : Nat), L < 6 * (j + n) + 6 → 6 * j ≤ L → ∀ nc ns : Nat, nc + 4 * n ≤ 601024 → ns + 24 * n ≤ 7293034 → ∀ (b : Bool) (jf : Nat → Int32) (hs : Int32) (R : RV) (T : TV) (O : OV) (Y : YV) (S C K : SV) (U D : UV) (v : MV) (A : Nat → Int64), ALL' hs R O Y S C K U v → AW κ Q 23 (L0 (nI (6 * j))) [] (LW b jf hs R T O Y S C K U D v A) nc ns := by
  intro n
  induction n with
  | zero =>
    intro j h1 h2 nc ns h3 h4 b jf hs R T O Y S C K U D v A hA
    exact law_head X SX hL h2 (fun _ => hend _ _ _ _ (by omega) (by omega)) (fun h => absurd h (by omega))
  | succ n ih =>
    intro j h1 h2 nc ns h3 h4 b jf hs R T O Y S C K U D v A hA
    refine law_head X SX hL h2 (fun _ => hend _ _ _ _ (by omega) (by omega)) (fun h => ?_)
    refine law_step X hR SX hT HA (si_of h hL) (by omega) (by omega) hA ?_
    intro b jf hs R T O Y S C K U D v A hA
    refine go_l 2 X (pc2 := 23) (ls2 := L0 (nI (6 * j) + 6)) (st2 := []) rfl ?_
    have e : nI (6 * j) + 6 = nI (6 * (j + 1)) := nI_add (6 * j) 6
    rw [e]
    exact ih (j + 1) (by omega) (by omega) _ _ (by omega) (by omega) b jf hs R T O Y S C K U D v A hA
