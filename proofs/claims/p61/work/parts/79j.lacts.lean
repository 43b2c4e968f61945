/-! ===== 79j: the law's acts (gen79i.py) ===== -/
section LAWD
variable {κ : KX} {Q : State → Prop} {nm : String} {x : Int32} {L : Nat} {xs : Nat → Int32} {R : RV} {U D : UV} {u : GU} {tl : List AC}
/-- what holds between the acts -/
def BET (u : GU) (U : UV) (Y : YV) (S : SV) (V : QV) : Prop := ∃ g, GI u g ∧ CS g S ∧ YI Y ∧ LQ u g V ∧ UC u U
set_option maxRecDepth 20000 in
set_option maxHeartbeats 1000000 in
theorem law_like (X : CX κ (z_W nm)) (hR : κR κ = room_1) {hs : Int32} {Y : YV} {S C : SV} {V : QV} (hB : BET u U Y S V) {pc nc ns : Nat} {ls : List (Option Value)} (hd : fetch (zC (z_W nm)) pc = some (.invokevirtual 232, 3)) (hnc : nc ≤ 600086) (hns : ns ≤ 7301442) (K : ∀ C V, BET u U Y S V → AW κ Q (pc + 3) ls [.int 1] (LAf hs R tv0 ov0 Y S C sv0 U D V ++ tl) nc ns) : AW κ Q pc ls [.ref 0, .ref 190] (LAf hs R tv0 ov0 Y S C sv0 U D V ++ tl) nc ns := by
  obtain ⟨g, hI, hC, hY, hQ, hU⟩ := hB
  obtain ⟨x, C', e⟩ := isLike_ok (hs := hs) (C := C) hI hC hU.1 hU.2.1 hU.2.2.2 hQ
  exact q_callV X io_qc dlf (o := 0) (As := [.ref 9]) (rest := []) (AH2 := LAf hs R tv0 ov0 Y S C' sv0 U D (QV_sSn V x) ++ tl) (st2 := [.int 1]) (c_L_isLike _ _ _ e) pk_qc hd k_L_isLike l_L_232 rfl rfl rfl rfl rfl (fitR hR (by decide) (by decide) (by omega) (by omega)) (by decide) (Nat.le_of_ble_eq_true rfl) rfl (put_qc _ _ _ _ _) rfl (K C' (QV_sSn V x) ⟨g, hI, hC, hY, hQ.sn x, hU⟩)
set_option maxRecDepth 20000 in
set_option maxHeartbeats 1000000 in
theorem law_act (X : CX κ (z_W nm)) (hR : κR κ = room_1) {hs : Int32} {Y : YV} {S C : SV} {V : QV} (hB : BET u U Y S V) {a : Int32} {pc nc ns : Nat} {ls : List (Option Value)} (hd : fetch (zC (z_W nm)) pc = some (.invokevirtual 236, 3)) (hnc : nc + 4 ≤ 600086) (hns : ns + 24 ≤ 7301442) (K : ∀ Y S V, BET u U Y S V → AW κ Q (pc + 3) ls [.int 1] (LAf hs R tv0 ov0 Y S C sv0 U D V ++ tl) (nc + 4) (ns + 24)) : AW κ Q pc ls [.int a, .ref 0, .ref 190] (LAf hs R tv0 ov0 Y S C sv0 U D V ++ tl) nc ns := by
  obtain ⟨g, hI, hC, hY, hQ, hU⟩ := hB
  obtain ⟨g', Q', Y', S', e, i1, i2, i3, i4⟩ := acts_ok (v := (V, (hs, Y, S, U))) hU ⟨hI, hC, hY, hQ⟩ a
  have e : f_L_acts (V, (hs, Y, S, U)) a = some (1, (Q', (hs, Y', S', U))) := e
  exact q_callV X io_ql dlf (o := 0) (As := [.ref 9, .int a]) (rest := []) (AH2 := LAf hs R tv0 ov0 Y' S' C sv0 U D Q' ++ tl) (st2 := [.int 1]) (c_L_acts _ _ _ _ e) pk_ql hd k_L_acts l_L_236 rfl rfl rfl rfl rfl (fitR hR (by decide) (by decide) (by omega) (by omega)) (by decide) (Nat.le_of_ble_eq_true rfl) rfl (put_ql _ _ _ _ _) rfl (K Y' S' Q' ⟨g', i1, i2, i3, i4, hU⟩)
set_option maxRecDepth 20000 in
set_option maxHeartbeats 1000000 in
theorem law_loop (X : CX κ (z_W nm)) (SX : SCX κ L xs) (hR : κR κ = room_1) (hL : L ≤ 260) {hs : Int32} (hend : ∀ (ls : List (Option Value)) (AH : List AC) (nc ns : Nat), nc ≤ 600086 → ns ≤ 7301442 → AW κ Q 250 ls [.int 1] AH nc ns) : ∀ d k, 48 - k = d → k ≤ 48 → ∀ Y S C V, BET u U Y S V → AW κ Q 199 (W6 x (nI k)) [] (LAf hs R tv0 ov0 Y S C sv0 U D V ++ tl) (3000 + 4 * k) (100000 + 24 * k) := by
  intro d
  induction d with
  | zero =>
    intro k hd hk Y S C V hB
    have e : k = 48 := by omega
    subst e
    refine go_s 2 X (pc2 := 203) (st2 := [.int 48, .int (nI 48)]) rfl ?_
    refine r_icmp_ge X 249 rfl rfl (fun _ => ?_) (fun h => absurd (show (48 : Int32) ≤ nI 48 by decide) h)
    refine go_s 1 X (pc2 := 250) (st2 := [.int 1]) rfl ?_
    exact hend _ _ _ _ (by omega) (by omega)
  | succ d ih =>
    intro k hd hk Y S C V hB
    have hk' : k < 48 := by omega
    refine go_s 2 X (pc2 := 203) (st2 := [.int 48, .int (nI k)]) rfl ?_
    refine r_icmp_ge X 249 rfl rfl (fun h => absurd h (show ¬ (48 : Int32) ≤ nI k from nI_ge (b := 48) hk' (by decide))) (fun _ => ?_)
    refine go_s 6 X (pc2 := 213) (st2 := [.int (1 + nI k), .ref (SB + 201), .ref 0, .ref 190]) rfl ?_
    rw [one_nI]
    refine lw_cell X SX hR hL (k := 1 + k) (by omega) rfl (by decide) (by omega) (by omega) (fun a => ?_)
    refine law_act X hR hB rfl (by omega) (by omega) (fun Y S V hB => ?_)
    refine r_if_ne X 224 rfl rfl (fun _ => ?_) (fun c => absurd c n10)
    have fin : ∀ C V, BET u U Y S V → AW κ Q 243 (W6 x (nI k)) [] (LAf hs R tv0 ov0 Y S C sv0 U D V ++ tl) (3000 + 4 * k + 4) (100000 + 24 * k + 24) := by
      intro C V hB
      refine go_l 2 X (pc2 := 199) (ls2 := W6 x (nI k + 1)) (st2 := []) rfl ?_
      rw [nI_1]
      exact AW.widen (by omega) (by omega) (ih (k + 1) (by omega) (by omega) Y S C V hB)
    refine go_s 2 X (pc2 := 228) (st2 := [.int 6, .int (nI k)]) rfl ?_
    refine r_irem X rfl (by decide) ?_
    refine go_s 1 X (pc2 := 230) (st2 := [.int 5, .int (nI k - nI k / 6 * 6)]) rfl ?_
    refine r_icmp_ne X 243 rfl rfl (fun _ => fin C V hB) (fun _ => ?_)
    refine go_s 2 X (pc2 := 235) (st2 := [.ref 0, .ref 190]) rfl ?_
    refine law_like X hR hB rfl (by omega) (by omega) (fun C V hB => ?_)
    exact r_if_ne X 243 rfl rfl (fun _ => fin C V hB) (fun c => absurd c n10)
set_option maxRecDepth 20000 in
set_option maxHeartbeats 1000000 in
theorem law_d (X : CX κ (z_W nm)) (SX : SCX κ L xs) (hR : κR κ = room_1) (hL : L ≤ 260) (hend : ∀ (ls : List (Option Value)) (AH : List AC) (nc ns : Nat), nc ≤ 600086 → ns ≤ 7301442 → AW κ Q 250 ls [.int 1] AH nc ns) {T : List Nat} {f : Nat → Nat} {n m : Nat} {i : Int32} {Y : YV} {S C : SV} {U D : UV} {V : QV} (hT : TXok T) (hl : RVLn R = nI T.length) (hX : TXc T (RVTx R)) (hSC : SCR C) (hY : YI Y) (hTe : T = tQ f n ++ tO m) (hn : 1 ≤ n ∧ n ≤ 4) (hm : 1 ≤ m ∧ m ≤ 4) (hV : QI n m V f n) : AW κ Q 179 (W6 x i) [] (LAt 0 R tv0 ov0 Y S C sv0 U D V ++ tl) 3000 100000 := by
  have hf : ∀ i, i < n → 1 ≤ f i ∧ f i ≤ 16 := fun i hi => (hV.2.2.2.1 i hi).1
  obtain ⟨R', Y', S', C', D', e, c1, c2, c3⟩ := load_k (hs := 0) (U := U) (D := D) (S := S) hT hl hX hSC hY hTe hn hm hf
  obtain ⟨b1, b2, b3⟩ := uq_f (f := f) n
  obtain ⟨e1, e2, e3, -, -⟩ := uw_f b2 m
  have hUB : UB (uw (uq f n) m) := uw_B (uq_B n hn.2 hf) b2 m hm.2
  have hB : BET (uw (uq f n) m) D' Y' S' V := ⟨g00, GI00 hUB.1, c1, c2, LQ0 hn hm hf hV.1 hV.2.1 hV.2.2.1 (fun k hk => ⟨(hV.2.2.2.1 k hk).2, hV.2.2.2.2 k⟩), hUB.ui (by rw [e1, b1]; exact hn.1), c3.1.1, c3.2.1.1, c3.2.2⟩
  refine go_s 1 X (pc2 := 180) (st2 := [.ref 0]) rfl ?_
  refine q_callV X io_rd dlt (o := 0) (As := []) (rest := []) (AH2 := LAf 0 R' tv0 ov0 Y' S' C' sv0 D' U V ++ tl) (st2 := [.int 0]) (c_X8_loadSetup _ _ _ _ e) pk_rd rfl k_X8_loadSetup l_L_229 rfl rfl rfl rfl rfl (fitR hR (by decide) (by decide) (by decide) (by decide)) (by decide) (Nat.le_of_ble_eq_true rfl) rfl (put_rd _ _ _ _ _ _ _) rfl ?_
  refine r_if_ne X 194 rfl rfl (fun c => absurd rfl c) (fun _ => ?_)
  refine go_s 2 X (pc2 := 188) (st2 := [.ref 0, .ref 190]) rfl ?_
  refine law_like X hR hB rfl (by decide) (by decide) (fun C V hB => ?_)
  refine r_if_ne X 196 rfl rfl (fun _ => ?_) (fun c => absurd c n10)
  refine go_l 2 X (pc2 := 199) (ls2 := W6 x (nI 0)) (st2 := []) rfl ?_
  exact law_loop X SX hR hL hend 48 0 rfl (Nat.zero_le _) Y' S' C V hB
end LAWD
