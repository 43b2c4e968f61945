/-! ===== 75e: StringBuilder: append(char), append(int) (gen75e.py) ===== -/
set_option maxRecDepth 20000 in
theorem c_isLat5 {m : Nat} {f : Nat → Int32} {ml n : Int32} : Sem z_J5_isLatin1_aae02 0 0 0 [.ref 0] (WB m f ml n) (PST (.inl (some (.int 1))) (WB m f ml n)) := by
  refine Sem.of zo_J5_isLatin1_aae02 (by decide +kernel) (Nat.le_of_ble_eq_true rfl) fun κ X hE hR hN => ?_
  refine AW.eq (pc' := 0) (ls' := [some (.ref 0)]) (st' := []) (AH' := WB m f ml n) ?_ rfl rfl rfl rfl
  refine r_strK X rfl (by decide +kernel) ?_
  refine r_if_eq X 17 rfl rfl (fun c => absurd c (by decide)) (fun _ => ?_)
  refine go_s 2 X (pc2 := 10) (st2 := [.int 0]) rfl ?_
  refine r_if_ne X 17 rfl rfl (fun c => absurd rfl c) (fun _ => ?_)
  refine go_s 2 X (pc2 := 18) (st2 := [.int 1]) rfl ?_
  exact r_zret X rfl rfl rfl ⟨rfl, rfl⟩ (by decide) (by decide)
set_option maxRecDepth 20000 in
theorem c_canEnc {c : Nat} (hc : c < 256) : Sem z_J1_canEncode_fc78d 0 0 0 [.int (nI c)] [] (PST (.inl (some (.int 1))) []) := by
  refine Sem.of zo_J1_canEncode_fc78d (by decide +kernel) (Nat.le_of_ble_eq_true rfl) fun κ X hE hR hN => ?_
  refine AW.eq (pc' := 0) (ls' := [some (.int (nI c))]) (st' := []) (AH' := []) ?_ rfl rfl rfl rfl
  refine go_s 2 X (pc2 := 4) (st2 := [.int 255, .int (nI c)]) rfl ?_
  refine r_icmp_gt X 11 rfl rfl (fun h => absurd h (show ¬ nI 255 < nI c from nI_nlt (by omega) (by decide))) (fun _ => ?_)
  refine go_s 2 X (pc2 := 12) (st2 := [.int 1]) rfl ?_
  exact r_zret X rfl rfl rfl ⟨rfl, rfl⟩ (by decide) (by decide)
theorem nb128 : ∀ c, c < 128 → vp_nar .byte ((nI c).toInt8.toInt32) = nI c ∧ vp_nar .byte (nI c) = nI c ∧ fits .byte (.int (nI c)) = true := by decide +kernel
set_option maxHeartbeats 1000000 in
set_option maxRecDepth 20000 in
theorem c_appC5 {T : List Nat} {c m : Nat} (hc : c < 128) {f : Nat → Int32} {ml : Int32} (h0 : 0 < m) (hm : m ≤ 400) (hB : BT T m f) : Sem z_J5_append_3fe6f 3 1 1000 [.ref 0, .int (nI c)] (WB m f ml (nI T.length)) (PAP (T ++ [c]) m ml) := by
  obtain ⟨b1, b2, b3⟩ := hB
  obtain ⟨n1, n2, n3⟩ := nb128 c hc
  have eL : (T ++ [c]).length = T.length + 1 := by rw [List.length_append]; rfl
  have eC : (nI T.length).toNatClampNeg = T.length := nI_clamp (by omega)
  refine Sem.of zo_J5_append_3fe6f (by decide +kernel) (Nat.le_of_ble_eq_true rfl) fun κ X hE hR hN => ?_
  refine AW.eq (pc' := 0) (ls' := [some (.ref 0), some (.int (nI c))]) (st' := []) (AH' := WB m f ml (nI T.length)) ?_ rfl rfl rfl rfl
  refine go_s 5 X (pc2 := 7) (st2 := [.int (nI T.length + 1), .ref 0]) rfl ?_
  rw [nI_1]
  refine r_gU X [0, 1] [] (o := 0) (As := [.int (nI (T.length + 1))]) (rest := []) (c_ensure h0 hm (by omega) b3) ⟨rfl, rfl⟩ rfl u_AB_100 rfl rfl rfl (fit_of hR (by decide) (by decide) (by decide) (by decide)) (Nat.le_of_ble_eq_true rfl) (fun _ h => by cases h) (Nat.le_of_ble_eq_true rfl) (Nat.le_of_ble_eq_true rfl) ⟨clo_all rfl, rfl, rfl⟩ (clo_all rfl) grw_PEN (fun v W2 hp => ?_)
  obtain ⟨e1, ⟨h2, rfl⟩ | ⟨h2, rfl⟩⟩ := hp
  · cases e1
    refine AW.eq (pc' := 10) (ls' := [some (.ref 0), some (.int (nI c))]) (st' := []) (AH' := WB m f ml (nI T.length)) ?_ rfl rfl rfl rfl
    refine go_s 1 X (pc2 := 11) (st2 := [.ref 0]) rfl ?_
    refine r_gU X [0, 1] [] (o := 0) (As := []) (rest := []) (c_isLat5 (m := m) (f := f) (ml := ml) (n := nI T.length)) ⟨rfl, rfl⟩ rfl u_AB_83 rfl rfl rfl (fit_of hR (by decide) (by decide) (by decide) (by decide)) (Nat.le_of_ble_eq_true rfl) (fun _ h => by cases h) (Nat.le_of_ble_eq_true rfl) (Nat.le_of_ble_eq_true rfl) ⟨clo_all rfl, rfl, rfl⟩ (clo_all rfl) (grw_of (Nat.le_of_ble_eq_true rfl) (Nat.le_of_ble_eq_true rfl) rfl (fun _ h => by cases h; rfl)) (fun v W2 hp => ?_)
    obtain ⟨e1, rfl⟩ := hp
    cases e1
    refine AW.eq (pc' := 14) (ls' := [some (.ref 0), some (.int (nI c))]) (st' := [.int 1]) (AH' := WB m f ml (nI T.length)) ?_ rfl rfl rfl rfl
    refine r_if_eq X 45 rfl rfl (fun h => absurd h (by decide)) (fun _ => ?_)
    refine go_s 1 X (pc2 := 18) (st2 := [.int (nI c)]) rfl ?_
    refine q_callS X [] [] (As := [.int (nI c)]) (rest := []) (AH2 := WB m f ml (nI T.length)) (st2 := [.int 1]) (c_canEnc (by omega)) ⟨rfl, rfl⟩ rfl k_J1_canEncode_fc78d (Or.inl m_AB_191) rfl rfl (fit_of hR (by decide) (by decide) (by decide) (by decide)) (Nat.le_of_ble_eq_true rfl) (by decide) rfl rfl rfl ?_
    refine r_if_eq X 45 rfl rfl (fun h => absurd h (by decide)) (fun _ => ?_)
    refine go_s 5 X (pc2 := 33) (st2 := [.int (nI T.length), .ref 0, .ref 1]) rfl ?_
    refine r_dup_x1 X rfl rfl rfl ?_
    refine go 5 X (pc2 := 41) (ls2 := [some (.ref 0), some (.int (nI c))]) (st2 := [.int ((nI c).toInt8.toInt32), .int (nI T.length), .ref 1]) (AH2 := WB m f ml (nI T.length + 1)) rfl ?_
    refine r_bast X rfl rfl (vp_in_nI (by omega) (by omega)) ?_
    rw [n1, eC]
    refine AW.eq (pc' := 42) (ls' := [some (.ref 0), some (.int (nI c))]) (st' := []) (AH' := WB m (upd f T.length (nI c)) ml (nI T.length + 1)) ?_ rfl rfl rfl rfl
    refine go_s 2 X (pc2 := 76) (st2 := [.ref 0]) rfl ?_
    rw [nI_1, ← eL]
    exact r_aret X rfl rfl (Or.inl ⟨_, rfl⟩) ⟨rfl, Or.inl ⟨upd f T.length (nI c), ⟨by rw [eL]; exact h2, TX_add b2, byf_upd b3 n3⟩, rfl⟩⟩ (by decide) (by decide)
  · cases e1
    refine AW.eq (pc' := 10) (ls' := [some (.ref 0), some (.int (nI c))]) (st' := []) (AH' := WG m f (2 * m + 2) (va_cpy f z0 0 0 m) ml (nI T.length)) ?_ rfl rfl rfl rfl
    refine go_s 1 X (pc2 := 11) (st2 := [.ref 0]) rfl ?_
    refine r_gU X [0, 2] [] (o := 0) (As := []) (rest := []) (c_isLat5 (m := (2 * m + 2)) (f := (va_cpy f z0 0 0 m)) (ml := ml) (n := nI T.length)) ⟨rfl, rfl⟩ rfl u_AB_83 rfl rfl rfl (fit_of hR (by decide) (by decide) (by decide) (by decide)) (Nat.le_of_ble_eq_true rfl) (fun _ h => by cases h) (Nat.le_of_ble_eq_true rfl) (Nat.le_of_ble_eq_true rfl) ⟨clo_all rfl, rfl, rfl⟩ (clo_all rfl) (grw_of (Nat.le_of_ble_eq_true rfl) (Nat.le_of_ble_eq_true rfl) rfl (fun _ h => by cases h; rfl)) (fun v W2 hp => ?_)
    obtain ⟨e1, rfl⟩ := hp
    cases e1
    refine AW.eq (pc' := 14) (ls' := [some (.ref 0), some (.int (nI c))]) (st' := [.int 1]) (AH' := WG m f (2 * m + 2) (va_cpy f z0 0 0 m) ml (nI T.length)) ?_ rfl rfl rfl rfl
    refine r_if_eq X 45 rfl rfl (fun h => absurd h (by decide)) (fun _ => ?_)
    refine go_s 1 X (pc2 := 18) (st2 := [.int (nI c)]) rfl ?_
    refine q_callS X [] [] (As := [.int (nI c)]) (rest := []) (AH2 := WG m f (2 * m + 2) (va_cpy f z0 0 0 m) ml (nI T.length)) (st2 := [.int 1]) (c_canEnc (by omega)) ⟨rfl, rfl⟩ rfl k_J1_canEncode_fc78d (Or.inl m_AB_191) rfl rfl (fit_of hR (by decide) (by decide) (by decide) (by decide)) (Nat.le_of_ble_eq_true rfl) (by decide) rfl rfl rfl ?_
    refine r_if_eq X 45 rfl rfl (fun h => absurd h (by decide)) (fun _ => ?_)
    refine go_s 5 X (pc2 := 33) (st2 := [.int (nI T.length), .ref 0, .ref 2]) rfl ?_
    refine r_dup_x1 X rfl rfl rfl ?_
    refine go 5 X (pc2 := 41) (ls2 := [some (.ref 0), some (.int (nI c))]) (st2 := [.int ((nI c).toInt8.toInt32), .int (nI T.length), .ref 2]) (AH2 := WG m f (2 * m + 2) (va_cpy f z0 0 0 m) ml (nI T.length + 1)) rfl ?_
    refine r_bast X rfl rfl (vp_in_nI (by omega) (by omega)) ?_
    rw [n1, eC]
    refine AW.eq (pc' := 42) (ls' := [some (.ref 0), some (.int (nI c))]) (st' := []) (AH' := WG m f (2 * m + 2) (upd (va_cpy f z0 0 0 m) T.length (nI c)) ml (nI T.length + 1)) ?_ rfl rfl rfl rfl
    refine go_s 2 X (pc2 := 76) (st2 := [.ref 0]) rfl ?_
    rw [nI_1, ← eL]
    exact r_aret X rfl rfl (Or.inl ⟨_, rfl⟩) ⟨rfl, Or.inr ⟨f, upd (va_cpy f z0 0 0 m) T.length (nI c), ⟨by rw [eL]; omega, ⟨by rw [eL]; omega, TX_add (BT_first b1 b2), byf_upd (byf_cpy b3 byf0) n3⟩⟩, rfl⟩⟩ (by decide) (by decide)
set_option maxRecDepth 20000 in
theorem c_appC {T : List Nat} {c m : Nat} (hc : c < 128) {f : Nat → Int32} {ml : Int32} (h0 : 0 < m) (hm : m ≤ 400) (hB : BT T m f) : Sem z_J4_append_cf468 4 1 1000 [.ref 0, .int (nI c)] (WB m f ml (nI T.length)) (PAP (T ++ [c]) m ml) := by
  refine Sem.of zo_J4_append_cf468 (by decide +kernel) (Nat.le_of_ble_eq_true rfl) fun κ X hE hR hN => ?_
  refine AW.eq (pc' := 0) (ls' := [some (.ref 0), some (.int (nI c))]) (st' := []) (AH' := WB m f ml (nI T.length)) ?_ rfl rfl rfl rfl
  refine go_s 2 X (pc2 := 2) (st2 := [.int (nI c), .ref 0]) rfl ?_
  refine r_gW X [0, 1] [] (o := 0) (As := [.int (nI c)]) (rest := []) (c_appC5 hc h0 hm hB) ⟨rfl, rfl⟩ rfl w_SB_50 rfl rfl rfl (fit_of hR (by decide) (by decide) (by decide) (by decide)) (Nat.le_of_ble_eq_true rfl) (fun _ h => by cases h) (Nat.le_of_ble_eq_true rfl) (Nat.le_of_ble_eq_true rfl) ⟨clo_all rfl, rfl, rfl⟩ (clo_all rfl) grw_PAP (fun v W2 hp => ?_)
  obtain ⟨e1, ⟨f2, h2, rfl⟩ | ⟨g2, f2, h2, rfl⟩⟩ := hp
  · cases e1
    refine AW.eq (pc' := 5) (ls' := [some (.ref 0), some (.int (nI c))]) (st' := [.ref 0]) (AH' := WB m f2 ml (nI (T ++ [c]).length)) ?_ rfl rfl rfl rfl
    refine go_s 2 X (pc2 := 7) (st2 := [.ref 0]) rfl ?_
    exact r_aret X rfl rfl (Or.inl ⟨_, rfl⟩) ⟨rfl, Or.inl ⟨f2, h2, rfl⟩⟩ (by decide) (by decide)
  · cases e1
    refine AW.eq (pc' := 5) (ls' := [some (.ref 0), some (.int (nI c))]) (st' := [.ref 0]) (AH' := WG m g2 (2 * m + 2) f2 ml (nI (T ++ [c]).length)) ?_ rfl rfl rfl rfl
    refine go_s 2 X (pc2 := 7) (st2 := [.ref 0]) rfl ?_
    exact r_aret X rfl rfl (Or.inl ⟨_, rfl⟩) ⟨rfl, Or.inr ⟨g2, f2, h2, rfl⟩⟩ (by decide) (by decide)
/-- the digits of a number below 100 -/
def DG (x : Nat) : List Nat := if x < 10 then [48 + x] else [48 + x / 10, 48 + x % 10]
theorem sz_f : ∀ x, x < 17 → ((-nI x ≤ -10) ↔ 10 ≤ x) ∧ ¬ (-nI x ≤ -100) ∧ ((-100 : Int32) < -nI x) ∧ (((-9 : Int32) ≤ -nI x) ↔ x ≤ 9) ∧ - -nI x = nI x := by decide +kernel
set_option maxRecDepth 20000 in
theorem c_ssize {x : Nat} (hx : x < 17) : Sem z_J6_stringSize_0f7a4 0 0 0 [.int (nI x)] [] (PST (.inl (some (.int (nI (DG x).length)))) []) := by
  obtain ⟨f1, f2, f3, f4, f5⟩ := sz_f x hx
  refine Sem.of zo_J6_stringSize_0f7a4 (by decide +kernel) (Nat.le_of_ble_eq_true rfl) fun κ X hE hR hN => ?_
  refine AW.eq (pc' := 0) (ls' := [some (.int (nI x)), none, none, none]) (st' := []) (AH' := []) ?_ rfl rfl rfl rfl
  refine go_l 3 X (pc2 := 3) (ls2 := [some (.int (nI x)), some (.int 1), none, none]) (st2 := [.int (nI x)]) rfl ?_
  refine r_if_lt X 11 rfl rfl (fun h => absurd h (nI_pos (by omega))) (fun _ => ?_)
  refine go_l 3 X (pc2 := 9) (ls2 := [some (.int (nI x)), some (.int 0), none, none]) (st2 := [.int (nI x)]) rfl ?_
  refine r_ineg X rfl ?_
  refine go_l 7 X (pc2 := 19) (ls2 := [some (.int (-nI x)), some (.int 0), some (.int (-10)), some (.int 1)]) (st2 := [.int 10, .int 1]) rfl ?_
  refine r_icmp_ge X 42 rfl rfl (fun h => absurd h (by decide)) (fun _ => ?_)
  refine go_s 2 X (pc2 := 24) (st2 := [.int (-10), .int (-nI x)]) rfl ?_
  refine r_icmp_le X 31 rfl rfl (fun h => ?_) (fun h => ?_)
  · have hx2 := f1.mp h
    refine go_l 8 X (pc2 := 19) (ls2 := [some (.int (-nI x)), some (.int 0), some (.int (-100)), some (.int 2)]) (st2 := [.int 10, .int 2]) rfl ?_
    refine r_icmp_ge X 42 rfl rfl (fun h => absurd h (by decide)) (fun _ => ?_)
    refine go_s 2 X (pc2 := 24) (st2 := [.int (-100), .int (-nI x)]) rfl ?_
    refine r_icmp_le X 31 rfl rfl (fun h => absurd h f2) (fun _ => ?_)
    refine go_s 3 X (pc2 := 30) (st2 := [.int 2]) rfl ?_
    have e : (DG x).length = 2 := by unfold DG; rw [if_neg (by omega)]; rfl
    rw [e]
    exact r_iret X rfl rfl ⟨rfl, rfl⟩ (by decide) (by decide)
  · have hx2 : x < 10 := Nat.lt_of_not_le fun q => h (f1.mpr q)
    refine go_s 3 X (pc2 := 30) (st2 := [.int 1]) rfl ?_
    have e : (DG x).length = 1 := by unfold DG; rw [if_pos hx2]; rfl
    rw [e]
    exact r_iret X rfl rfl ⟨rfl, rfl⟩ (by decide) (by decide)
def gdig (x q : Nat) (f : Nat → Int32) : Nat → Int32 := if x < 10 then upd f q (nI (48 + x)) else upd (upd f (q + 1) (nI (48 + x % 10))) q (nI (48 + x / 10))
theorem dec1 (k : Nat) : nI (k + 1) + Int32.ofInt (-1) = nI k := ix_dec (k + 1)
set_option maxHeartbeats 1000000 in
set_option maxRecDepth 20000 in
theorem c_getc {x q m : Nat} {f : Nat → Int32} (hx : x < 17) (hm : m ≤ 1000) (hq : q + (DG x).length ≤ m) : Sem z_J6_getChars_ba4f3 0 0 0 [.int (nI x), .int (nI (q + (DG x).length)), .ref 0] [.inl (3, m, .inl f)] (PST (.inl (some (.int (nI q)))) [.inl (3, m, .inl (gdig x q f))]) := by
  obtain ⟨f1, f2, f3, f4, f5⟩ := sz_f x hx
  have eX : (nI x).toNatClampNeg = x := nI_clamp (by omega)
  by_cases hx2 : x < 10
  · have e : (DG x).length = 1 := by unfold DG; rw [if_pos hx2]; rfl
    have eg : gdig x q f = upd f q (nI (48 + x)) := if_pos hx2
    rw [e, eg]
    rw [e] at hq
    have hdx : x % 10 = x := Nat.mod_eq_of_lt hx2
    refine Sem.of zo_J6_getChars_ba4f3 (by decide +kernel) (Nat.le_of_ble_eq_true rfl) fun κ X hE hR hN => ?_
    refine AW.eq (pc' := 0) (ls' := [some (.int (nI x)), some (.int (nI (q + 1))), some (.ref 0), none, none, none, none]) (st' := []) (AH' := [.inl (3, m, .inl f)]) ?_ rfl rfl rfl rfl
    refine go_l 3 X (pc2 := 4) (ls2 := [some (.int (nI x)), some (.int (nI (q + 1))), some (.ref 0), none, none, some (.int (nI (q + 1))), none]) (st2 := [.int (nI x)]) rfl ?_
    refine r_if_ge X 11 rfl rfl (fun _ => ?_) (fun h => absurd (nI_pos' (by omega)) h)
    refine go_l 3 X (pc2 := 16) (ls2 := [some (.int (nI x)), some (.int (nI (q + 1))), some (.ref 0), none, none, some (.int (nI (q + 1))), some (.int 0)]) (st2 := [.int 0]) rfl ?_
    refine r_if_ne X 22 rfl rfl (fun h => absurd rfl h) (fun _ => ?_)
    refine go_s 1 X (pc2 := 20) (st2 := [.int (nI x)]) rfl ?_
    refine r_ineg X rfl ?_
    refine go_l 3 X (pc2 := 25) (ls2 := [some (.int (-nI x)), some (.int (nI (q + 1))), some (.ref 0), none, none, some (.int (nI (q + 1))), some (.int 0)]) (st2 := [.int (-100), .int (-nI x)]) rfl ?_
    refine r_icmp_gt X 72 rfl rfl (fun _ => ?_) (fun h => absurd f3 h)
    refine go_l 3 X (pc2 := 78) (ls2 := [some (.int (-nI x)), some (.int (nI (q + 1))), some (.ref 0), none, none, some (.int (nI (q + 1) + Int32.ofInt (-1))), some (.int 0)]) (st2 := [.int (nI (q + 1) + Int32.ofInt (-1)), .ref 0]) rfl ?_
    rw [dec1]
    refine r_dig1 X rfl (by decide +kernel) ?_
    refine go_s 1 X (pc2 := 82) (st2 := [.int (-nI x), .ref (SB + 202), .int (nI q), .ref 0]) rfl ?_
    refine r_ineg X rfl ?_
    rw [f5]
    refine r_dig1B X (vp_in_nI (by omega) (by omega)) rfl ?_
    rw [eX, hdx]
    refine r_bast X rfl rfl (vp_in_nI (by omega) (by omega)) ?_
    rw [(nb128 (48 + x) (by omega)).2.1, nI_clamp (n := q) (by omega)]
    refine AW.eq (pc' := 85) (ls' := [some (.int (-nI x)), some (.int (nI (q + 1))), some (.ref 0), none, none, some (.int (nI q)), some (.int 0)]) (st' := []) (AH' := [.inl (3, m, .inl (upd f q (nI (48 + x))))]) ?_ rfl rfl rfl rfl
    refine go_s 2 X (pc2 := 88) (st2 := [.int (-9), .int (-nI x)]) rfl ?_
    refine r_icmp_ge X 104 rfl rfl (fun _ => ?_) (fun h => absurd (f4.mpr (by omega)) h)
    refine go_s 1 X (pc2 := 106) (st2 := [.int 0]) rfl ?_
    refine r_if_eq X 118 rfl rfl (fun _ => ?_) (fun h => absurd rfl h)
    refine go_s 1 X (pc2 := 120) (st2 := [.int (nI q)]) rfl ?_
    exact r_iret X rfl rfl ⟨rfl, rfl⟩ (by decide) (by decide)
  · have e : (DG x).length = 2 := by unfold DG; rw [if_neg hx2]; rfl
    have eg : gdig x q f = upd (upd f (q + 1) (nI (48 + x % 10))) q (nI (48 + x / 10)) := if_neg hx2
    rw [e, eg]
    rw [e] at hq
    refine Sem.of zo_J6_getChars_ba4f3 (by decide +kernel) (Nat.le_of_ble_eq_true rfl) fun κ X hE hR hN => ?_
    refine AW.eq (pc' := 0) (ls' := [some (.int (nI x)), some (.int (nI (q + 2))), some (.ref 0), none, none, none, none]) (st' := []) (AH' := [.inl (3, m, .inl f)]) ?_ rfl rfl rfl rfl
    refine go_l 3 X (pc2 := 4) (ls2 := [some (.int (nI x)), some (.int (nI (q + 2))), some (.ref 0), none, none, some (.int (nI (q + 2))), none]) (st2 := [.int (nI x)]) rfl ?_
    refine r_if_ge X 11 rfl rfl (fun _ => ?_) (fun h => absurd (nI_pos' (by omega)) h)
    refine go_l 3 X (pc2 := 16) (ls2 := [some (.int (nI x)), some (.int (nI (q + 2))), some (.ref 0), none, none, some (.int (nI (q + 2))), some (.int 0)]) (st2 := [.int 0]) rfl ?_
    refine r_if_ne X 22 rfl rfl (fun h => absurd rfl h) (fun _ => ?_)
    refine go_s 1 X (pc2 := 20) (st2 := [.int (nI x)]) rfl ?_
    refine r_ineg X rfl ?_
    refine go_l 3 X (pc2 := 25) (ls2 := [some (.int (-nI x)), some (.int (nI (q + 2))), some (.ref 0), none, none, some (.int (nI (q + 2))), some (.int 0)]) (st2 := [.int (-100), .int (-nI x)]) rfl ?_
    refine r_icmp_gt X 72 rfl rfl (fun _ => ?_) (fun h => absurd f3 h)
    refine go_l 3 X (pc2 := 78) (ls2 := [some (.int (-nI x)), some (.int (nI (q + 2))), some (.ref 0), none, none, some (.int (nI (q + 1 + 1) + Int32.ofInt (-1))), some (.int 0)]) (st2 := [.int (nI (q + 1 + 1) + Int32.ofInt (-1)), .ref 0]) rfl ?_
    rw [dec1]
    refine r_dig1 X rfl (by decide +kernel) ?_
    refine go_s 1 X (pc2 := 82) (st2 := [.int (-nI x), .ref (SB + 202), .int (nI (q + 1)), .ref 0]) rfl ?_
    refine r_ineg X rfl ?_
    rw [f5]
    refine r_dig1B X (vp_in_nI (by omega) (by omega)) rfl ?_
    rw [eX]
    refine r_bast X rfl rfl (vp_in_nI (by omega) (by omega)) ?_
    rw [(nb128 (48 + x % 10) (by omega)).2.1, nI_clamp (n := q + 1) (by omega)]
    refine AW.eq (pc' := 85) (ls' := [some (.int (-nI x)), some (.int (nI (q + 2))), some (.ref 0), none, none, some (.int (nI (q + 1))), some (.int 0)]) (st' := []) (AH' := [.inl (3, m, .inl (upd f (q + 1) (nI (48 + x % 10))))]) ?_ rfl rfl rfl rfl
    refine go_s 2 X (pc2 := 88) (st2 := [.int (-9), .int (-nI x)]) rfl ?_
    refine r_icmp_ge X 104 rfl rfl (fun h => absurd (f4.mp h) (by omega)) (fun _ => ?_)
    refine go_l 3 X (pc2 := 97) (ls2 := [some (.int (-nI x)), some (.int (nI (q + 2))), some (.ref 0), none, none, some (.int (nI (q + 1) + Int32.ofInt (-1))), some (.int 0)]) (st2 := [.int (nI (q + 1) + Int32.ofInt (-1)), .ref 0]) rfl ?_
    rw [dec1]
    refine r_dig2 X rfl (by decide +kernel) ?_
    refine go_s 1 X (pc2 := 101) (st2 := [.int (-nI x), .ref (SB + 203), .int (nI q), .ref 0]) rfl ?_
    refine r_ineg X rfl ?_
    rw [f5]
    refine r_dig2B X (vp_in_nI (by omega) (by omega)) rfl ?_
    rw [eX]
    refine r_bast X rfl rfl (vp_in_nI (by omega) (by omega)) ?_
    rw [(nb128 (48 + x / 10) (by omega)).2.1, nI_clamp (n := q) (by omega)]
    refine AW.eq (pc' := 104) (ls' := [some (.int (-nI x)), some (.int (nI (q + 2))), some (.ref 0), none, none, some (.int (nI q)), some (.int 0)]) (st' := []) (AH' := [.inl (3, m, .inl (upd (upd f (q + 1) (nI (48 + x % 10))) q (nI (48 + x / 10))))]) ?_ rfl rfl rfl rfl
    refine go_s 1 X (pc2 := 106) (st2 := [.int 0]) rfl ?_
    refine r_if_eq X 118 rfl rfl (fun _ => ?_) (fun h => absurd rfl h)
    refine go_s 1 X (pc2 := 120) (st2 := [.int (nI q)]) rfl ?_
    exact r_iret X rfl rfl ⟨rfl, rfl⟩ (by decide) (by decide)
theorem gdig_ok {T : List Nat} {x : Nat} {f : Nat → Int32} (hx : x < 17) (hf : ∀ j c, T[j]? = some c → f j = nI c) (hb : BYF f) : (∀ j c, (T ++ DG x)[j]? = some c → gdig x T.length f j = nI c) ∧ BYF (gdig x T.length f) := by
  unfold gdig DG
  by_cases hx2 : x < 10
  · rw [if_pos hx2, if_pos hx2]
    exact ⟨TX_add hf, byf_upd hb (nb128 _ (by omega)).2.2⟩
  · rw [if_neg hx2, if_neg hx2]
    refine ⟨fun j c hj => ?_, byf_upd (byf_upd hb (nb128 _ (by omega)).2.2) (nb128 _ (by omega)).2.2⟩
    unfold upd
    by_cases h1 : j = T.length
    · subst h1
      rw [if_pos rfl]
      rw [List.getElem?_append_right (Nat.le_refl _), Nat.sub_self] at hj
      rw [← Option.some.inj hj]
    · rw [if_neg h1]
      by_cases h2 : j = T.length + 1
      · subst h2
        rw [if_pos rfl]
        rw [List.getElem?_append_right (by omega), show T.length + 1 - T.length = 1 by omega] at hj
        rw [← Option.some.inj hj]
      · rw [if_neg h2]
        by_cases h3 : j < T.length
        · rw [List.getElem?_append_left h3] at hj
          exact hf j c hj
        · have hl := (List.getElem?_eq_some_iff.mp hj).1
          rw [List.length_append] at hl
          simp at hl
          omega
theorem DG_len {x : Nat} : 1 ≤ (DG x).length ∧ (DG x).length ≤ 2 := by
  unfold DG
  split
  · exact ⟨Nat.le_of_ble_eq_true rfl, Nat.le_of_ble_eq_true rfl⟩
  · exact ⟨Nat.le_of_ble_eq_true rfl, Nat.le_of_ble_eq_true rfl⟩
set_option maxHeartbeats 1000000 in
set_option maxRecDepth 20000 in
theorem c_appI5 {T : List Nat} {x m : Nat} (hx : x < 17) {f : Nat → Int32} {ml : Int32} (h0 : 0 < m) (hm : m ≤ 400) (hB : BT T m f) : Sem z_J5_append_c97b9 3 1 1000 [.ref 0, .int (nI x)] (WB m f ml (nI T.length)) (PAP (T ++ DG x) m ml) := by
  obtain ⟨b1, b2, b3⟩ := hB
  obtain ⟨d1, d2⟩ := DG_len (x := x)
  have eL : (T ++ DG x).length = T.length + (DG x).length := List.length_append
  refine Sem.of zo_J5_append_c97b9 (by decide +kernel) (Nat.le_of_ble_eq_true rfl) fun κ X hE hR hN => ?_
  refine AW.eq (pc' := 0) (ls' := [some (.ref 0), some (.int (nI x)), none, none]) (st' := []) (AH' := WB m f ml (nI T.length)) ?_ rfl rfl rfl rfl
  refine go_l 5 X (pc2 := 7) (ls2 := [some (.ref 0), some (.int (nI x)), some (.int (nI T.length)), none]) (st2 := [.int (nI x), .int (nI T.length)]) rfl ?_
  refine q_callS X [] [] (As := [.int (nI x)]) (rest := [.int (nI T.length)]) (AH2 := WB m f ml (nI T.length)) (st2 := [.int (nI (DG x).length), .int (nI T.length)]) (c_ssize hx) ⟨rfl, rfl⟩ rfl k_J6_stringSize_0f7a4 (Or.inl m_AB_245) rfl rfl (fit_of hR (by decide) (by decide) (by decide) (by decide)) (Nat.le_of_ble_eq_true rfl) (by decide) rfl rfl rfl ?_
  refine go_l 4 X (pc2 := 14) (ls2 := [some (.ref 0), some (.int (nI x)), some (.int (nI T.length)), some (.int (nI T.length + nI (DG x).length))]) (st2 := [.int (nI T.length + nI (DG x).length), .ref 0]) rfl ?_
  rw [nI_add]
  refine r_gU X [0, 1] [] (o := 0) (As := [.int (nI (T.length + (DG x).length))]) (rest := []) (c_ensure h0 hm (by omega) b3) ⟨rfl, rfl⟩ rfl u_AB_100 rfl rfl rfl (fit_of hR (by decide) (by decide) (by decide) (by decide)) (Nat.le_of_ble_eq_true rfl) (fun _ h => by cases h) (Nat.le_of_ble_eq_true rfl) (Nat.le_of_ble_eq_true rfl) ⟨clo_all rfl, rfl, rfl⟩ (clo_all rfl) grw_PEN (fun v W2 hp => ?_)
  obtain ⟨e1, ⟨h2, rfl⟩ | ⟨h2, rfl⟩⟩ := hp
  · cases e1
    refine AW.eq (pc' := 17) (ls' := [some (.ref 0), some (.int (nI x)), some (.int (nI T.length)), some (.int (nI (T.length + (DG x).length)))]) (st' := []) (AH' := WB m f ml (nI T.length)) ?_ rfl rfl rfl rfl
    refine go_s 1 X (pc2 := 18) (st2 := [.ref 0]) rfl ?_
    refine r_gU X [0, 1] [] (o := 0) (As := []) (rest := []) (c_isLat5 (m := m) (f := f) (ml := ml) (n := nI T.length)) ⟨rfl, rfl⟩ rfl u_AB_83 rfl rfl rfl (fit_of hR (by decide) (by decide) (by decide) (by decide)) (Nat.le_of_ble_eq_true rfl) (fun _ h => by cases h) (Nat.le_of_ble_eq_true rfl) (Nat.le_of_ble_eq_true rfl) ⟨clo_all rfl, rfl, rfl⟩ (clo_all rfl) (grw_of (Nat.le_of_ble_eq_true rfl) (Nat.le_of_ble_eq_true rfl) rfl (fun _ h => by cases h; rfl)) (fun v W2 hp => ?_)
    obtain ⟨e1, rfl⟩ := hp
    cases e1
    refine AW.eq (pc' := 21) (ls' := [some (.ref 0), some (.int (nI x)), some (.int (nI T.length)), some (.int (nI (T.length + (DG x).length)))]) (st' := [.int 1]) (AH' := WB m f ml (nI T.length)) ?_ rfl rfl rfl rfl
    refine r_if_eq X 37 rfl rfl (fun h => absurd h (by decide)) (fun _ => ?_)
    refine go_s 4 X (pc2 := 30) (st2 := [.ref 1, .int (nI (T.length + (DG x).length)), .int (nI x)]) rfl ?_
    refine q_callS X [1] [] (As := [.int (nI x), .int (nI (T.length + (DG x).length)), .ref 0]) (rest := []) (AH2 := WB m (gdig x T.length f) ml (nI T.length)) (st2 := [.int (nI T.length)]) (c_getc (m := m) (f := f) hx (by omega) (by omega)) ⟨rfl, rfl⟩ rfl k_J6_getChars_ba4f3 (Or.inl m_AB_248) rfl rfl (fit_of hR (by decide) (by decide) (by decide) (by decide)) (Nat.le_of_ble_eq_true rfl) (by decide) rfl rfl rfl ?_
    refine go 6 X (pc2 := 54) (ls2 := [some (.ref 0), some (.int (nI x)), some (.int (nI T.length)), some (.int (nI (T.length + (DG x).length)))]) (st2 := [.ref 0]) (AH2 := WB m (gdig x T.length f) ml (nI (T.length + (DG x).length))) rfl ?_
    rw [← eL]
    exact r_aret X rfl rfl (Or.inl ⟨_, rfl⟩) ⟨rfl, Or.inl ⟨gdig x T.length f, ⟨by rw [eL]; exact h2, (gdig_ok hx b2 b3).1, (gdig_ok hx b2 b3).2⟩, rfl⟩⟩ (by decide) (by decide)
  · cases e1
    refine AW.eq (pc' := 17) (ls' := [some (.ref 0), some (.int (nI x)), some (.int (nI T.length)), some (.int (nI (T.length + (DG x).length)))]) (st' := []) (AH' := WG m f (2 * m + 2) (va_cpy f z0 0 0 m) ml (nI T.length)) ?_ rfl rfl rfl rfl
    refine go_s 1 X (pc2 := 18) (st2 := [.ref 0]) rfl ?_
    refine r_gU X [0, 2] [] (o := 0) (As := []) (rest := []) (c_isLat5 (m := (2 * m + 2)) (f := (va_cpy f z0 0 0 m)) (ml := ml) (n := nI T.length)) ⟨rfl, rfl⟩ rfl u_AB_83 rfl rfl rfl (fit_of hR (by decide) (by decide) (by decide) (by decide)) (Nat.le_of_ble_eq_true rfl) (fun _ h => by cases h) (Nat.le_of_ble_eq_true rfl) (Nat.le_of_ble_eq_true rfl) ⟨clo_all rfl, rfl, rfl⟩ (clo_all rfl) (grw_of (Nat.le_of_ble_eq_true rfl) (Nat.le_of_ble_eq_true rfl) rfl (fun _ h => by cases h; rfl)) (fun v W2 hp => ?_)
    obtain ⟨e1, rfl⟩ := hp
    cases e1
    refine AW.eq (pc' := 21) (ls' := [some (.ref 0), some (.int (nI x)), some (.int (nI T.length)), some (.int (nI (T.length + (DG x).length)))]) (st' := [.int 1]) (AH' := WG m f (2 * m + 2) (va_cpy f z0 0 0 m) ml (nI T.length)) ?_ rfl rfl rfl rfl
    refine r_if_eq X 37 rfl rfl (fun h => absurd h (by decide)) (fun _ => ?_)
    refine go_s 4 X (pc2 := 30) (st2 := [.ref 2, .int (nI (T.length + (DG x).length)), .int (nI x)]) rfl ?_
    refine q_callS X [2] [] (As := [.int (nI x), .int (nI (T.length + (DG x).length)), .ref 0]) (rest := []) (AH2 := WG m f (2 * m + 2) (gdig x T.length (va_cpy f z0 0 0 m)) ml (nI T.length)) (st2 := [.int (nI T.length)]) (c_getc (m := (2 * m + 2)) (f := (va_cpy f z0 0 0 m)) hx (by omega) (by omega)) ⟨rfl, rfl⟩ rfl k_J6_getChars_ba4f3 (Or.inl m_AB_248) rfl rfl (fit_of hR (by decide) (by decide) (by decide) (by decide)) (Nat.le_of_ble_eq_true rfl) (by decide) rfl rfl rfl ?_
    refine go 6 X (pc2 := 54) (ls2 := [some (.ref 0), some (.int (nI x)), some (.int (nI T.length)), some (.int (nI (T.length + (DG x).length)))]) (st2 := [.ref 0]) (AH2 := WG m f (2 * m + 2) (gdig x T.length (va_cpy f z0 0 0 m)) ml (nI (T.length + (DG x).length))) rfl ?_
    rw [← eL]
    exact r_aret X rfl rfl (Or.inl ⟨_, rfl⟩) ⟨rfl, Or.inr ⟨f, gdig x T.length (va_cpy f z0 0 0 m), ⟨by rw [eL]; omega, ⟨by rw [eL]; omega, (gdig_ok hx (BT_first b1 b2) (byf_cpy b3 byf0)).1, (gdig_ok hx (BT_first b1 b2) (byf_cpy b3 byf0)).2⟩⟩, rfl⟩⟩ (by decide) (by decide)
set_option maxRecDepth 20000 in
theorem c_appI {T : List Nat} {x m : Nat} (hx : x < 17) {f : Nat → Int32} {ml : Int32} (h0 : 0 < m) (hm : m ≤ 400) (hB : BT T m f) : Sem z_J4_append_bf812 4 1 1000 [.ref 0, .int (nI x)] (WB m f ml (nI T.length)) (PAP (T ++ DG x) m ml) := by
  refine Sem.of zo_J4_append_bf812 (by decide +kernel) (Nat.le_of_ble_eq_true rfl) fun κ X hE hR hN => ?_
  refine AW.eq (pc' := 0) (ls' := [some (.ref 0), some (.int (nI x))]) (st' := []) (AH' := WB m f ml (nI T.length)) ?_ rfl rfl rfl rfl
  refine go_s 2 X (pc2 := 2) (st2 := [.int (nI x), .ref 0]) rfl ?_
  refine r_gW X [0, 1] [] (o := 0) (As := [.int (nI x)]) (rest := []) (c_appI5 hx h0 hm hB) ⟨rfl, rfl⟩ rfl w_SB_53 rfl rfl rfl (fit_of hR (by decide) (by decide) (by decide) (by decide)) (Nat.le_of_ble_eq_true rfl) (fun _ h => by cases h) (Nat.le_of_ble_eq_true rfl) (Nat.le_of_ble_eq_true rfl) ⟨clo_all rfl, rfl, rfl⟩ (clo_all rfl) grw_PAP (fun v W2 hp => ?_)
  obtain ⟨e1, ⟨f2, h2, rfl⟩ | ⟨g2, f2, h2, rfl⟩⟩ := hp
  · cases e1
    refine AW.eq (pc' := 5) (ls' := [some (.ref 0), some (.int (nI x))]) (st' := [.ref 0]) (AH' := WB m f2 ml (nI (T ++ DG x).length)) ?_ rfl rfl rfl rfl
    refine go_s 2 X (pc2 := 7) (st2 := [.ref 0]) rfl ?_
    exact r_aret X rfl rfl (Or.inl ⟨_, rfl⟩) ⟨rfl, Or.inl ⟨f2, h2, rfl⟩⟩ (by decide) (by decide)
  · cases e1
    refine AW.eq (pc' := 5) (ls' := [some (.ref 0), some (.int (nI x))]) (st' := [.ref 0]) (AH' := WG m g2 (2 * m + 2) f2 ml (nI (T ++ DG x).length)) ?_ rfl rfl rfl rfl
    refine go_s 2 X (pc2 := 7) (st2 := [.ref 0]) rfl ?_
    exact r_aret X rfl rfl (Or.inl ⟨_, rfl⟩) ⟨rfl, Or.inr ⟨g2, f2, h2, rfl⟩⟩ (by decide) (by decide)
