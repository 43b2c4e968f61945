/-! ===== 75c: StringBuilder: its room, append(String), append(char) ===== -/
/-- a StringBuilder: its row of m bytes, its count -/
def WB (m : Nat) (f : Nat → Int32) (ml n : Int32) : List AC := [.inr (10, [.ref 1, .int 0, .int ml, .int n]), .inl (3, m, .inl f)]
def WG (m : Nat) (g : Nat → Int32) (M : Nat) (f : Nat → Int32) (ml n : Int32) : List AC := [.inr (10, [.ref 2, .int 0, .int ml, .int n]), .inl (3, m, .inl g), .inl (3, M, .inl f)]
def BYF (f : Nat → Int32) : Prop := ∀ j, fits .byte (.int (f j)) = true
theorem shl0 (x : Int32) : x <<< ((0 : Int32) &&& 31) = x := by
  have : ((0 : Int32) &&& 31) = 0 := by decide
  rw [this]
  exact Int32.shiftLeft_zero
theorem mx_nI {a b : Nat} (ha : a < 2 ^ 31) (hb : b < 2 ^ 31) : (if nI a < nI b then nI b else nI a) = nI (max a b) := by
  by_cases h : a < b
  · rw [if_pos (nI_lt h hb), Nat.max_eq_right (by omega)]
  · rw [if_neg (nI_nlt (by omega) ha), Nat.max_eq_left (by omega)]
theorem grw_of {n : Nat} {v : Option Value} {W : List AC} (h1 : n ≤ W.length) (h2 : W.length ≤ n + 9) (h3 : W.all (cloC W.length) = true) (h4 : ∀ w, v = some w → cloV W.length w = true) : GRW n (PST (.inl v) W) := by
  refine ⟨fun v' W2 hp => ?_, fun E W2 hp => ?_⟩
  · obtain ⟨e1, rfl⟩ := hp
    cases e1
    exact ⟨h1, h2, clo_all h3, h4⟩
  · have e1 := hp.1
    cases e1
theorem byf0 : BYF z0 := fun _ => rfl
theorem byf_cpy {f g : Nat → Int32} {a b n : Nat} (hf : BYF f) (hg : BYF g) : BYF (va_cpy f g a b n) := by
  intro j
  unfold va_cpy
  split
  · exact hf _
  · exact hg _
theorem byf_upd {f : Nat → Int32} {i : Nat} {x : Int32} (hf : BYF f) (hx : fits .byte (.int x) = true) : BYF (upd f i x) := by
  intro j
  unfold upd
  split
  · exact hx
  · exact hf _
set_option maxRecDepth 20000 in
theorem c_newLength {o a b : Nat} (h0 : 0 < o) (ha : a < 2 ^ 20) (hb : b < 2 ^ 20) (ho : o < 2 ^ 20) : Sem z_J8_newLength_cabcc 0 0 0 [.int (nI o), .int (nI a), .int (nI b)] [] (PST (.inl (some (.int (nI (o + max a b))))) []) := by
  have hS : o + max a b < 2 ^ 22 := by have := Nat.max_le.mpr ⟨Nat.le_of_lt ha, Nat.le_of_lt hb⟩; omega
  refine Sem.of zo_J8_newLength_cabcc (by decide +kernel) (Nat.le_of_ble_eq_true rfl) fun κ X hE hR hN => ?_
  refine AW.eq (pc' := 0) (ls' := [some (.int (nI o)), some (.int (nI a)), some (.int (nI b)), none]) (st' := []) (AH' := []) ?_ rfl rfl rfl rfl
  refine go_s 3 X (pc2 := 3) (st2 := [.int (nI b), .int (nI a), .int (nI o)]) rfl ?_
  refine r_mmax X (d := 0) rfl (by decide +kernel) (by rw [hR]; exact ⟨by simp [rmM], by simp [rmM, csum, Value.category], by decide, by decide⟩) mm_smax mm_i mm_cmax ?_
  rw [mx_nI (by omega) (by omega)]
  refine go_l 2 X (pc2 := 8) (ls2 := [some (.int (nI o)), some (.int (nI a)), some (.int (nI b)), some (.int (nI o + nI (max a b)))]) (st2 := []) rfl ?_
  rw [nI_add]
  refine go_s 2 X (pc2 := 10) (st2 := [.int (nI (o + max a b)), .int 0]) rfl ?_
  refine r_icmp_ge X 21 rfl rfl (fun c => absurd c (nI_nle (by omega) (by omega))) (fun _ => ?_)
  refine go_s 1 X (pc2 := 14) (st2 := [.int (nI (o + max a b))]) rfl ?_
  refine r_ldcI X 2147483639 rfl (by decide +kernel) ?_
  refine r_icmp_gt X 21 rfl rfl (fun c => absurd c (show ¬ nI 2147483639 < nI (o + max a b) from nI_nlt (by omega) (by decide))) (fun _ => ?_)
  refine go_s 1 X (pc2 := 20) (st2 := [.int (nI (o + max a b))]) rfl ?_
  exact r_iret X rfl rfl ⟨rfl, rfl⟩ (by decide) (by decide)
set_option maxRecDepth 20000 in
theorem c_newCap {m q : Nat} {f : Nat → Int32} {ml n : Int32} (h0 : 0 < m) (hm : m ≤ 400) (hq : m < q) (hq2 : q ≤ 2 * m + 2) : Sem z_J5_newCapacity_0f7a4 1 0 0 [.ref 0, .int (nI q)] (WB m f ml n) (PST (.inl (some (.int (nI (2 * m + 2))))) (WB m f ml n)) := by
  refine Sem.of zo_J5_newCapacity_0f7a4 (by decide +kernel) (Nat.le_of_ble_eq_true rfl) fun κ X hE hR hN => ?_
  refine AW.eq (pc' := 0) (ls' := [some (.ref 0), some (.int (nI q)), none, none, none, none]) (st' := []) (AH' := WB m f ml n) ?_ rfl rfl rfl rfl
  refine go_l 4 X (pc2 := 6) (ls2 := [some (.ref 0), some (.int (nI q)), some (.int (nI m)), none, none, none]) (st2 := []) rfl ?_
  refine go_s 3 X (pc2 := 11) (st2 := [.int 0, .int (nI q)]) rfl ?_
  refine r_ishl X rfl ?_
  rw [shl0]
  refine go_l 5 X (pc2 := 18) (ls2 := [some (.ref 0), some (.int (nI q)), some (.int (nI m)), some (.int (nI q)), some (.int (nI q - nI m)), none]) (st2 := []) rfl ?_
  refine go_s 6 X (pc2 := 27) (st2 := [.int 0, .int 2, .int (nI m), .int (nI q - nI m), .int (nI m)]) rfl ?_
  refine r_ishl X rfl ?_
  rw [shl0]
  refine go_s 1 X (pc2 := 29) (st2 := [.int (nI m + nI 2), .int (nI q - nI m), .int (nI m)]) rfl ?_
  rw [nI_add, pk_sub (show m ≤ q by omega)]
  refine q_callS X [] [] (As := [.int (nI m), .int (nI (q - m)), .int (nI (m + 2))]) (rest := []) (AH2 := WB m f ml n) (st2 := [.int (nI (m + max (q - m) (m + 2)))]) (c_newLength h0 (by omega) (by omega) (by omega)) ⟨rfl, rfl⟩ rfl k_J8_newLength_cabcc (Or.inl m_AB_114) rfl rfl (fit_of hR (by decide) (by decide) (by decide) (by decide)) (Nat.le_of_ble_eq_true rfl) (by decide) rfl rfl rfl ?_
  rw [show m + max (q - m) (m + 2) = 2 * m + 2 by rw [Nat.max_eq_right (by omega)]; omega]
  refine go_l 2 X (pc2 := 36) (ls2 := [some (.ref 0), some (.int (nI q)), some (.int (nI m)), some (.int (nI q)), some (.int (nI (q - m))), some (.int (nI (2 * m + 2)))]) (st2 := [.int (nI (2 * m + 2))]) rfl ?_
  refine r_ldcI X 2147483647 rfl (by decide +kernel) ?_
  refine r_icmp_ne X 51 rfl rfl (fun _ => ?_) (fun c => ?_)
  · refine go_s 4 X (pc2 := 58) (st2 := [.int (nI (2 * m + 2) >>> ((0 : Int32) &&& 31))]) rfl ?_
    rw [shr0]
    exact r_iret X rfl rfl ⟨rfl, rfl⟩ (by decide) (by decide)
  · have := (nI_eq (by omega) (by decide)).mp (show nI (2 * m + 2) = nI 2147483647 from c)
    omega
set_option maxRecDepth 20000 in
theorem c_copyOf {m M : Nat} {f : Nat → Int32} (hm : m < M) (hM : M ≤ 1000) (hf : BYF f) : Sem z_J7_copyOf_9075b 0 1 1000 [.ref 0, .int (nI M)] [.inl (3, m, .inl f)] (PST (.inl (some (.ref 1))) [.inl (3, m, .inl f), .inl (3, M, .inl (va_cpy f z0 0 0 m))]) := by
  have e1 : (nI m).toNatClampNeg = m := nI_clamp (by omega)
  refine Sem.of zo_J7_copyOf_9075b (by decide +kernel) (Nat.le_of_ble_eq_true rfl) fun κ X hE hR hN => ?_
  refine AW.eq (pc' := 0) (ls' := [some (.ref 0), some (.int (nI M)), none]) (st' := []) (AH' := [.inl (3, m, .inl f)]) ?_ rfl rfl rfl rfl
  refine go_s 3 X (pc2 := 3) (st2 := [.int (nI m), .int (nI M)]) rfl ?_
  refine r_icmp_ne X 14 rfl rfl (fun _ => ?_) (fun c => absurd ((nI_eq (by omega) (by omega)).mp c) (by omega))
  refine go_s 1 X (pc2 := 15) (st2 := [.int (nI M)]) rfl ?_
  refine r_newa X 3 .byte (a0 := (M, .inl z0)) (N := M) rfl rfl hkd3 (by decide +kernel) (fun _ => rfl) (fun _ => rfl) (nI_pos (by omega)) (nI_clamp (by omega)) (by show M * 1 ≤ 536870912; omega) ⟨clo_all rfl, rfl, rfl⟩ (Nat.le_of_ble_eq_true rfl) (by rw [hR]; decide) (by rw [hR]; show 0 + M ≤ 1000; omega) ?_
  refine AW.eq (pc' := 17) (ls' := [some (.ref 0), some (.int (nI M)), none]) (st' := [.ref 1]) (AH' := [.inl (3, m, .inl f), .inl (3, M, .inl z0)]) ?_ rfl rfl rfl rfl
  refine go_l 8 X (pc2 := 25) (ls2 := [some (.ref 0), some (.int (nI M)), some (.ref 1)]) (st2 := [.int (nI M), .int (nI m), .int 0, .ref 1, .int 0, .ref 0]) rfl ?_
  refine r_mmin X (d := 0) rfl (by decide +kernel) (by rw [hR]; exact ⟨by simp [rmM], by simp [rmM, csum, Value.category], by simp [rmM], by simp [rmM]; omega⟩) mm_smin mm_i mm_cmin ?_
  rw [if_neg (nI_nlt (by omega) (by omega))]
  refine r_copyb X (index := 150) (n := nI m) rfl (by decide +kernel) (by decide +kernel) (by decide +kernel) (by decide +kernel) rfl rfl (by decide) (by decide) (nI_pos (by omega)) (by rw [e1]; show 0 + m ≤ m; omega) (by rw [e1]; show 0 + m ≤ M; omega) hf (by rw [hR]; exact ⟨by simp [rmM], by decide +kernel⟩) ?_
  rw [e1]
  refine AW.eq (pc' := 31) (ls' := [some (.ref 0), some (.int (nI M)), some (.ref 1)]) (st' := []) (AH' := [.inl (3, m, .inl f), .inl (3, M, .inl (va_cpy f z0 0 0 m))]) ?_ rfl rfl rfl rfl
  refine go_s 1 X (pc2 := 32) (st2 := [.ref 1]) rfl ?_
  exact r_aret X rfl rfl (Or.inr ⟨_, rfl⟩) ⟨rfl, rfl⟩ (by decide) (by omega)
/-- the room for q letters -/
def PEN (m q : Nat) (f : Nat → Int32) (ml n : Int32) : PO := fun r A => r = .inl none ∧ ((q ≤ m ∧ A = WB m f ml n) ∨ (m < q ∧ A = WG m f (2 * m + 2) (va_cpy f z0 0 0 m) ml n))
theorem grw_PEN {m q : Nat} {f : Nat → Int32} {ml n : Int32} : GRW 2 (PEN m q f ml n) := by
  refine ⟨fun v W2 hp => ?_, fun E W2 hp => ?_⟩
  · obtain ⟨e1, ⟨-, rfl⟩ | ⟨-, rfl⟩⟩ := hp
    · cases e1
      exact ⟨(by decide : 2 ≤ 2), (by decide : 2 ≤ 2 + 9), clo_all rfl, fun _ h => by cases h⟩
    · cases e1
      exact ⟨(by decide : 2 ≤ 3), (by decide : 3 ≤ 2 + 9), clo_all rfl, fun _ h => by cases h⟩
  · have e1 := hp.1
    cases e1
set_option maxRecDepth 20000 in
theorem c_ensure {m q : Nat} {f : Nat → Int32} {ml n : Int32} (h0 : 0 < m) (hm : m ≤ 400) (hq2 : q ≤ 2 * m + 2) (hf : BYF f) : Sem z_J5_ensureCapacityInternal_d00df 2 1 1000 [.ref 0, .int (nI q)] (WB m f ml n) (PEN m q f ml n) := by
  refine Sem.of zo_J5_ensureCapacityInternal_d00df (by decide +kernel) (Nat.le_of_ble_eq_true rfl) fun κ X hE hR hN => ?_
  refine AW.eq (pc' := 0) (ls' := [some (.ref 0), some (.int (nI q)), none]) (st' := []) (AH' := WB m f ml n) ?_ rfl rfl rfl rfl
  refine go_s 6 X (pc2 := 10) (st2 := [.int (nI m >>> ((0 : Int32) &&& 31))]) rfl ?_
  rw [shr0]
  refine go_l 4 X (pc2 := 14) (ls2 := [some (.ref 0), some (.int (nI q)), some (.int (nI m))]) (st2 := [.int (nI q - nI m)]) rfl ?_
  refine r_if_le X 38 rfl rfl (fun c => ?_) (fun c => ?_)
  · rw [Int32.le_iff_toInt_le, pk_sub_toInt (by omega) (by omega), Int32.toInt_zero] at c
    exact r_vret X rfl rfl ⟨rfl, Or.inl ⟨by omega, rfl⟩⟩ (by decide) (by decide)
  · have hmq : m < q := by
      rw [Int32.le_iff_toInt_le, pk_sub_toInt (by omega) (by omega), Int32.toInt_zero] at c
      omega
    refine go_s 5 X (pc2 := 24) (st2 := [.int (nI q), .ref 0, .ref 1, .ref 0]) rfl ?_
    refine r_gU X [0, 1] [] (o := 0) (As := [.int (nI q)]) (rest := [.ref 1, .ref 0]) (c_newCap h0 hm hmq hq2) ⟨rfl, rfl⟩ rfl u_AB_104 rfl rfl rfl (fit_of hR (by decide) (by decide) (by decide) (by decide)) (Nat.le_of_ble_eq_true rfl) (fun _ h => by cases h) (Nat.le_of_ble_eq_true rfl) (Nat.le_of_ble_eq_true rfl) ⟨clo_all rfl, rfl, rfl⟩ (clo_all rfl) (grw_of (Nat.le_of_ble_eq_true rfl) (Nat.le_of_ble_eq_true rfl) rfl (fun _ h => by cases h; rfl)) (fun v W2 hp => ?_)
    obtain ⟨e1, rfl⟩ := hp
    cases e1
    refine AW.eq (pc' := 27) (ls' := [some (.ref 0), some (.int (nI q)), some (.int (nI m))]) (st' := [.int (nI (2 * m + 2)), .ref 1, .ref 0]) (AH' := WB m f ml n) ?_ rfl rfl rfl rfl
    refine go_s 2 X (pc2 := 31) (st2 := [.int 0, .int (nI (2 * m + 2)), .ref 1, .ref 0]) rfl ?_
    refine r_ishl X rfl ?_
    rw [shl0]
    refine r_gS X [1] [] (As := [.ref 0, .int (nI (2 * m + 2))]) (rest := [.ref 0]) (c_copyOf (m := m) (M := 2 * m + 2) (f := f) (by omega) (by omega) hf) ⟨rfl, rfl⟩ rfl k_J7_copyOf_9075b m_AB_108 rfl rfl (fit_of hR (by decide) (by decide) (by decide) (by decide)) (Nat.le_of_ble_eq_true rfl) (fun _ h => by cases h) (Nat.le_of_ble_eq_true rfl) (Nat.le_of_ble_eq_true rfl) ⟨clo_all rfl, rfl, rfl⟩ (clo_all rfl) (grw_of (Nat.le_of_ble_eq_true rfl) (Nat.le_of_ble_eq_true rfl) rfl (fun _ h => by cases h; rfl)) (fun v W2 hp => ?_)
    obtain ⟨e1, rfl⟩ := hp
    cases e1
    refine AW.eq (pc' := 35) (ls' := [some (.ref 0), some (.int (nI q)), some (.int (nI m))]) (st' := [.ref 2, .ref 0]) (AH' := [.inr (10, [.ref 1, .int 0, .int ml, .int n]), .inl (3, m, .inl f), .inl (3, 2 * m + 2, .inl (va_cpy f z0 0 0 m))]) ?_ rfl rfl rfl rfl
    refine go 1 X (pc2 := 38) (ls2 := [some (.ref 0), some (.int (nI q)), some (.int (nI m))]) (st2 := []) (AH2 := WG m f (2 * m + 2) (va_cpy f z0 0 0 m) ml n) rfl ?_
    exact r_vret X rfl rfl ⟨rfl, Or.inr ⟨hmq, rfl⟩⟩ (by decide) (by decide)
/-- the bytes of a text constant -/
def bc (i j : Nat) : Int32 := (bytT.getD i []).getD j 0
def CT (i : Nat) : List Nat := (bytT.getD i []).map Int32.toNatClampNeg
theorem iofK {i : Nat} (hi : i < nStr) {ι δ : List Nat} {n : Nat} (hl : ι.length ≤ SB) : iof ι δ n (SB + i) = SB + i := iof_sb (Nat.le_add_right _ _) (by have : nStr = 18 := rfl; unfold SD; omega) hl
set_option maxRecDepth 20000 in
theorem c_infl {i m : Nat} (hi : i < nStr) {f : Nat → Int32} {ml n : Int32} : Sem z_J5_inflateIfNeededFor_a7421 1 0 0 [.ref 0, .ref (SB + i)] (WB m f ml n) (PST (.inl none) (WB m f ml n)) := by
  refine Sem.of zo_J5_inflateIfNeededFor_a7421 (by decide +kernel) (Nat.le_of_ble_eq_true rfl) fun κ X hE hR hN => ?_
  refine AW.eq (pc' := 0) (ls' := [some (.ref 0), some (.ref (SB + i))]) (st' := []) (AH' := WB m f ml n) ?_ rfl rfl rfl rfl
  refine r_strK X rfl (by decide +kernel) ?_
  refine r_if_eq X 21 rfl rfl (fun c => absurd c (by decide)) (fun _ => ?_)
  refine go_s 3 X (pc2 := 11) (st2 := [.ref (SB + i), .int 0]) rfl ?_
  refine r_callO X (As := []) (r := [.int 0]) hi (c_coder i hi) rfl k_J0_coder_7d493 rfl m_AB_40 rfl rfl (fit_of hR (by decide) (by decide) (by decide) (by decide)) (Nat.le_of_ble_eq_true rfl) (fun _ _ e => by rw [e.2]; rfl) (fun v A9 e => ?_) (fun _ _ e => by have e1 := e.1; cases e1)
  obtain ⟨e1, rfl⟩ := e
  cases e1
  refine AW.eq (pc' := 14) (ls' := [some (.ref 0), some (.ref (SB + i))]) (st' := [.int 0, .int 0]) (AH' := WB m f ml n) ?_ rfl rfl rfl rfl
  refine r_icmp_eq X 21 rfl rfl (fun _ => ?_) (fun c => absurd rfl c)
  exact r_vret X rfl rfl ⟨rfl, rfl⟩ (by decide) (by decide)
