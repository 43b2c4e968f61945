/-! ===== 79h: the text is built (gen79h.py) ===== -/
theorem CT16 : CT 16 = [113, 117, 101, 117, 101, 32] := by decide +kernel
theorem CT17 : CT 17 = [111, 119, 110, 101, 114, 32] := by decide +kernel
theorem dg_len (s : Nat) : (dg s).length ≤ 2 := by
  unfold dg
  split <;> simp
theorem qS_len (k s : Nat) : (qS k s).length ≤ 11 := by
  have := dg_len s
  simp only [qS, List.length_append, List.length_cons, List.length_nil]
  omega
theorem oS_len (k : Nat) : (oS k).length = 8 := rfl
theorem tQ_len {f : Nat → Nat} : ∀ n, (tQ f n).length ≤ 11 * n
  | 0 => Nat.le_refl _
  | n + 1 => by
    have h1 := tQ_len (f := f) n
    have h2 := qS_len n (f n)
    rw [tQ, List.length_append]
    omega
theorem tO_len : ∀ n, (tO n).length = 8 * n
  | 0 => rfl
  | n + 1 => by
    rw [tO, List.length_append, tO_len n, oS_len]
    omega
theorem tQ_congr {f g : Nat → Nat} : ∀ {n}, (∀ k, k < n → f k = g k) → tQ f n = tQ g n
  | 0, _ => rfl
  | n + 1, h => by
    rw [tQ, tQ, tQ_congr (fun k hk => h k (by omega)), h n (by omega)]
theorem qS_app {T : List Nat} {q s : Nat} : T ++ CT 16 ++ [97 + q] ++ [32] ++ DG s ++ [59] = T ++ qS q s := by
  rw [CT16]
  show _ = T ++ ([113, 117, 101, 117, 101] ++ (32 :: ([97 + q] ++ (32 :: (dg s ++ [59])))))
  rw [show DG s = dg s from rfl]
  simp
theorem oS_app {T : List Nat} {q : Nat} : T ++ CT 17 ++ [97 + q] ++ [59] = T ++ oS q := by
  rw [CT17]
  show _ = T ++ ([111, 119, 110, 101, 114] ++ (32 :: ([97 + q] ++ [59])))
  simp
/-- the law's object while the text is built -/
def QI (n m : Nat) (V : QV) (f : Nat → Nat) (q : Nat) : Prop := QVNq V = nI n ∧ QVNo V = nI m ∧ QVJb V = 0 ∧ (∀ k, k < q → (1 ≤ f k ∧ f k ≤ 16) ∧ QVSp V k = nI (f k)) ∧ ∀ k, QVPd V k = 0 ∧ QVPs V k = 0
theorem QI.next {n m : Nat} {V : QV} {f : Nat → Nat} {q s : Nat} (h : QI n m V f q) (hs : s < 16) : QI n m (QV_sSp V (upd (QVSp V) q (nI (1 + s)))) (uf f q (1 + s)) (q + 1) := by
  refine ⟨h.1, h.2.1, h.2.2.1, fun k hk => ?_, h.2.2.2.2⟩
  show (1 ≤ uf f q (1 + s) k ∧ uf f q (1 + s) k ≤ 16) ∧ upd (QVSp V) q (nI (1 + s)) k = nI (uf f q (1 + s) k)
  by_cases e : k = q
  · rw [e, uf_eq, upd_eq]
    exact ⟨by omega, rfl⟩
  · rw [uf_ne e, upd_ne e]
    exact h.2.2.2.1 k (by omega)
theorem tQ_next {f : Nat → Nat} {q s : Nat} : tQ f q ++ qS q s = tQ (uf f q s) (q + 1) := by
  rw [tQ, uf_eq, tQ_congr (f := f) (g := uf f q s) (fun k hk => (uf_ne (by omega)).symm)]
theorem ir (n vb N : Nat) (h : n < 18) : [Value.ref (SB + n)].map (cvV (iof [199, vb] [] N)) = [Value.ref (SB + n)] := by
  show [Value.ref (iof [199, vb] [] N (SB + n))] = _
  rw [iof_sb (Nat.le_add_right _ _) (by unfold SD; omega) (Nat.le_of_ble_eq_true rfl)]
section LAWT
variable {κ : KX} {Q : State → Prop} {nm : String} {x : Int32} {n m : Nat} {R4 : RV} {Y1 : YV} {S1 C1 : SV} {D1 : UV}
set_option maxRecDepth 20000 in
set_option maxHeartbeats 1000000 in
theorem law_qs (X : CX κ (z_W nm)) (hR : κR κ = room_1) (hn : n ≤ 4) {q : Nat} (hq : q < n) {f : Nat → Nat} {V : QV} {AH : List AC} (hV : QI n m V f q) (hB : BLD (LAt 0 R4 tv0 ov0 Y1 S1 C1 sv0 D1 uv0 V) (tQ f q) (201 + 5 * q) AH)
    (K : ∀ f V AH, QI n m V f (q + 1) → BLD (LAt 0 R4 tv0 ov0 Y1 S1 C1 sv0 D1 uv0 V) (tQ f (q + 1)) (201 + 5 * (q + 1)) AH → AW κ Q 58 (W6 x (nI (q + 1))) [] AH (1000 + 5 * (q + 1)) (20000 + 5000 * (q + 1))) : AW κ Q 67 (W6 x (nI q)) [] AH (1000 + 5 * q) (20000 + 5000 * q) := by
  have q4 : q < 4 := by omega
  obtain ⟨rest, rfl, hS⟩ := hB.split FOKt
  refine go_s 1 X (pc2 := 68) (st2 := [.ref 190]) rfl ?_
  refine r_getA X rfl rfl ta_190 (v := .ref 196) rfl ?_
  refine go_s 9 X (pc2 := 82) (st2 := [.int 4, .int (4 + 4 * nI q), .int x, .int 1, .int (nI q), .ref 196]) rfl ?_
  refine lw_bits X hR (k := 4) (by decide +kernel) rfl (Nat.le_of_ble_eq_true rfl) (by omega) (by omega) (fun s hs => ?_)
  refine go_s 1 X (pc2 := 86) (st2 := [.int (1 + nI s), .int (nI q), .ref 196]) rfl ?_
  rw [one_nI]
  refine r_iast X rfl ta_196 (show vp_in (nI q) 4 from nI_in q4 (by decide)) ?_
  rw [nI_clamp (n := q) (by omega), ts_Sp]
  have hB := hS (LAt 0 R4 tv0 ov0 Y1 S1 C1 sv0 D1 uv0 (QV_sSp V (upd (QVSp V) q (nI (1 + s))))) FOKt
  generalize (LAt 0 R4 tv0 ov0 Y1 S1 C1 sv0 D1 uv0 (QV_sSp V (upd (QVSp V) q (nI (1 + s))))) ++ rest = AH at hB ⊢
  refine go_s 1 X (pc2 := 89) (st2 := [.ref 199]) rfl ?_
  refine r_ldcS X 16 rfl rfl ?_
  refine ap_k X hR (As := [.ref (SB + 16)]) (rest := []) (T' := tQ f q ++ CT 16) (fun m f ml h1 h2 h3 => c_appS (i := 16) (by decide) (by omega) (by omega) h3 (by rw [show lenT.getD 16 0 = 6 from rfl]; omega)) rfl k_J4_append_15ec4 rfl (by decide) m_LW_209 rfl (fun vb N => ir 16 vb N (by decide)) FOKt hB (by have := tQ_len (f := f) q; have := (@DG_len (1 + s)).2; rw [CT16]; simp only [List.length_append, List.length_cons, List.length_nil]; omega) (fun N h => w6_cl h) (fun N h => rfl) (by decide) (by omega) (by omega) (by omega) (fun AH hB => ?_)
  refine go_s 3 X (pc2 := 99) (st2 := [.int (97 + nI q), .ref 199]) rfl ?_
  rw [show (97 : Int32) + nI q = nI (97 + q) from nI_add 97 q]
  refine r_i2c X rfl (ch128 (97 + q) (by omega)).2.1 ?_
  refine ap_k X hR (As := [.int (nI (97 + q))]) (rest := []) (T' := tQ f q ++ CT 16 ++ [97 + q]) (fun m f ml h1 h2 h3 => c_appC (c := 97 + q) (by omega) (by omega) (by omega) h3) rfl k_J4_append_cf468 rfl (by decide) m_LW_213 rfl (fun _ _ => rfl) FOKt hB (by have := tQ_len (f := f) q; have := (@DG_len (1 + s)).2; rw [CT16]; simp only [List.length_append, List.length_cons, List.length_nil]; omega) (fun N h => w6_cl h) (fun N h => rfl) (by decide) (by omega) (by omega) (by omega) (fun AH hB => ?_)
  refine go_s 1 X (pc2 := 105) (st2 := [.int (nI 32), .ref 199]) rfl ?_
  refine ap_k X hR (As := [.int (nI 32)]) (rest := []) (T' := tQ f q ++ CT 16 ++ [97 + q] ++ [32]) (fun m f ml h1 h2 h3 => c_appC (c := 32) (by omega) (by omega) (by omega) h3) rfl k_J4_append_cf468 rfl (by decide) m_LW_213 rfl (fun _ _ => rfl) FOKt hB (by have := tQ_len (f := f) q; have := (@DG_len (1 + s)).2; rw [CT16]; simp only [List.length_append, List.length_cons, List.length_nil]; omega) (fun N h => w6_cl h) (fun N h => rfl) (by decide) (by omega) (by omega) (by omega) (fun AH hB => ?_)
  obtain ⟨rest, rfl, hS⟩ := hB.split FOKt
  refine go_s 1 X (pc2 := 109) (st2 := [.ref 190, .ref 199]) rfl ?_
  refine r_getA X rfl rfl ta_190 (v := .ref 196) rfl ?_
  refine go_s 1 X (pc2 := 114) (st2 := [.int (nI q), .ref 196, .ref 199]) rfl ?_
  refine r_iald X (o := 196) rfl ta_196 (show vp_in (nI q) 4 from nI_in q4 (by decide)) ?_
  rw [nI_clamp (n := q) (by omega), show QVSp (QV_sSp V (upd (QVSp V) q (nI (1 + s)))) q = nI (1 + s) from upd_eq]
  have hB := hS (LAt 0 R4 tv0 ov0 Y1 S1 C1 sv0 D1 uv0 (QV_sSp V (upd (QVSp V) q (nI (1 + s))))) FOKt
  generalize (LAt 0 R4 tv0 ov0 Y1 S1 C1 sv0 D1 uv0 (QV_sSp V (upd (QVSp V) q (nI (1 + s))))) ++ rest = AH at hB ⊢
  refine ap_k X hR (As := [.int (nI (1 + s))]) (rest := []) (T' := tQ f q ++ CT 16 ++ [97 + q] ++ [32] ++ DG (1 + s)) (fun m f ml h1 h2 h3 => c_appI (x := 1 + s) (by omega) (by omega) (by omega) h3) rfl k_J4_append_bf812 rfl (by decide) m_LW_216 rfl (fun _ _ => rfl) FOKt hB (by have := tQ_len (f := f) q; have := (@DG_len (1 + s)).2; rw [CT16]; simp only [List.length_append, List.length_cons, List.length_nil]; omega) (fun N h => w6_cl h) (fun N h => rfl) (by decide) (by omega) (by omega) (by omega) (fun AH hB => ?_)
  refine go_s 1 X (pc2 := 120) (st2 := [.int (nI 59), .ref 199]) rfl ?_
  refine ap_k X hR (As := [.int (nI 59)]) (rest := []) (T' := tQ f q ++ CT 16 ++ [97 + q] ++ [32] ++ DG (1 + s) ++ [59]) (fun m f ml h1 h2 h3 => c_appC (c := 59) (by omega) (by omega) (by omega) h3) rfl k_J4_append_cf468 rfl (by decide) m_LW_213 rfl (fun _ _ => rfl) FOKt hB (by have := tQ_len (f := f) q; have := (@DG_len (1 + s)).2; rw [CT16]; simp only [List.length_append, List.length_cons, List.length_nil]; omega) (fun N h => w6_cl h) (fun N h => rfl) (by decide) (by omega) (by omega) (by omega) (fun AH hB => ?_)
  rw [qS_app, tQ_next] at hB
  refine go_l 3 X (pc2 := 58) (ls2 := W6 x (nI q + 1)) (st2 := []) rfl ?_
  rw [nI_1]
  exact AW.widen (by omega) (by omega) (K _ _ _ (hV.next hs) (hB.mono (by omega)))
theorem law_q (X : CX κ (z_W nm)) (hR : κR κ = room_1) (hn : n ≤ 4)
    (K : ∀ f V AH, QI n m V f n → BLD (LAt 0 R4 tv0 ov0 Y1 S1 C1 sv0 D1 uv0 V) (tQ f n) (201 + 5 * n) AH → AW κ Q 130 (W6 x (nI n)) [] AH (1000 + 5 * n) (20000 + 5000 * n)) : ∀ d q, n - q = d → q ≤ n → ∀ f V AH, QI n m V f q → BLD (LAt 0 R4 tv0 ov0 Y1 S1 C1 sv0 D1 uv0 V) (tQ f q) (201 + 5 * q) AH → AW κ Q 58 (W6 x (nI q)) [] AH (1000 + 5 * q) (20000 + 5000 * q) := by
  intro d
  induction d with
  | zero =>
    intro q hd hq f V AH hV hB
    have e : q = n := by omega
    subst e
    obtain ⟨rest, rfl, hS⟩ := hB.split FOKt
    refine go_s 2 X (pc2 := 61) (st2 := [.ref 190, .int (nI q)]) rfl ?_
    refine r_getA X rfl rfl ta_190 (v := .int (QVNq V)) rfl ?_
    rw [hV.1]
    exact r_icmp_ge X 130 rfl rfl (fun _ => K f V _ hV (hS _ FOKt)) (fun h => absurd (nI_le (Nat.le_refl _) (by omega)) h)
  | succ d ih =>
    intro q hd hq f V AH hV hB
    have hq' : q < n := by omega
    have K2 := law_qs X hR hn hq' hV hB (fun f V AH h1 h2 => ih (q + 1) (by omega) (by omega) f V AH h1 h2)
    obtain ⟨rest, rfl, -⟩ := hB.split FOKt
    refine go_s 2 X (pc2 := 61) (st2 := [.ref 190, .int (nI q)]) rfl ?_
    refine r_getA X rfl rfl ta_190 (v := .int (QVNq V)) rfl ?_
    rw [hV.1]
    exact r_icmp_ge X 130 rfl rfl (fun h => absurd h (nI_ge hq' (by omega))) (fun _ => K2)
set_option maxRecDepth 20000 in
set_option maxHeartbeats 1000000 in
theorem law_os (X : CX κ (z_W nm)) (hR : κR κ = room_1) (hn : n ≤ 4) (hm : m ≤ 4) {q : Nat} (hq : q < m) {f : Nat → Nat} {V : QV} {AH : List AC} (hB : BLD (LAt 0 R4 tv0 ov0 Y1 S1 C1 sv0 D1 uv0 V) (tQ f n ++ tO q) (221 + 3 * q) AH)
    (K : ∀ AH, BLD (LAt 0 R4 tv0 ov0 Y1 S1 C1 sv0 D1 uv0 V) (tQ f n ++ tO (q + 1)) (221 + 3 * (q + 1)) AH → AW κ Q 133 (W6 x (nI (q + 1))) [] AH (1020 + 3 * (q + 1)) (40000 + 3000 * (q + 1))) : AW κ Q 142 (W6 x (nI q)) [] AH (1020 + 3 * q) (40000 + 3000 * q) := by
  have q4 : q < 4 := by omega
  refine go_s 1 X (pc2 := 144) (st2 := [.ref 199]) rfl ?_
  refine r_ldcS X 17 rfl rfl ?_
  refine ap_k X hR (As := [.ref (SB + 17)]) (rest := []) (T' := tQ f n ++ tO q ++ CT 17) (fun m f ml h1 h2 h3 => c_appS (i := 17) (by decide) (by omega) (by omega) h3 (by rw [show lenT.getD 17 0 = 6 from rfl]; omega)) rfl k_J4_append_15ec4 rfl (by decide) m_LW_209 rfl (fun vb N => ir 17 vb N (by decide)) FOKt hB (by have := tQ_len (f := f) n; have := tO_len q; rw [CT17]; simp only [List.length_append, List.length_cons, List.length_nil]; omega) (fun N h => w6_cl h) (fun N h => rfl) (by decide) (by omega) (by omega) (by omega) (fun AH hB => ?_)
  refine go_s 3 X (pc2 := 154) (st2 := [.int (97 + nI q), .ref 199]) rfl ?_
  rw [show (97 : Int32) + nI q = nI (97 + q) from nI_add 97 q]
  refine r_i2c X rfl (ch128 (97 + q) (by omega)).2.1 ?_
  refine ap_k X hR (As := [.int (nI (97 + q))]) (rest := []) (T' := tQ f n ++ tO q ++ CT 17 ++ [97 + q]) (fun m f ml h1 h2 h3 => c_appC (c := 97 + q) (by omega) (by omega) (by omega) h3) rfl k_J4_append_cf468 rfl (by decide) m_LW_213 rfl (fun _ _ => rfl) FOKt hB (by have := tQ_len (f := f) n; have := tO_len q; rw [CT17]; simp only [List.length_append, List.length_cons, List.length_nil]; omega) (fun N h => w6_cl h) (fun N h => rfl) (by decide) (by omega) (by omega) (by omega) (fun AH hB => ?_)
  refine go_s 1 X (pc2 := 160) (st2 := [.int (nI 59), .ref 199]) rfl ?_
  refine ap_k X hR (As := [.int (nI 59)]) (rest := []) (T' := tQ f n ++ tO q ++ CT 17 ++ [97 + q] ++ [59]) (fun m f ml h1 h2 h3 => c_appC (c := 59) (by omega) (by omega) (by omega) h3) rfl k_J4_append_cf468 rfl (by decide) m_LW_213 rfl (fun _ _ => rfl) FOKt hB (by have := tQ_len (f := f) n; have := tO_len q; rw [CT17]; simp only [List.length_append, List.length_cons, List.length_nil]; omega) (fun N h => w6_cl h) (fun N h => rfl) (by decide) (by omega) (by omega) (by omega) (fun AH hB => ?_)
  rw [oS_app, List.append_assoc, show tO q ++ oS q = tO (q + 1) from rfl] at hB
  refine go_l 3 X (pc2 := 133) (ls2 := W6 x (nI q + 1)) (st2 := []) rfl ?_
  rw [nI_1]
  exact AW.widen (by omega) (by omega) (K _ (hB.mono (by omega)))
theorem law_o (X : CX κ (z_W nm)) (hR : κR κ = room_1) (hn : n ≤ 4) (hm : m ≤ 4) {f : Nat → Nat} {V : QV} (hV : QVNo V = nI m)
    (K : ∀ AH, BLD (LAt 0 R4 tv0 ov0 Y1 S1 C1 sv0 D1 uv0 V) (tQ f n ++ tO m) (221 + 3 * m) AH → AW κ Q 170 (W6 x (nI m)) [] AH (1020 + 3 * m) (40000 + 3000 * m)) : ∀ d q, m - q = d → q ≤ m → ∀ AH, BLD (LAt 0 R4 tv0 ov0 Y1 S1 C1 sv0 D1 uv0 V) (tQ f n ++ tO q) (221 + 3 * q) AH → AW κ Q 133 (W6 x (nI q)) [] AH (1020 + 3 * q) (40000 + 3000 * q) := by
  intro d
  induction d with
  | zero =>
    intro q hd hq AH hB
    have e : q = m := by omega
    subst e
    obtain ⟨rest, rfl, hS⟩ := hB.split FOKt
    refine go_s 2 X (pc2 := 136) (st2 := [.ref 190, .int (nI q)]) rfl ?_
    refine r_getA X rfl rfl ta_190 (v := .int (QVNo V)) rfl ?_
    rw [hV]
    exact r_icmp_ge X 170 rfl rfl (fun _ => K _ (hS _ FOKt)) (fun h => absurd (nI_le (Nat.le_refl _) (by omega)) h)
  | succ d ih =>
    intro q hd hq AH hB
    have hq' : q < m := by omega
    have K2 := law_os X hR hn hm hq' hB (fun AH h2 => ih (q + 1) (by omega) (by omega) AH h2)
    obtain ⟨rest, rfl, -⟩ := hB.split FOKt
    refine go_s 2 X (pc2 := 136) (st2 := [.ref 190, .int (nI q)]) rfl ?_
    refine r_getA X rfl rfl ta_190 (v := .int (QVNo V)) rfl ?_
    rw [hV]
    exact r_icmp_ge X 170 rfl rfl (fun h => absurd h (nI_ge hq' (by omega))) (fun _ => K2)
end LAWT
