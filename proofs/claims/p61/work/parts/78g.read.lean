/-! ===== 78g: a setup is read: the class alone ===== -/
def CR (T : List Nat) (p : Nat) (R : RV) : Prop := TXok T ∧ p ≤ T.length ∧ RVEn R = nI T.length ∧ TXc T (RVTx R) ∧ RVEk R = 0 ∧ RVEa R = -1 ∧ RVNx R = nI p
def CM (T : List Nat) (p : Nat) (R : RV) : Prop := TXok T ∧ p ≤ T.length ∧ RVEn R = nI T.length ∧ TXc T (RVTx R) ∧ RVEk R = 0 ∧ RVEa R = -1 ∧ RVNx R = nI (tE T p) ∧ RVAt R = nI (tS T p) ∧ TKc T p (RVTk R) (RVWd R) (RVVa R)
theorem CR.tok {T : List Nat} {p : Nat} {R : RV} (h : CR T p R) : ∃ R', f_X4_readToken R = some ((), R') ∧ CM T p R' ∧ RVLn R' = RVLn R := by
  obtain ⟨h1, h2, h3, h4, h5, h6, h7⟩ := h
  obtain ⟨k, wd, va, e, t⟩ := readToken_ok h1 h3 h4 h5 h2 h7
  exact ⟨_, e, ⟨h1, h2, h3, h4, h5, h6, rfl, rfl, t⟩, rfl⟩
theorem CM.nx {T : List Nat} {p : Nat} {R : RV} (h : CM T p R) : CR T (tE T p) R := ⟨h.1, tE_le h.2.1, h.2.2.1, h.2.2.2.1, h.2.2.2.2.1, h.2.2.2.2.2.1, h.2.2.2.2.2.2.1⟩
theorem dr_at {T : List Nat} {p d : Nat} {r : List Nat} (h : T.drop p = d :: r) : T[p]? = some d := by
  have h2 : (T.drop p)[0]? = some d := by rw [h]; rfl
  rw [List.getElem?_drop] at h2
  exact h2
theorem dr_app {T : List Nat} {p : Nat} {l r : List Nat} (h : T.drop p = l ++ r) : T.drop (p + l.length) = r := by
  have h2 : (T.drop p).drop l.length = r := by rw [h, List.drop_left]
  rw [List.drop_drop] at h2
  first | exact h2 | (rw [Nat.add_comm] at h2; exact h2)
theorem dr_s {T : List Nat} {p d : Nat} {r : List Nat} (h : T.drop p = d :: r) : T.drop (p + 1) = r := dr_app (l := [d]) h
theorem ru_run {P : Nat → Bool} {T : List Nat} : ∀ {l : List Nat} {p d : Nat} {r : List Nat}, T.drop p = l ++ d :: r → (∀ c, c ∈ l → P c = true) → P d = false → ru P T p = p + l.length
  | [], _, _, _, h, _, hd => ru_no (dr_at h) hd
  | c :: l, p, d, r, h, hl, hd => by
    rw [ru_yes (dr_at h) (hl c (by simp)), ru_run (dr_s h) (fun x hx => hl x (by simp [hx])) hd, List.length_cons]
    omega
theorem isL_nb {c : Nat} (h : isL c = true) : isB c = false := by
  have := isL_b h
  unfold isB
  rw [Bool.or_eq_false_iff, beq_eq_false_iff_ne, beq_eq_false_iff_ne]
  omega
theorem isD_b {c : Nat} (h : isD c = true) : 48 ≤ c ∧ c ≤ 57 := by
  unfold isD at h
  rw [Bool.and_eq_true] at h
  exact ⟨Nat.le_of_ble_eq_true h.1, Nat.le_of_ble_eq_true h.2⟩
theorem isD_nb {c : Nat} (h : isD c = true) : isB c = false ∧ isL c = false := by
  have h1 := isD_b h
  refine ⟨?_, ?_⟩
  · unfold isB
    rw [Bool.or_eq_false_iff, beq_eq_false_iff_ne, beq_eq_false_iff_ne]
    omega
  · cases e : isL c
    · rfl
    · have := isL_b e
      omega
theorem tk_w {T : List Nat} {p d : Nat} {bl l r : List Nat} (h : T.drop p = bl ++ (l ++ d :: r)) (hb : ∀ c, c ∈ bl → isB c = true) (hl : ∀ c, c ∈ l → isL c = true) (hne : l ≠ []) (hd : isL d = false) : tS T p = p + bl.length ∧ tC T p = 1 ∧ tE T p = p + bl.length + l.length ∧ ltr T (tS T p) (tE T p - tS T p) = l := by
  obtain ⟨c0, l', rfl⟩ : ∃ c0 l', l = c0 :: l' := by
    cases l with
    | nil => exact absurd rfl hne
    | cons a b => exact ⟨a, b, rfl⟩
  have hc0 := hl c0 (by simp)
  have hS : tS T p = p + bl.length := ru_run (P := isB) (l := bl) (d := c0) (r := l' ++ d :: r) h hb (isL_nb hc0)
  have hdr : T.drop (p + bl.length) = (c0 :: l') ++ d :: r := dr_app h
  have hC : tC T p = 1 := by
    rw [tC_s (c := c0) (by rw [hS]; exact dr_at (r := l' ++ d :: r) hdr), if_pos hc0]
  have hE : tE T p = p + bl.length + (c0 :: l').length := by
    rw [tE_1 hC, hS, ru_run hdr hl hd]
  refine ⟨hS, hC, hE, ?_⟩
  unfold ltr
  rw [hE, hS, show p + bl.length + (c0 :: l').length - (p + bl.length) = (c0 :: l').length by omega, hdr, List.take_left]
theorem tE_2 {T : List Nat} {p : Nat} (h : tC T p = 2) : tE T p = ru isD T (tS T p) := by unfold tE; rw [h]; rfl
theorem tk_d {T : List Nat} {p d : Nat} {bl l r : List Nat} (h : T.drop p = bl ++ (l ++ d :: r)) (hb : ∀ c, c ∈ bl → isB c = true) (hl : ∀ c, c ∈ l → isD c = true) (hne : l ≠ []) (hd : isD d = false) : tS T p = p + bl.length ∧ tC T p = 2 ∧ tE T p = p + bl.length + l.length ∧ T.drop (tS T p) = l ++ d :: r := by
  obtain ⟨c0, l', rfl⟩ : ∃ c0 l', l = c0 :: l' := by
    cases l with
    | nil => exact absurd rfl hne
    | cons a b => exact ⟨a, b, rfl⟩
  have hc0 := hl c0 (by simp)
  have hS : tS T p = p + bl.length := ru_run (P := isB) (l := bl) (d := c0) (r := l' ++ d :: r) h hb (isD_nb hc0).1
  have hdr : T.drop (p + bl.length) = (c0 :: l') ++ d :: r := dr_app h
  have hC : tC T p = 2 := by
    rw [tC_s (c := c0) (by rw [hS]; exact dr_at (r := l' ++ d :: r) hdr), (isD_nb hc0).2, if_neg (by decide), if_pos hc0]
  have hE : tE T p = p + bl.length + (c0 :: l').length := by
    rw [tE_2 hC, hS, ru_run hdr hl hd]
  exact ⟨hS, hC, hE, by rw [hS]; exact hdr⟩
theorem tk_s {T : List Nat} {p : Nat} {r : List Nat} (h : T.drop p = 59 :: r) : tS T p = p ∧ tC T p = 3 ∧ tE T p = p + 1 := by
  have hS : tS T p = p := ru_no (dr_at h) (by decide)
  have hC : tC T p = 3 := by
    rw [tC_s (c := 59) (by rw [hS]; exact dr_at h)]
    rfl
  refine ⟨hS, hC, ?_⟩
  unfold tE
  rw [hC, if_neg (by decide), if_neg (by decide), if_pos rfl, hS]
theorem vld_k {R : RV} (h : RVEk R = 0) : f_X4_isValid R = some 1 := by
  unfold f_X4_isValid
  rw [if_pos h]
theorem acc_k {T : List Nat} {p : Nat} {R : RV} {a b : Int32} {n : Nat} (m : CM T p R) (hk : RVTk R = a) (hb : b = nI n) (hl : tE T p - tS T p ≤ n) (hn : n ≤ 600) : f_X4_accepts R a b = some (1, R) := by
  unfold f_X4_accepts
  rw [if_pos hk, m.2.2.2.2.2.2.1, m.2.2.2.2.2.2.2.1, nI_sub2 (tE_ge m.2.1), hb, if_pos (nI_le hl (by omega)), vld_k m.2.2.2.2.1, Option.bind_some, if_neg not01]
theorem new_k {T : List Nat} {p d n : Nat} {l r : List Nat} {R : RV} {N : NV} {f : Nat → List Nat} (h : CR T p R) (hd : T.drop p = [32] ++ (l ++ d :: r)) (hl : ∀ c, c ∈ l → isL c = true) (hne : l ≠ []) (h6 : l.length ≤ 6) (hdd : isL d = false) (hN : NMc f n N) (hn : n ≤ 8) (hf : ∀ i, i < n → LTR 8 (f i)) (hnew : ∀ i, i < n → f i ≠ l) :
    ∃ R', f_X4_newName (R, N) = some (pkW l, (R', N)) ∧ CR T (p + 1 + l.length) R' ∧ RVLn R' = RVLn R := by
  obtain ⟨R1, e1, m, e2⟩ := h.tok
  obtain ⟨hS, hC, hE, hL⟩ := tk_w hd (fun c hc => by rw [List.mem_singleton] at hc; rw [hc]; rfl) hl hne hdd
  have h1 : tE T p - tS T p = l.length := by rw [hE, hS]; omega
  obtain ⟨k1, k2⟩ := m.2.2.2.2.2.2.2.2.2.1 hC
  rw [h1, if_pos (show l.length ≤ 8 by omega)] at k1
  rw [h1, show min l.length 8 = l.length by omega, pw_eq h.2.1 hC _ (by omega) (by omega), ← h1, hL] at k2
  have hlt : LTR 8 l := ⟨by omega, fun c hc => isL_b (hl c hc)⟩
  obtain ⟨rr, f1, f2⟩ := find_ok hN hn hf hlt
  have hr : rr = -1 := by
    rcases f2 with ⟨f2, -⟩ | ⟨i, -, f3, f4, -⟩
    · exact f2
    · exact absurd f4 (hnew i f3)
  refine ⟨R1, ?_, ?_, e2⟩
  · unfold f_X4_newName
    rw [show f_X4_readToken (P_RV_NVA (R, N)) = _ from e1, bnd2_some, acc_k (b := 6) (n := 6) m k1 rfl (by omega) (by decide), bnd2_some, if_neg n10, k2, show f_X2_find (P_RV_NVB (R, N)) (pkW l) = _ from f1, Option.bind_some, if_pos hr]
    rfl
  · have := m.nx
    rw [hE] at this
    exact this
theorem semi_k {T : List Nat} {p : Nat} {r : List Nat} {R : RV} (h : CR T p R) (hd : T.drop p = 59 :: r) : ∃ R', f_X4_semicolon R = some ((), R') ∧ CR T (p + 1) R' ∧ RVLn R' = RVLn R := by
  obtain ⟨R1, e1, m, e2⟩ := h.tok
  obtain ⟨hS, hC, hE⟩ := tk_s hd
  have k1 := m.2.2.2.2.2.2.2.2.2.2.2.1 hC
  refine ⟨R1, ?_, ?_, e2⟩
  · unfold f_X4_semicolon
    rw [e1, bnd2_some, acc_k (b := 1) (n := 1) m k1 rfl (by rw [hE, hS]; omega) (by decide), bnd2_some]
  · have := m.nx
    rw [hE] at this
    exact this
/-- a number of one or two digits -/
def dg (s : Nat) : List Nat := if s < 10 then [48 + s] else [48 + s / 10, 48 + s % 10]
theorem dg_D {s : Nat} (h : s < 100) : (∀ c, c ∈ dg s → isD c = true) ∧ dg s ≠ [] ∧ (dg s).length ≤ 2 := by
  have hd : ∀ c, c < 10 → isD (48 + c) = true := by decide
  unfold dg
  by_cases c : s < 10
  · rw [if_pos c]
    refine ⟨fun x hx => ?_, by simp, by simp⟩
    rw [List.mem_singleton] at hx
    rw [hx]
    exact hd s c
  · rw [if_neg c]
    refine ⟨fun x hx => ?_, by simp, by simp⟩
    simp only [List.mem_cons, List.not_mem_nil, or_false] at hx
    rcases hx with rfl | rfl
    · exact hd _ (by omega)
    · exact hd _ (by omega)
theorem dv_dg {T : List Nat} {q d s : Nat} {r : List Nat} (h : T.drop q = dg s ++ d :: r) (hs : s < 100) : dv T q (dg s).length = nI s := by
  have gd : ∀ {k c : Nat}, T[k]? = some c → T.getD k 0 = c := fun e => by rw [List.getD, e]; rfl
  have s1 : ∀ a, a < 10 → (0 : Int32) * 10 + nI (48 + a) - 48 = nI a := by decide +kernel
  have s2 : ∀ a, a < 10 → ∀ b, b < 10 → nI a * 10 + nI (48 + b) - 48 = nI (a * 10 + b) := by decide +kernel
  unfold dg at h ⊢
  by_cases c : s < 10
  · rw [if_pos c] at h ⊢
    show dv T q 1 = _
    rw [dv, dv, Nat.add_zero, gd (dr_at h), s1 s c]
  · rw [if_neg c] at h ⊢
    show dv T q 2 = _
    rw [dv, dv, dv, Nat.add_zero, gd (dr_at h), gd (dr_at (dr_s h)), s1 _ (by omega), s2 _ (by omega) _ (by omega)]
    congr 1
    omega
theorem num_k {T : List Nat} {p d s a b : Nat} {r : List Nat} {R : RV} (h : CR T p R) (hd : T.drop p = [32] ++ (dg s ++ d :: r)) (hs : s < 100) (hdd : isD d = false) (h1 : a ≤ s) (h2 : s ≤ b) (hb : b < 1000) :
    ∃ R', f_X4_number R (nI a) (nI b) = some (nI s, R') ∧ CR T (p + 1 + (dg s).length) R' ∧ RVLn R' = RVLn R := by
  obtain ⟨R1, e1, m, e2⟩ := h.tok
  obtain ⟨g1, g2, g3⟩ := dg_D hs
  obtain ⟨hS, hC, hE, hL⟩ := tk_d hd (fun c hc => by rw [List.mem_singleton] at hc; rw [hc]; rfl) g1 g2 hdd
  have hlen : tE T p - tS T p = (dg s).length := by rw [hE, hS]; omega
  obtain ⟨k1, k2⟩ := m.2.2.2.2.2.2.2.2.2.2.1 hC
  rw [hlen, show min (dg s).length 3 = (dg s).length by omega, dv_dg hL hs] at k2
  refine ⟨R1, ?_, ?_, e2⟩
  · unfold f_X4_number
    rw [e1, bnd2_some, acc_k (b := 3) (n := 3) m k1 rfl (by omega) (by decide), bnd2_some, if_neg n10, k2, if_neg (nI_nlt h1 (by omega)), if_pos (nI_le h2 (by omega))]
  · have := m.nx
    rw [hE] at this
    exact this
theorem start_k {T : List Nat} {p d : Nat} {l r : List Nat} {R : RV} (h : CR T p R) (hd : T.drop p = l ++ d :: r) (hl : ∀ c, c ∈ l → isL c = true) (hne : l ≠ []) (h8 : l.length ≤ 8) (hdd : isL d = false) :
    ∃ R', f_X4_startsStatement R = some (1, R') ∧ CM T p R' ∧ tC T p = 1 ∧ tE T p = p + l.length ∧ tE T p - tS T p = l.length ∧ ltr T (tS T p) (tE T p - tS T p) = l ∧ RVLn R' = RVLn R := by
  obtain ⟨R1, e1, m, e2⟩ := h.tok
  obtain ⟨hS, hC, hE, hL⟩ := tk_w (bl := []) hd (fun c hc => by simp at hc) hl hne hdd
  have hlen : tE T p - tS T p = l.length := by rw [hE, hS]; omega
  have k1 := (m.2.2.2.2.2.2.2.2.2.1 hC).1
  rw [hlen, if_pos h8] at k1
  refine ⟨R1, ?_, m, hC, ?_, hlen, hL, e2⟩
  · unfold f_X4_startsStatement
    rw [e1, bnd2_some, if_pos k1, vld_k m.2.2.2.2.1, Option.bind_some, if_neg n10, if_pos k1]
  · rw [hE]
    rfl
theorem stop_k {T : List Nat} {p : Nat} {R : RV} (h : CR T p R) (hd : T.drop p = []) : ∃ R', f_X4_startsStatement R = some (0, R') ∧ RVEk R' = 0 ∧ RVEa R' = -1 ∧ RVLn R' = RVLn R := by
  obtain ⟨R1, e1, m, e2⟩ := h.tok
  have hlen : T.length ≤ p := List.drop_eq_nil_iff.mp hd
  have hnone : T[p]? = none := List.getElem?_eq_none hlen
  have hC : tC T p = 0 := tC_0 (by rw [show tS T p = p from ru_none hnone]; exact hnone)
  have k1 : RVTk R1 = 0 := m.2.2.2.2.2.2.2.2.1 hC
  refine ⟨R1, ?_, m.2.2.2.2.1, m.2.2.2.2.2.1, e2⟩
  unfold f_X4_startsStatement
  rw [e1, bnd2_some, k1, if_neg (show ¬ (0 : Int32) = 1 by decide), if_pos rfl, vld_k m.2.2.2.2.1, Option.bind_some, if_neg n10, if_neg (show ¬ (0 : Int32) = 1 by decide)]
theorem word_k {T : List Nat} {p i : Nat} {R : RV} (m1 : CM T p R) (hc : tC T p = 1) (hl : tE T p - tS T p ≤ 8) (h : i < 14) (h3 : 3 ≤ i) : f_X4_isWord R i = some (if ltr T (tS T p) (tE T p - tS T p) = Wd i then 1 else 0) := by
  obtain ⟨c1a, c1b⟩ := m1.2.2.2.2.2.2.2.2.2.1 hc
  unfold f_X4_isWord
  rw [packed_ok i h h3, Option.bind_some]
  rw [if_pos hl] at c1a
  rw [show min (tE T p - tS T p) 8 = tE T p - tS T p by omega, pw_eq m1.2.1 hc _ hl (Nat.le_refl _)] at c1b
  obtain ⟨a1, a2⟩ := word_ltr m1.2.1 hc (Nat.le_refl _)
  have hL : LTR 8 (ltr T (tS T p) (tE T p - tS T p)) := ⟨by rw [a1]; exact hl, a2⟩
  rw [if_pos c1a, c1b]
  by_cases c : ltr T (tS T p) (tE T p - tS T p) = Wd i
  · rw [if_pos (cmp_0.mpr (by rw [c])), if_pos c]
  · rw [if_neg (fun h2 => c (pkW_inj hL (Wd_L h h3) (cmp_0.mp h2))), if_neg c]
/-- the statements that the law writes -/
def qS (k s : Nat) : List Nat := [113, 117, 101, 117, 101] ++ (32 :: ([97 + k] ++ (32 :: (dg s ++ [59]))))
def oS (k : Nat) : List Nat := [111, 119, 110, 101, 114] ++ (32 :: ([97 + k] ++ [59]))
theorem Wd3 : Wd 3 = [113, 117, 101, 117, 101] := by decide +kernel
theorem Wd4 : Wd 4 = [111, 119, 110, 101, 114] := by decide +kernel
theorem lt_a {k : Nat} (h : k < 26) : ∀ c, c ∈ [97 + k] → isL c = true := by
  intro c hc
  rw [List.mem_singleton] at hc
  subst hc
  unfold isL
  rw [Bool.and_eq_true]
  exact ⟨Nat.ble_eq_true_of_le (by omega), Nat.ble_eq_true_of_le (by omega)⟩
theorem rq_k {T : List Nat} {p k s n c : Nat} {r : List Nat} {hs : Int32} {R : RV} {C : SV} {D : UV} {u : GU} (h : CR T p R) (hd : T.drop p = qS k s ++ r) (hC : CU u D) (hk : uQ u < 6) (hk2 : k < 26) (hf : ∀ i, i < uQ u → LTR 8 (uN u i) ∧ uN u i ≠ [97 + k]) (hs1 : 1 ≤ s ∧ s ≤ 50) (hc : c ≤ 600) :
    ∃ R' D', f_X8_readSetup_h23 (n + 1) (nI c) (hs, R, C, D) = f_X8_readSetup_h23 n (nI (c + 1)) (hs, R', C, D') ∧ CR T (p + (qS k s).length) R' ∧ CU (uAq u s [97 + k]) D' ∧ RVLn R' = RVLn R := by
  have hd1 : T.drop p = [113, 117, 101, 117, 101] ++ 32 :: ([97 + k] ++ (32 :: (dg s ++ [59])) ++ r) := hd
  obtain ⟨R1, a1, m1, a2, a3, a4, a5, a6⟩ := start_k h hd1 (by decide) (by decide) (by decide) (by decide)
  have w1 := word_k (i := 3) m1 a2 (by rw [a4]; decide) (by decide) (by decide)
  rw [a5, Wd3, if_pos rfl] at w1
  have hR1 : CR T (p + 5) R1 := by
    have := m1.nx
    rw [a3] at this
    exact this
  have hd2 : T.drop (p + 5) = [32] ++ ([97 + k] ++ 32 :: (dg s ++ [59] ++ r)) := by
    have := dr_app hd1
    rw [show p + [113, 117, 101, 117, 101].length = p + 5 from rfl] at this
    rw [this]
    simp
  obtain ⟨R2, b1, b2, b3⟩ := new_k (l := [97 + k]) hR1 hd2 (lt_a hk2) (by simp) (by simp) (by decide) hC.1 (by omega) (fun i hi => (hf i hi).1) (fun i hi => (hf i hi).2)
  have hd3 : T.drop (p + 5 + 1 + [97 + k].length) = [32] ++ (dg s ++ 59 :: r) := by
    have := dr_app (l := [32] ++ [97 + k]) (r := 32 :: (dg s ++ [59] ++ r)) (hd2.trans (by simp))
    rw [show p + 5 + ([32] ++ [97 + k] : List Nat).length = p + 5 + 1 + [97 + k].length from rfl] at this
    rw [this]
    simp
  obtain ⟨R3, c1, c2, c3⟩ := num_k (a := 1) (b := 50) b2 hd3 (by omega) (by decide) hs1.1 hs1.2 (by decide)
  have hd4 : T.drop (p + 5 + 1 + [97 + k].length + 1 + (dg s).length) = 59 :: r := by
    have := dr_app (l := [32] ++ dg s) (r := 59 :: r) (hd3.trans (by simp))
    rw [show p + 5 + 1 + [97 + k].length + ([32] ++ dg s : List Nat).length = p + 5 + 1 + [97 + k].length + 1 + (dg s).length by simp only [List.length_append, List.length_cons, List.length_nil]; omega] at this
    exact this
  obtain ⟨R4, d1, d2, d3⟩ := semi_k c2 hd4
  obtain ⟨D', g1, g2⟩ := addQ_c (l := [97 + k]) (s := s) hC hk
  refine ⟨R4, D', ?_, ?_, g2, d3.trans (c3.trans (b3.trans a6))⟩
  · rw [f_X8_readSetup_h23, if_neg (show ¬ (600 : Int32) < nI c from nI_nlt (b := c) (a := 600) hc (by decide)), show f_X4_startsStatement (LrcdR (hs, R, C, D)) = _ from a1, bnd2_some, if_neg n10, w1, Option.bind_some, if_neg n10]
    have eq : f_X8_readQueue (LrcdHs (hs, R, C, D), R1, LrcdD (hs, R, C, D)) = some ((), (hs, R4, D')) := by
      unfold f_X8_readQueue
      rw [show NVCt (UVQs (LrdD (LrcdHs (hs, R, C, D), R1, LrcdD (hs, R, C, D)))) = nI (uQ u) from hC.1.1, if_pos (show nI (uQ u) < 6 from nI_lt (b := 6) hk (by decide)), show f_X4_newName (LrdR (LrcdHs (hs, R, C, D), R1, LrcdD (hs, R, C, D)), UVQs (LrdD (LrcdHs (hs, R, C, D), R1, LrcdD (hs, R, C, D)))) = _ from b1, bnd2_some, show f_X4_number (P_RV_NVA (R2, UVQs D)) 1 50 = _ from c1, bnd2_some, d1, bnd2_some, vld_k d2.2.2.2.2.1, Option.bind_some, if_neg n10]
      rw [show f_X6_addQueue (UV_sQs (LrdD (LrcdHs (hs, R, C, D), R1, LrcdD (hs, R, C, D))) (P_RV_NVB (R2, UVQs D))) (pkW [97 + k]) (nI s) = _ from g1, bnd2_some]
      rfl
    rw [eq, bnd2_some, nI_1]
    rfl
  · rw [show p + (qS k s).length = p + 5 + 1 + [97 + k].length + 1 + (dg s).length + 1 by simp only [qS, List.length_append, List.length_cons, List.length_nil]; omega]
    exact d2
theorem ro_k {T : List Nat} {p k n c : Nat} {r : List Nat} {hs : Int32} {R : RV} {C : SV} {D : UV} {u : GU} (h : CR T p R) (hd : T.drop p = oS k ++ r) (hC : CU u D) (hk : uO u < 8) (hk2 : k < 26) (hf : ∀ i, i < uO u → LTR 8 (uM u i) ∧ uM u i ≠ [97 + k]) (hc : c ≤ 600) :
    ∃ R' D', f_X8_readSetup_h23 (n + 1) (nI c) (hs, R, C, D) = f_X8_readSetup_h23 n (nI (c + 1)) (hs, R', C, D') ∧ CR T (p + (oS k).length) R' ∧ CU (uAo u [97 + k]) D' ∧ RVLn R' = RVLn R := by
  have hd1 : T.drop p = [111, 119, 110, 101, 114] ++ 32 :: ([97 + k] ++ [59] ++ r) := hd
  obtain ⟨R1, a1, m1, a2, a3, a4, a5, a6⟩ := start_k h hd1 (by decide) (by decide) (by decide) (by decide)
  have w1 := word_k (i := 3) m1 a2 (by rw [a4]; decide) (by decide) (by decide)
  rw [a5, Wd3, if_neg (by decide)] at w1
  have w2 := word_k (i := 4) m1 a2 (by rw [a4]; decide) (by decide) (by decide)
  rw [a5, Wd4, if_pos rfl] at w2
  have hR1 : CR T (p + 5) R1 := by
    have := m1.nx
    rw [a3] at this
    exact this
  have hd2 : T.drop (p + 5) = [32] ++ ([97 + k] ++ 59 :: r) := by
    have := dr_app hd1
    rw [show p + [111, 119, 110, 101, 114].length = p + 5 from rfl] at this
    rw [this]
    simp
  obtain ⟨R2, b1, b2, b3⟩ := new_k (l := [97 + k]) hR1 hd2 (lt_a hk2) (by simp) (by simp) (by decide) hC.2.1 (by omega) (fun i hi => (hf i hi).1) (fun i hi => (hf i hi).2)
  have hd3 : T.drop (p + 5 + 1 + [97 + k].length) = 59 :: r := by
    have := dr_app (l := [32] ++ [97 + k]) (r := 59 :: r) (hd2.trans (by simp))
    rw [show p + 5 + ([32] ++ [97 + k] : List Nat).length = p + 5 + 1 + [97 + k].length from rfl] at this
    exact this
  obtain ⟨R4, d1, d2, d3⟩ := semi_k b2 hd3
  obtain ⟨N', g1, g2⟩ := addO_c (l := [97 + k]) hC hk
  refine ⟨R4, UV_sOs D N', ?_, ?_, g2, d3.trans (b3.trans a6)⟩
  · rw [f_X8_readSetup_h23, if_neg (show ¬ (600 : Int32) < nI c from nI_nlt (b := c) (a := 600) hc (by decide)), show f_X4_startsStatement (LrcdR (hs, R, C, D)) = _ from a1, bnd2_some, if_neg n10, w1, Option.bind_some, if_pos rfl, w2, Option.bind_some, if_neg n10]
    have eq : f_X8_readOwner (LrcdHs (hs, R, C, D), R1, LrcdD (hs, R, C, D)) = some ((), (hs, R4, UV_sOs D N')) := by
      unfold f_X8_readOwner
      rw [show NVCt (UVOs (LrdD (LrcdHs (hs, R, C, D), R1, LrcdD (hs, R, C, D)))) = nI (uO u) from hC.2.1.1, if_pos (show nI (uO u) < 8 from nI_lt (b := 8) hk (by decide)), show f_X4_newName (LrdR (LrcdHs (hs, R, C, D), R1, LrcdD (hs, R, C, D)), UVOs (LrdD (LrcdHs (hs, R, C, D), R1, LrcdD (hs, R, C, D)))) = _ from b1, bnd2_some, show f_X4_semicolon (P_RV_NVA (R2, UVOs D)) = _ from d1, bnd2_some, vld_k d2.2.2.2.2.1, Option.bind_some, if_neg n10]
      rw [show f_X2_add (P_RV_NVB (R2, UVOs D)) (pkW [97 + k]) = _ from g1, bnd2_some]
      rfl
    rw [eq, bnd2_some, nI_1]
    rfl
  · rw [show p + (oS k).length = p + 5 + 1 + [97 + k].length + 1 by simp only [oS, List.length_append, List.length_cons, List.length_nil]]
    exact d2
