/-! ===== 78h: the law's setup, read and taken over ===== -/
def tQ (f : Nat → Nat) : Nat → List Nat
  | 0 => []
  | n + 1 => tQ f n ++ qS n (f n)
def tO : Nat → List Nat
  | 0 => []
  | n + 1 => tO n ++ oS n
def uq (f : Nat → Nat) : Nat → GU
  | 0 => u00
  | n + 1 => uAq (uq f n) (f n) [97 + n]
def uw (u : GU) : Nat → GU
  | 0 => u
  | n + 1 => uAo (uw u n) [97 + n]
theorem uq_f {f : Nat → Nat} : ∀ n, uQ (uq f n) = n ∧ uO (uq f n) = 0 ∧ ∀ i, i < n → uS (uq f n) i = f i ∧ uN (uq f n) i = [97 + i]
  | 0 => ⟨rfl, rfl, fun i hi => absurd hi (Nat.not_lt_zero _)⟩
  | n + 1 => by
    obtain ⟨a, b, c⟩ := uq_f (f := f) n
    refine ⟨?_, b, fun i hi => ?_⟩
    · show uQ (uq f n) + 1 = n + 1
      rw [a]
    · show uf (uS (uq f n)) (uQ (uq f n)) (f n) i = f i ∧ uf (uN (uq f n)) (uQ (uq f n)) [97 + n] i = [97 + i]
      rw [a]
      by_cases e : i = n
      · subst e
        rw [uf_eq, uf_eq]
        exact ⟨rfl, rfl⟩
      · rw [uf_ne e, uf_ne e]
        exact c i (by omega)
theorem uw_f {u : GU} (h0 : uO u = 0) : ∀ n, uQ (uw u n) = uQ u ∧ uO (uw u n) = n ∧ uS (uw u n) = uS u ∧ uN (uw u n) = uN u ∧ ∀ i, i < n → uM (uw u n) i = [97 + i]
  | 0 => ⟨rfl, h0, rfl, rfl, fun i hi => absurd hi (Nat.not_lt_zero _)⟩
  | n + 1 => by
    obtain ⟨a, b, c, d, e⟩ := uw_f h0 n
    refine ⟨a, ?_, c, d, fun i hi => ?_⟩
    · show uO (uw u n) + 1 = n + 1
      rw [b]
    · show uf (uM (uw u n)) (uO (uw u n)) [97 + n] i = [97 + i]
      rw [b]
      by_cases e2 : i = n
      · subst e2
        rw [uf_eq]
      · rw [uf_ne e2]
        exact e i (by omega)
theorem ltr1 {n : Nat} (h : n < 26) : LTR 6 [97 + n] := ⟨by simp, fun c hc => by
  rw [List.mem_singleton] at hc
  omega⟩
theorem uq_B {f : Nat → Nat} : ∀ n, n ≤ 4 → (∀ i, i < n → 1 ≤ f i ∧ f i ≤ 16) → UB (uq f n)
  | 0, _, _ => ⟨Nat.zero_le _, Nat.zero_le _, fun q hq => absurd hq (Nat.not_lt_zero _), fun q hq => absurd hq (Nat.not_lt_zero _)⟩
  | n + 1, hn, hf => by
    have a := (uq_f (f := f) n).1
    have := hf n (by omega)
    exact UB.aq (uq_B n (by omega) (fun i hi => hf i (by omega))) (by omega) ⟨this.1, by omega⟩ (ltr1 (by omega))
theorem uw_B {u : GU} (h : UB u) (h0 : uO u = 0) : ∀ n, n ≤ 4 → UB (uw u n)
  | 0, _ => h
  | n + 1, hn => by
    have b := (uw_f h0 n).2.1
    exact UB.ao (uw_B h h0 n (by omega)) (by omega) (ltr1 (by omega))
theorem tQ_pre {f : Nat → Nat} {k : Nat} : ∀ {n : Nat}, k ≤ n → ∃ r, tQ f n = tQ f k ++ r
  | 0, h => ⟨[], by
    have : k = 0 := by omega
    subst this
    rfl⟩
  | n + 1, h => by
    by_cases e : k = n + 1
    · subst e
      exact ⟨[], (List.append_nil _).symm⟩
    · obtain ⟨r, hr⟩ := tQ_pre (f := f) (k := k) (n := n) (by omega)
      exact ⟨r ++ qS n (f n), by rw [tQ, hr, List.append_assoc]⟩
theorem tO_pre {k : Nat} : ∀ {n : Nat}, k ≤ n → ∃ r, tO n = tO k ++ r
  | 0, h => ⟨[], by
    have : k = 0 := by omega
    subst this
    rfl⟩
  | n + 1, h => by
    by_cases e : k = n + 1
    · subst e
      exact ⟨[], (List.append_nil _).symm⟩
    · obtain ⟨r, hr⟩ := tO_pre (k := k) (n := n) (by omega)
      exact ⟨r ++ oS n, by rw [tO, hr, List.append_assoc]⟩
theorem ne_a {i k : Nat} (h : i < k) : [97 + i] ≠ [97 + k] := by
  intro e
  injection e with e1
  omega
section RD
variable {T : List Nat} {f : Nat → Nat} {n m : Nat} {hs : Int32} {R0 : RV} {C : SV} {D0 : UV}
theorem rd_q (hTe : T = tQ f n ++ tO m) (hn : n ≤ 4) (hf : ∀ i, i < n → 1 ≤ f i ∧ f i ≤ 16) (h0 : CR T 0 R0) (hD : CU u00 D0) (N : Nat) : ∀ k, k ≤ n → ∃ R D, f_X8_readSetup_h23 (N + n) (nI 0) (hs, R0, C, D0) = f_X8_readSetup_h23 (N + (n - k)) (nI k) (hs, R, C, D) ∧ CR T (tQ f k).length R ∧ CU (uq f k) D ∧ RVLn R = RVLn R0 := by
  intro k
  induction k with
  | zero => exact fun _ => ⟨R0, D0, rfl, h0, hD, rfl⟩
  | succ k ih =>
    intro hk
    obtain ⟨R, D, e1, e2, e3, e4⟩ := ih (by omega)
    obtain ⟨a, b, c⟩ := uq_f (f := f) k
    obtain ⟨r, hr⟩ := tQ_pre (f := f) hk
    have hd : T.drop (tQ f k).length = qS k (f k) ++ (r ++ tO m) := by
      rw [hTe, hr, tQ, List.append_assoc, List.append_assoc, List.drop_left]
    have hfk := hf k (by omega)
    obtain ⟨R', D', g1, g2, g3, g4⟩ := rq_k (n := N + (n - (k + 1))) (c := k) (hs := hs) (C := C) e2 hd e3 (by omega) (by omega) (fun i hi => by
      have hi' : i < k := by omega
      rw [(c i hi').2]
      exact ⟨(ltr1 (by omega)).le (by decide), ne_a hi'⟩) ⟨hfk.1, by omega⟩ (by omega)
    refine ⟨R', D', ?_, ?_, g3, g4.trans e4⟩
    · rw [e1, show N + (n - k) = N + (n - (k + 1)) + 1 by omega, g1]
    · rw [tQ, List.length_append]
      exact g2
theorem rd_o {R1 : RV} {D1 : UV} {u : GU} (hTe : T = tQ f n ++ tO m) (hm : m ≤ 4) (hn : n ≤ 4) (h0 : CR T (tQ f n).length R1) (hD : CU u D1) (hu : uO u = 0) (N : Nat) : ∀ k, k ≤ m → ∃ R D, f_X8_readSetup_h23 (N + m) (nI n) (hs, R1, C, D1) = f_X8_readSetup_h23 (N + (m - k)) (nI (n + k)) (hs, R, C, D) ∧ CR T ((tQ f n).length + (tO k).length) R ∧ CU (uw u k) D ∧ RVLn R = RVLn R1 := by
  intro k
  induction k with
  | zero => exact fun _ => ⟨R1, D1, rfl, h0, hD, rfl⟩
  | succ k ih =>
    intro hk
    obtain ⟨R, D, e1, e2, e3, e4⟩ := ih (by omega)
    obtain ⟨a, b, -, -, c⟩ := uw_f hu k
    obtain ⟨r, hr⟩ := tO_pre hk
    have hd : T.drop ((tQ f n).length + (tO k).length) = oS k ++ r := by
      rw [hTe, hr, tO, List.append_assoc, ← List.append_assoc, ← List.length_append, List.drop_left]
    obtain ⟨R', D', g1, g2, g3, g4⟩ := ro_k (n := N + (m - (k + 1))) (c := n + k) (hs := hs) (C := C) e2 hd e3 (by omega) (by omega) (fun i hi => by
      have hi' : i < k := by omega
      rw [c i hi']
      exact ⟨(ltr1 (by omega)).le (by decide), ne_a hi'⟩) (by omega)
    refine ⟨R', D', ?_, ?_, g3, g4.trans e4⟩
    · rw [e1, show N + (m - k) = N + (m - (k + 1)) + 1 by omega, g1]
      rfl
    · rw [tO, List.length_append, ← Nat.add_assoc]
      exact g2
end RD
theorem load_k {T : List Nat} {f : Nat → Nat} {n m : Nat} {hs : Int32} {R : RV} {Y : YV} {S C : SV} {U D : UV} (hT : TXok T) (hl : RVLn R = nI T.length) (hX : TXc T (RVTx R)) (hSC : SCR C) (hY : YI Y) (hTe : T = tQ f n ++ tO m) (hn : 1 ≤ n ∧ n ≤ 4) (hm : 1 ≤ m ∧ m ≤ 4) (hf : ∀ i, i < n → 1 ≤ f i ∧ f i ≤ 16) :
    ∃ R' Y' S' C' D', f_X8_loadSetup (hs, R, Y, S, C, U, D) = some (0, true, (0, R', Y', S', C', D', U)) ∧ CS g00 S' ∧ YI Y' ∧ CU (uw (uq f n) m) D' := by
  obtain ⟨C1, c1, c2⟩ := x7clear_ok hSC
  have hFU : FU = 4000 + 1 + m + n + (999 - m - n) := by have : FU = 5000 := rfl; omega
  have h0 : CR T 0 (rb R) := ⟨hT, Nat.zero_le _, hl, hX, rfl, rfl, rfl⟩
  have hD0 : CU u00 (UV_sOs (UV_sQs D (NV_sCt (UVQs D) 0)) (NV_sCt (UVOs D) 0)) := ⟨⟨rfl, fun q hq => absurd hq (Nat.not_lt_zero _)⟩, ⟨rfl, fun q hq => absurd hq (Nat.not_lt_zero _)⟩, fun q hq => absurd hq (Nat.not_lt_zero _)⟩
  obtain ⟨R1, D1, a1, a2, a3, a4⟩ := rd_q (hs := hs) (C := C1) hTe hn.2 hf h0 hD0 (FU - n) n (Nat.le_refl _)
  obtain ⟨b1, b2, b3⟩ := uq_f (f := f) n
  obtain ⟨R2, D2, d1, d2, d3, d4⟩ := rd_o (hs := hs) (C := C1) hTe hm.2 hn.2 a2 a3 b2 (FU - n - m) m (Nat.le_refl _)
  obtain ⟨e1, e2, -, -, -⟩ := uw_f b2 m
  have hend : T.drop ((tQ f n).length + (tO m).length) = [] := by
    rw [hTe, ← List.length_append, List.drop_length]
  obtain ⟨R3, s1, s2, s3, s4⟩ := stop_k d2 hend
  have hrs : f_X8_readSetup (hs, R, C, D) = some (1, (hs, R3, C1, D2)) := by
    unfold f_X8_readSetup f_X6_clear
    rw [bnd2_some, show f_X7_clear (LrcdC (hs, R, C, D)) = _ from c1, bnd2_some, show f_X4_begin (LrcdR (hs, R, C, D)) = _ from begin_c, bnd2_some]
    have h1 := a1
    rw [show FU - n + n = FU by omega, show FU - n + (n - n) = FU - n - m + m by omega, d1, show FU - n - m + (m - m) = FU - n - m - 1 + 1 by omega] at h1
    refine (show f_X8_readSetup_h23 FU 0 (LrcdHs (hs, R, C, D), rb R, C1, UV_sOs (UV_sQs (LrcdD (hs, R, C, D)) (NV_sCt (UVQs (LrcdD (hs, R, C, D))) 0)) (NV_sCt (UVOs (LrcdD (hs, R, C, D))) 0)) = _ from h1).trans ?_
    rw [f_X8_readSetup_h23, if_neg (show ¬ (600 : Int32) < nI (n + m) from nI_nlt (b := n + m) (a := 600) (by omega) (by decide)), show f_X4_startsStatement (LrcdR (hs, R2, C1, D2)) = _ from s1, bnd2_some, if_pos rfl]
    unfold f_X8_readSetup_j114
    rw [show NVCt (UVQs (LrcdD (Lrcd_sR (hs, R2, C1, D2) R3))) = nI (uQ (uw (uq f n) m)) from d3.1.1, show NVCt (UVOs (LrcdD (Lrcd_sR (hs, R2, C1, D2) R3))) = nI (uO (uw (uq f n) m)) from d3.2.1.1, e1, b1, e2, if_neg (nI_ne0 (by omega) (by omega)), if_neg (nI_ne0 (by omega) (by omega))]
    unfold f_X8_readSetup_j148
    rw [show f_X4_isValid (LrcdR (Lrcd_sR (hs, R2, C1, D2) R3)) = some 1 from vld_k s2, Option.bind_some, if_neg not01]
    rfl
  obtain ⟨S', k1, k2⟩ := copy_ok (A := S) c2 (show aJ g00 ≤ 40 by decide)
  refine ⟨R3, YV_sCt Y 0, SV_sH S' (HV_sSw (HV_sCm (SVH S') 0) 0), C1, D2, ?_, CS_zc k2, hY, d3⟩
  unfold f_X8_loadSetup
  rw [show f_X8_readSetup (LryscudHs (hs, R, Y, S, C, U, D), LryscudR (hs, R, Y, S, C, U, D), LryscudC (hs, R, Y, S, C, U, D), LryscudD (hs, R, Y, S, C, U, D)) = _ from hrs, bnd2_some, if_neg n10]
  unfold f_X8_adoptDraft f_X0_clearCounters f_X1_clear
  rw [show f_X7_copyFrom (LyscudS (LrcdHs (hs, R3, C1, D2), LryscudY (hs, R, Y, S, C, U, D), LryscudS (hs, R, Y, S, C, U, D), LrcdC (hs, R3, C1, D2), LryscudU (hs, R, Y, S, C, U, D), LrcdD (hs, R3, C1, D2)), LyscudC (LrcdHs (hs, R3, C1, D2), LryscudY (hs, R, Y, S, C, U, D), LryscudS (hs, R, Y, S, C, U, D), LrcdC (hs, R3, C1, D2), LryscudU (hs, R, Y, S, C, U, D), LrcdD (hs, R3, C1, D2))) = _ from k1, bnd2_some, bnd2_some, bnd2_some, bnd2_some]
  show some (SVJc S', true, _) = _
  rw [k2.1]
  rfl
/-- the lines at the start -/
theorem LQ0 {f : Nat → Nat} {n m : Nat} {Q : QV} (hn : 1 ≤ n ∧ n ≤ 4) (hm : 1 ≤ m ∧ m ≤ 4) (hf : ∀ i, i < n → 1 ≤ f i ∧ f i ≤ 16) (h1 : QVNq Q = nI n) (h2 : QVNo Q = nI m) (h3 : QVJb Q = 0) (h4 : ∀ k, k < n → QVSp Q k = nI (f k) ∧ QVPd Q k = 0 ∧ QVPs Q k = 0) : LQ (uw (uq f n) m) g00 Q := by
  obtain ⟨b1, b2, b3⟩ := uq_f (f := f) n
  obtain ⟨e1, e2, e3, -, -⟩ := uw_f b2 m
  refine ⟨⟨?_, ?_, h3⟩, ?_, ?_, fun j hj => absurd hj (Nat.not_lt_zero _), fun k hk => ?_⟩
  · rw [h1, e1, b1]
  · rw [h2, e2]
  · rw [e1, b1]
    exact hn
  · rw [e2]
    exact hm
  · rw [e1, b1] at hk
    obtain ⟨q1, q2, q3⟩ := h4 k hk
    rw [e3, (b3 k hk).1]
    exact ⟨q1, hf k hk, q2, q3⟩
