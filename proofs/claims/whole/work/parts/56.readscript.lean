/-! ===== 56: a script is read, on both sides ===== -/
def kdW (T : List Nat) (p : Nat) : Int32 := (if isW T p 6 = 0 then (if isW T p 7 = 0 then (if isW T p 8 = 0 then (if isW T p 9 = 0 then (if isW T p 10 = 0 then (if isW T p 11 = 0 then (if isW T p 12 = 0 then (if isW T p 13 = 0 then -1 else 7) else 6) else 5) else 4) else 3) else 2) else 1) else 0)
theorem kind_c {T : List Nat} {p : Nat} {hs : Int32} {R : RV} {v : MV} (m1 : MID T p R v) : f_X8_statementKind (hs, R) = some (kdW T p) := by
  unfold f_X8_statementKind kdW
  rw [show LrR (hs, R) = R from rfl, isWord_c m1 (i := 6) (by decide) (by decide), Option.bind_some, isWord_c m1 (i := 7) (by decide) (by decide), Option.bind_some, isWord_c m1 (i := 8) (by decide) (by decide), Option.bind_some, isWord_c m1 (i := 9) (by decide) (by decide), Option.bind_some, isWord_c m1 (i := 10) (by decide) (by decide), Option.bind_some, isWord_c m1 (i := 11) (by decide) (by decide), Option.bind_some, isWord_c m1 (i := 12) (by decide) (by decide), Option.bind_some, isWord_c m1 (i := 13) (by decide) (by decide), Option.bind_some]
  by_cases w6 : isW T p 6 = 0
  · simp only [w6, if_true]
    by_cases w7 : isW T p 7 = 0
    · simp only [w7, if_true]
      by_cases w8 : isW T p 8 = 0
      · simp only [w8, if_true]
        by_cases w9 : isW T p 9 = 0
        · simp only [w9, if_true]
          by_cases w10 : isW T p 10 = 0
          · simp only [w10, if_true]
            by_cases w11 : isW T p 11 = 0
            · simp only [w11, if_true]
              by_cases w12 : isW T p 12 = 0
              · simp only [w12, if_true]
                by_cases w13 : isW T p 13 = 0
                · simp only [w13, if_true]
                · simp only [if_neg w13]
              · simp only [if_neg w12]
            · simp only [if_neg w11]
          · simp only [if_neg w10]
        · simp only [if_neg w9]
      · simp only [if_neg w8]
    · simp only [if_neg w7]
  · simp only [if_neg w6]
theorem kind_r {T : List Nat} {p : Nat} {v : MV} (hT : TXok T) (hp : p ≤ T.length) (hr : REF T p v) : f_X9_statementKind v = some (kdW T p) := by
  unfold f_X9_statementKind kdW
  rw [show f_X9_isWord v 30 = some (isW T p 6) from isWord_r hT hp hr (by decide) (by decide), Option.bind_some, show f_X9_isWord v 31 = some (isW T p 7) from isWord_r hT hp hr (by decide) (by decide), Option.bind_some, show f_X9_isWord v 32 = some (isW T p 8) from isWord_r hT hp hr (by decide) (by decide), Option.bind_some, show f_X9_isWord v 33 = some (isW T p 9) from isWord_r hT hp hr (by decide) (by decide), Option.bind_some, show f_X9_isWord v 34 = some (isW T p 10) from isWord_r hT hp hr (by decide) (by decide), Option.bind_some, show f_X9_isWord v 35 = some (isW T p 11) from isWord_r hT hp hr (by decide) (by decide), Option.bind_some, show f_X9_isWord v 36 = some (isW T p 12) from isWord_r hT hp hr (by decide) (by decide), Option.bind_some, show f_X9_isWord v 37 = some (isW T p 13) from isWord_r hT hp hr (by decide) (by decide), Option.bind_some]
  by_cases w6 : isW T p 6 = 0
  · simp only [w6, if_true]
    by_cases w7 : isW T p 7 = 0
    · simp only [w7, if_true]
      by_cases w8 : isW T p 8 = 0
      · simp only [w8, if_true]
        by_cases w9 : isW T p 9 = 0
        · simp only [w9, if_true]
          by_cases w10 : isW T p 10 = 0
          · simp only [w10, if_true]
            by_cases w11 : isW T p 11 = 0
            · simp only [w11, if_true]
              by_cases w12 : isW T p 12 = 0
              · simp only [w12, if_true]
                by_cases w13 : isW T p 13 = 0
                · simp only [w13, if_true]
                · simp only [if_neg w13]
              · simp only [if_neg w12]
            · simp only [if_neg w11]
          · simp only [if_neg w10]
        · simp only [if_neg w9]
      · simp only [if_neg w8]
    · simp only [if_neg w7]
  · simp only [if_neg w6]
theorem kd_cases {T : List Nat} {p : Nat} : kdW T p = -1 ∨ (kdW T p = 0 ∨ kdW T p = 1 ∨ kdW T p = 2 ∨ kdW T p = 3 ∨ kdW T p = 4 ∨ kdW T p = 5 ∨ kdW T p = 6 ∨ kdW T p = 7) := by
  unfold kdW
  by_cases w6 : isW T p 6 = 0
  · simp only [w6, if_true]
    by_cases w7 : isW T p 7 = 0
    · simp only [w7, if_true]
      by_cases w8 : isW T p 8 = 0
      · simp only [w8, if_true]
        by_cases w9 : isW T p 9 = 0
        · simp only [w9, if_true]
          by_cases w10 : isW T p 10 = 0
          · simp only [w10, if_true]
            by_cases w11 : isW T p 11 = 0
            · simp only [w11, if_true]
              by_cases w12 : isW T p 12 = 0
              · simp only [w12, if_true]
                by_cases w13 : isW T p 13 = 0
                · simp only [w13, if_true]
                  exact Or.inl trivial
                · simp only [if_neg w13]
                  decide
              · simp only [if_neg w12]
                decide
            · simp only [if_neg w11]
              decide
          · simp only [if_neg w10]
            decide
        · simp only [if_neg w9]
          decide
      · simp only [if_neg w8]
        decide
    · simp only [if_neg w7]
      decide
  · simp only [if_neg w6]
    decide
theorem kd_bad {T : List Nat} {p : Nat} (h : ¬ (tC T p = 1 ∧ tE T p - tS T p ≤ 8)) : kdW T p = -1 := by
  unfold kdW
  simp only [isW_bad h, if_true]
theorem OKs.congr {u : GU} {k a b c d : Int32} {s s' : Nat → Int32} {i : Nat} (h : ∀ j, j < 5 → s' (5 * i + j) = s (5 * i + j)) (hO : OKs u k a b c d s i) : OKs u k a b c d s' i := by
  have h0 := h 0 (by decide)
  have h1 := h 1 (by decide)
  have h2 := h 2 (by decide)
  have h3 := h 3 (by decide)
  have h4 := h 4 (by decide)
  rw [Nat.add_zero] at h0
  unfold OKs at hO ⊢
  rw [h0, h1, h2, h3, h4]
  exact hO
/-- the statements that were read -/
def SMR (u : GU) (TS : TV) (n : Nat) (v : MV) : Prop := n ≤ 30 ∧ TVCt TS = nI n ∧ MVSc v = nI n ∧ ∀ i, i < n → OKs u (TVK TS i) (TVA TS i) (TVB TS i) (TVC TS i) (TVD TS i) (MVSm v) i
def DON2 (T : List Nat) (q : Nat) (u : GU) (n : Nat) (R : RV) (v : MV) (TS : TV) : Prop := (∃ p, q ≤ p ∧ PR T p R v ∧ SMR u TS n v) ∨ ∃ k o, PE k o R v
theorem x5add_ok {TS : TV} {k a b c d : Int32} {n : Nat} (hn : n < 30) (h : TVCt TS = nI n) : f_X5_add TS k a b c d = some ((), ((upd (TVK TS) n k), (upd (TVA TS) n a), (upd (TVB TS) n b), (upd (TVC TS) n c), (upd (TVD TS) n d), nI (n + 1))) := by
  unfold f_X5_add
  rw [h, if_neg (nI_pos (by omega)), if_neg (show ¬ (30 : Int32) ≤ nI n from nI_ge (b := 30) hn (by decide))]
  simp only [if_neg (o30 hn), c30 hn]
  rw [nI_1]
theorem tail_st {T : List Nat} {q n : Nat} {hs : Int32} {R : RV} {w : MV} {TS : TV} {U : UV} {u : GU} {Q : Prop} {k a b c d : Int32} {s0 : Nat → Int32} (h : STEP T q R w Q) (hn : n < 30) (hct : TVCt TS = nI n) (hsc : MVSc w = nI n) (hold : ∀ i, i < n → OKs u (TVK TS i) (TVA TS i) (TVB TS i) (TVC TS i) (TVD TS i) s0 i) (hs0 : ∀ j, j < 5 * n → MVSm w j = s0 j) (hnew : Q → OKs u k a b c d (MVSm w) n) :
    ∃ R' TS' v', f_X8_readStatement_j234 k a b c d (hs, R, TS, U) = some ((), (hs, R', TS', U)) ∧ f_X9_parseStatement_j284 w = some ((), v') ∧ SR R R' ∧ kp v' = kp w ∧ MVSt v' = MVSt w ∧ DON2 T q u (n + 1) R' v' TS' := by
  obtain ⟨R', v1, e1, e2, e3, e4, e5⟩ := semi_st h
  unfold f_X8_readStatement_j234 f_X9_parseStatement_j284
  rw [show f_X4_semicolon (LrtuR (hs, R, TS, U)) = _ from e1, bnd2_some, e2, bnd2_some]
  rcases e5 with ⟨hQ, p, hp, pr⟩ | ⟨kk, o, pe⟩
  · rw [valid_0 pr.2.2.2.2.1, Option.bind_some, if_neg n10, show f_X5_add (LrtuT (hs, R, TS, U)) k a b c d = _ from x5add_ok hn hct, bnd2_some]
    refine ⟨R', _, _, rfl, rfl, e3, e4.1, e4.2.1, Or.inl ⟨p, hp, pr, by omega, rfl, ?_, fun i hi => ?_⟩⟩
    · show MVSc v1 + 1 = _
      rw [e4.2.2.2, hsc, nI_1]
    · show OKs u (upd (TVK TS) n k i) (upd (TVA TS) n a i) (upd (TVB TS) n b i) (upd (TVC TS) n c i) (upd (TVD TS) n d i) (MVSm v1) i
      rw [e4.2.2.1]
      by_cases e : i = n
      · subst e
        rw [upd_eq, upd_eq, upd_eq, upd_eq, upd_eq]
        exact hnew hQ
      · rw [upd_ne e, upd_ne e, upd_ne e, upd_ne e, upd_ne e]
        exact (hold i (by omega)).congr (fun j hj => hs0 _ (by omega))
  · rw [valid_er pe.c, Option.bind_some, if_pos rfl]
    exact ⟨R', TS, _, rfl, rfl, e3, e4.1, e4.2.1, Or.inr ⟨kk, o, pe⟩⟩
theorem STEP.sm {T : List Nat} {q : Nat} {R : RV} {v : MV} {Q : Prop} {s : Nat → Int32} (h : STEP T q R v Q) : STEP T q R (MV_sSm v s) Q := h
theorem SV'.smx {v w : MV} {s : Nat → Int32} (h : SV' v w) : kp (MV_sSm w s) = kp v ∧ MVSt (MV_sSm w s) = MVSt v ∧ MVSc (MV_sSm w s) = MVSc v := ⟨h.1, h.2.1, h.2.2.2⟩
theorem smx_c {v : MV} {s : Nat → Int32} : MVSc (MV_sSm v s) = MVSc v := rfl
theorem smx_k {v : MV} {s : Nat → Int32} : kp (MV_sSm v s) = kp v := rfl
theorem smx_t {v : MV} {s : Nat → Int32} : MVSt (MV_sSm v s) = MVSt v := rfl
theorem smx_m {v : MV} {s : Nat → Int32} : MVSm (MV_sSm v s) = s := rfl
set_option maxHeartbeats 4000000 in
/-- the parts of a statement behind its first word -/
theorem body_ok {T : List Nat} {q n : Nat} {hs : Int32} {R : RV} {w1 : MV} {TS : TV} {U : UV} {u : GU} {kd : Int32} (hP : PR T q R w1) (hU : CU u U) (hnq : NMq (MVSt w1) (uN u) (uQ u)) (hno : NMo (MVSt w1) (uM u) (uO u)) (hn : n < 30) (hct : TVCt TS = nI n) (hsc : MVSc w1 = nI n) (hkd : kd = 0 ∨ kd = 1 ∨ kd = 2 ∨ kd = 3 ∨ kd = 4 ∨ kd = 5 ∨ kd = 6 ∨ kd = 7)
    (hold : ∀ i, i < n → OKs u (TVK TS i) (TVA TS i) (TVB TS i) (TVC TS i) (TVD TS i) (MVSm w1) i) :
    ∃ R' TS' v', f_X8_readStatement (hs, R, TS, U) kd = some ((), (hs, R', TS', U)) ∧
      (if kd = 0 then
        bnd2 (f_X9_parseKnownQueue (MV_sSm w1 (upd (MVSm w1) (5 * n) kd)) (-1)) fun r19 w20 =>
        bnd2 (f_X9_parseKnownOwner (MV_sSm w20 (upd (MVSm w20) (5 * n + 1) r19))) fun r23 w24 =>
        bnd2 (f_X9_parseNumber (MV_sSm w24 (upd (MVSm w24) (5 * n + 2) r23)) 0 99) fun r27 w28 =>
        bnd2 (f_X9_parseNumber (MV_sSm w28 (upd (MVSm w28) (5 * n + 3) r27)) 1 99) fun r31 w32 =>
        f_X9_parseStatement_j284 (MV_sSm w32 (upd (MVSm w32) (5 * n + 4) r31))
      else if kd = 1 then
        f_X9_parseStatement_j271 (nI (5 * n)) (MV_sSm w1 (upd (MVSm w1) (5 * n) kd))
      else if kd = 2 then
        bnd2 (f_X9_parseHandle (MV_sSm w1 (upd (MVSm w1) (5 * n) kd))) fun r44 w45 =>
        f_X9_parseStatement_j284 (MV_sSm w45 (upd (MVSm w45) (5 * n + 1) r44))
      else if kd = 3 then
        bnd2 (f_X9_parseHandle (MV_sSm w1 (upd (MVSm w1) (5 * n) kd))) fun r49 w50 =>
        bnd2 (f_X9_parseNumber (MV_sSm w50 (upd (MVSm w50) (5 * n + 1) r49)) 0 99) fun r53 w54 =>
        f_X9_parseStatement_j284 (MV_sSm w54 (upd (MVSm w54) (5 * n + 2) r53))
      else if kd = 4 then
        bnd2 (f_X9_parseHandle (MV_sSm w1 (upd (MVSm w1) (5 * n) kd))) fun r58 w59 =>
        bnd2 (f_X9_parseKnownQueue (MV_sSm w59 (upd (MVSm w59) (5 * n + 1) r58)) (-1)) fun r62 w63 =>
        f_X9_parseStatement_j284 (MV_sSm w63 (upd (MVSm w63) (5 * n + 2) r62))
      else if kd = 5 then
        bnd2 (f_X9_parseKnownQueue (MV_sSm w1 (upd (MVSm w1) (5 * n) kd)) (-1)) fun r67 w68 =>
        bnd2 (f_X9_parseKnownQueue (MV_sSm w68 (upd (MVSm w68) (5 * n + 1) r67)) ((upd (MVSm w68) (5 * n + 1) r67) (5 * n + 1))) fun r72 w73 =>
        f_X9_parseStatement_j284 (MV_sSm w73 (upd (MVSm w73) (5 * n + 2) r72))
      else f_X9_parseStatement_j271 (nI (5 * n)) (MV_sSm w1 (upd (MVSm w1) (5 * n) kd))) = some ((), v') ∧ SR R R' ∧ kp v' = kp w1 ∧ MVSt v' = MVSt w1 ∧ DON2 T q u (n + 1) R' v' TS' := by
  have i1 : 5 * n + 1 < 150 := by omega
  have hP0 : STEP T q R (MV_sSm w1 (upd (MVSm w1) (5 * n) kd)) True := STEP.sm (Or.inl ⟨trivial, q, Nat.le_refl _, hP⟩)
  -- a queue alone
  have one : (kd = 1 ∨ kd = 6 ∨ kd = 7) → ∃ R' TS' v', f_X8_readStatement_j219 kd (-1) (-1) (-1) (hs, R, TS, U) = some ((), (hs, R', TS', U)) ∧ f_X9_parseStatement_j271 (nI (5 * n)) (MV_sSm w1 (upd (MVSm w1) (5 * n) kd)) = some ((), v') ∧ SR R R' ∧ kp v' = kp w1 ∧ MVSt v' = MVSt w1 ∧ DON2 T q u (n + 1) R' v' TS' := by
    intro hk
    unfold f_X8_readStatement_j219 f_X9_parseStatement_j271
    obtain ⟨R2, v2, x1, y1, b1, b2, b3, b4, b5⟩ := knownQ1_st (v := MV_sSm w1 (upd (MVSm w1) (5 * n) kd)) hU.1 (by rw [smx_t]; exact hnq) hP0
    rw [show f_X4_knownName (LrtuR (hs, R, TS, U), UVQs (LrtuU (hs, R, TS, U))) = _ from b1, bnd2_some, b2, bnd2_some, show nI (5 * n) + (1 : Int32) = nI (5 * n + 1) from nI_add _ 1, if_neg (o150 i1), c150 i1]
    have em : MVSm v2 = upd (MVSm w1) (5 * n) kd := b4.2.2.1.trans smx_m
    obtain ⟨R', TS', v', t1, t2, t3, t4, t5, t6⟩ := tail_st (hs := hs) (U := U) (u := u) (k := kd) (a := x1) (b := -1) (c := -1) (d := -1) (s0 := MVSm w1) (TS := TS) (n := n) (w := MV_sSm v2 (upd (MVSm v2) (5 * n + 1) y1)) b5.sm hn hct (by rw [smx_c, b4.2.2.2, smx_c, hsc]) hold (fun j hj => by rw [smx_m, em, upd_ne (by omega), upd_ne (by omega)]) (fun hQ => by
      obtain ⟨-, exy, i, ei, hi⟩ := hQ
      refine ⟨by rw [smx_m, em, upd_ne (by omega), upd_eq], Or.inr (Or.inl ⟨hk, i, ei, hi, by rw [smx_m, upd_eq, exy]⟩)⟩)
    exact ⟨R', TS', v', t1, t2, b3.tr t3, by rw [t4, smx_k, b4.1, smx_k], by rw [t5, smx_t, b4.2.1, smx_t], t6⟩
  rcases hkd with e | e | e | e | e | e | e | e
  · -- submit
    subst e
    unfold f_X8_readStatement
    rw [if_pos rfl, if_pos rfl]
    obtain ⟨R2, v2, x1, y1, b1, b2, b3, b4, b5⟩ := knownQ1_st (v := MV_sSm w1 (upd (MVSm w1) (5 * n) 0)) hU.1 (by rw [smx_t]; exact hnq) hP0
    obtain ⟨R3, v3, x2, y2, c1, c2, c3, c4, c5⟩ := knownO_st (v := MV_sSm v2 (upd (MVSm v2) (5 * n + 1) y1)) hU.2.1 (by rw [smx_t, b4.2.1, smx_t]; exact hno) b5.sm
    obtain ⟨R4, v4, x3, y3, d1, d2, d3, d4, -, d5⟩ := number_st (v := MV_sSm v3 (upd (MVSm v3) (5 * n + 2) y2)) 0 99 c5.sm
    obtain ⟨R5, v5, x4, y4, e1, e2, e3, e4, -, e5⟩ := number_st (v := MV_sSm v4 (upd (MVSm v4) (5 * n + 3) y3)) 1 99 d5.sm
    rw [show f_X4_knownName (LrtuR (hs, R, TS, U), UVQs (LrtuU (hs, R, TS, U))) = _ from b1, bnd2_some, b2, bnd2_some]
    rw [show f_X4_knownName (P_RV_NVA (R2, UVQs U), UVOs (LrtuU (hs, R, TS, U))) = _ from c1, bnd2_some, c2, bnd2_some]
    rw [show f_X4_number (P_RV_NVA (R3, UVOs U)) 0 99 = _ from d1, bnd2_some, d2, bnd2_some, e1, bnd2_some, e2, bnd2_some]
    have em2 : MVSm v2 = upd (MVSm w1) (5 * n) 0 := b4.2.2.1.trans smx_m
    have em3 : MVSm v3 = upd (MVSm v2) (5 * n + 1) y1 := c4.2.2.1.trans smx_m
    have em4 : MVSm v4 = upd (MVSm v3) (5 * n + 2) y2 := d4.2.2.1.trans smx_m
    have em5 : MVSm v5 = upd (MVSm v4) (5 * n + 3) y3 := e4.2.2.1.trans smx_m
    obtain ⟨R', TS', v', t1, t2, t3, t4, t5, t6⟩ := tail_st (hs := hs) (U := U) (u := u) (k := 0) (a := x1) (b := x2) (c := x3) (d := x4) (s0 := MVSm w1) (TS := TS) (n := n) (w := MV_sSm v5 (upd (MVSm v5) (5 * n + 4) y4)) e5.sm hn hct (by rw [smx_c, e4.2.2.2, smx_c, d4.2.2.2, smx_c, c4.2.2.2, smx_c, b4.2.2.2, smx_c, hsc]) hold (fun j hj => by rw [smx_m, em5, em4, em3, em2, upd_ne (by omega), upd_ne (by omega), upd_ne (by omega), upd_ne (by omega), upd_ne (by omega)]) (fun hQ => by
      obtain ⟨⟨⟨⟨-, exy1, i, ei, hi⟩, exy2, k, ek, hk⟩, exy3, lo3, hi3⟩, exy4, lo4, hi4⟩ := hQ
      obtain ⟨pp, ep, -, hpp⟩ := in_nI (a := 0) (b := 99) lo3 hi3 (by decide) (by decide)
      obtain ⟨pg, eg, hg1, hg2⟩ := in_nI (a := 1) (b := 99) lo4 hi4 (by decide) (by decide)
      refine ⟨by rw [smx_m, em5, em4, em3, em2, upd_ne (by omega), upd_ne (by omega), upd_ne (by omega), upd_ne (by omega), upd_eq], Or.inl ⟨rfl, i, k, pp, pg, ei, hi, ek, hk, ep, by omega, eg, ⟨hg1, hg2⟩, ?_, ?_, ?_, ?_⟩⟩
      · rw [smx_m, em5, em4, em3, upd_ne (by omega), upd_ne (by omega), upd_ne (by omega), upd_eq, exy1]
      · rw [smx_m, em5, em4, upd_ne (by omega), upd_ne (by omega), upd_eq, exy2]
      · rw [smx_m, em5, upd_ne (by omega), upd_eq, exy3]
      · rw [smx_m, upd_eq, exy4])
    exact ⟨R', TS', v', t1, t2, (((b3.tr c3).tr d3).tr e3).tr t3, by rw [t4, smx_k, e4.1, smx_k, d4.1, smx_k, c4.1, smx_k, b4.1, smx_k], by rw [t5, smx_t, e4.2.1, smx_t, d4.2.1, smx_t, c4.2.1, smx_t, b4.2.1, smx_t], t6⟩
  · subst e
    unfold f_X8_readStatement
    rw [if_neg (show ¬ (1 : Int32) = 0 by decide), if_pos rfl, if_neg (show ¬ (1 : Int32) = 0 by decide), if_pos rfl]
    exact one (Or.inl rfl)
  · -- cancel
    subst e
    unfold f_X8_readStatement f_X9_parseHandle
    rw [if_neg (show ¬ (2 : Int32) = 0 by decide), if_neg (show ¬ (2 : Int32) = 1 by decide), if_pos rfl, if_neg (show ¬ (2 : Int32) = 0 by decide), if_neg (show ¬ (2 : Int32) = 1 by decide), if_pos rfl]
    obtain ⟨R2, v2, x1, y1, b1, b2, b3, b4, -, b5⟩ := number_st (v := MV_sSm w1 (upd (MVSm w1) (5 * n) 2)) 0 39 hP0
    rw [show f_X4_number (LrtuR (hs, R, TS, U)) 0 39 = _ from b1, bnd2_some, b2, bnd2_some, bnd2_some]
    have em2 : MVSm v2 = upd (MVSm w1) (5 * n) 2 := b4.2.2.1.trans smx_m
    obtain ⟨R', TS', v', t1, t2, t3, t4, t5, t6⟩ := tail_st (hs := hs) (U := U) (u := u) (k := 2) (a := x1) (b := -1) (c := -1) (d := -1) (s0 := MVSm w1) (TS := TS) (n := n) (w := MV_sSm v2 (upd (MVSm v2) (5 * n + 1) y1)) b5.sm hn hct (by rw [smx_c, b4.2.2.2, smx_c, hsc]) hold (fun j hj => by rw [smx_m, em2, upd_ne (by omega), upd_ne (by omega)]) (fun hQ => by
      obtain ⟨-, exy1, lo, hi⟩ := hQ
      obtain ⟨j, ej, -, hj⟩ := in_nI (a := 0) (b := 39) lo hi (by decide) (by decide)
      refine ⟨by rw [smx_m, em2, upd_ne (by omega), upd_eq], Or.inr (Or.inr (Or.inl ⟨rfl, j, ej, by omega, by rw [smx_m, upd_eq, exy1]⟩))⟩)
    exact ⟨R', TS', v', t1, t2, b3.tr t3, by rw [t4, smx_k, b4.1, smx_k], by rw [t5, smx_t, b4.2.1, smx_t], t6⟩
  · -- priority
    subst e
    unfold f_X8_readStatement f_X9_parseHandle
    rw [if_neg (show ¬ (3 : Int32) = 0 by decide), if_neg (show ¬ (3 : Int32) = 1 by decide), if_neg (show ¬ (3 : Int32) = 2 by decide), if_pos rfl, if_neg (show ¬ (3 : Int32) = 0 by decide), if_neg (show ¬ (3 : Int32) = 1 by decide), if_neg (show ¬ (3 : Int32) = 2 by decide), if_pos rfl]
    obtain ⟨R2, v2, x1, y1, b1, b2, b3, b4, -, b5⟩ := number_st (v := MV_sSm w1 (upd (MVSm w1) (5 * n) 3)) 0 39 hP0
    obtain ⟨R3, v3, x2, y2, c1, c2, c3, c4, -, c5⟩ := number_st (v := MV_sSm v2 (upd (MVSm v2) (5 * n + 1) y1)) 0 99 b5.sm
    rw [show f_X4_number (LrtuR (hs, R, TS, U)) 0 39 = _ from b1, bnd2_some, b2, bnd2_some, bnd2_some, c1, bnd2_some, c2, bnd2_some]
    have em2 : MVSm v2 = upd (MVSm w1) (5 * n) 3 := b4.2.2.1.trans smx_m
    have em3 : MVSm v3 = upd (MVSm v2) (5 * n + 1) y1 := c4.2.2.1.trans smx_m
    obtain ⟨R', TS', v', t1, t2, t3, t4, t5, t6⟩ := tail_st (hs := hs) (U := U) (u := u) (k := 3) (a := x1) (b := x2) (c := -1) (d := -1) (s0 := MVSm w1) (TS := TS) (n := n) (w := MV_sSm v3 (upd (MVSm v3) (5 * n + 2) y2)) c5.sm hn hct (by rw [smx_c, c4.2.2.2, smx_c, b4.2.2.2, smx_c, hsc]) hold (fun j hj => by rw [smx_m, em3, em2, upd_ne (by omega), upd_ne (by omega), upd_ne (by omega)]) (fun hQ => by
      obtain ⟨⟨-, exy1, lo, hi⟩, exy2, lo2, hi2⟩ := hQ
      obtain ⟨j, ej, -, hj⟩ := in_nI (a := 0) (b := 39) lo hi (by decide) (by decide)
      obtain ⟨pp, ep, -, hpp⟩ := in_nI (a := 0) (b := 99) lo2 hi2 (by decide) (by decide)
      refine ⟨by rw [smx_m, em3, em2, upd_ne (by omega), upd_ne (by omega), upd_eq], Or.inr (Or.inr (Or.inr (Or.inl ⟨rfl, j, pp, ej, by omega, ep, by omega, ?_, ?_⟩)))⟩
      · rw [smx_m, em3, upd_ne (by omega), upd_eq, exy1]
      · rw [smx_m, upd_eq, exy2])
    exact ⟨R', TS', v', t1, t2, (b3.tr c3).tr t3, by rw [t4, smx_k, c4.1, smx_k, b4.1, smx_k], by rw [t5, smx_t, c4.2.1, smx_t, b4.2.1, smx_t], t6⟩
  · -- move
    subst e
    unfold f_X8_readStatement f_X9_parseHandle
    rw [if_neg (show ¬ (4 : Int32) = 0 by decide), if_neg (show ¬ (4 : Int32) = 1 by decide), if_neg (show ¬ (4 : Int32) = 2 by decide), if_neg (show ¬ (4 : Int32) = 3 by decide), if_pos rfl, if_neg (show ¬ (4 : Int32) = 0 by decide), if_neg (show ¬ (4 : Int32) = 1 by decide), if_neg (show ¬ (4 : Int32) = 2 by decide), if_neg (show ¬ (4 : Int32) = 3 by decide), if_pos rfl]
    obtain ⟨R2, v2, x1, y1, b1, b2, b3, b4, -, b5⟩ := number_st (v := MV_sSm w1 (upd (MVSm w1) (5 * n) 4)) 0 39 hP0
    obtain ⟨R3, v3, x2, y2, c1, c2, c3, c4, c5⟩ := knownQ1_st (v := MV_sSm v2 (upd (MVSm v2) (5 * n + 1) y1)) hU.1 (by rw [smx_t, b4.2.1, smx_t]; exact hnq) b5.sm
    rw [show f_X4_number (LrtuR (hs, R, TS, U)) 0 39 = _ from b1, bnd2_some, b2, bnd2_some, bnd2_some, show f_X4_knownName (R2, UVQs (LrtuU (hs, R, TS, U))) = _ from c1, bnd2_some, c2, bnd2_some]
    have em2 : MVSm v2 = upd (MVSm w1) (5 * n) 4 := b4.2.2.1.trans smx_m
    have em3 : MVSm v3 = upd (MVSm v2) (5 * n + 1) y1 := c4.2.2.1.trans smx_m
    obtain ⟨R', TS', v', t1, t2, t3, t4, t5, t6⟩ := tail_st (hs := hs) (U := U) (u := u) (k := 4) (a := x1) (b := x2) (c := -1) (d := -1) (s0 := MVSm w1) (TS := TS) (n := n) (w := MV_sSm v3 (upd (MVSm v3) (5 * n + 2) y2)) c5.sm hn hct (by rw [smx_c, c4.2.2.2, smx_c, b4.2.2.2, smx_c, hsc]) hold (fun j hj => by rw [smx_m, em3, em2, upd_ne (by omega), upd_ne (by omega), upd_ne (by omega)]) (fun hQ => by
      obtain ⟨⟨-, exy1, lo, hi⟩, exy2, i, ei, hi2⟩ := hQ
      obtain ⟨j, ej, -, hj⟩ := in_nI (a := 0) (b := 39) lo hi (by decide) (by decide)
      refine ⟨by rw [smx_m, em3, em2, upd_ne (by omega), upd_ne (by omega), upd_eq], Or.inr (Or.inr (Or.inr (Or.inr (Or.inl ⟨rfl, j, i, ej, by omega, ei, hi2, ?_, ?_⟩))))⟩
      · rw [smx_m, em3, upd_ne (by omega), upd_eq, exy1]
      · rw [smx_m, upd_eq, exy2])
    exact ⟨R', TS', v', t1, t2, (b3.tr c3).tr t3, by rw [t4, smx_k, c4.1, smx_k, b4.1, smx_k], by rw [t5, smx_t, c4.2.1, smx_t, b4.2.1, smx_t], t6⟩
  · -- merge
    subst e
    unfold f_X8_readStatement
    rw [if_neg (show ¬ (5 : Int32) = 0 by decide), if_neg (show ¬ (5 : Int32) = 1 by decide), if_neg (show ¬ (5 : Int32) = 2 by decide), if_neg (show ¬ (5 : Int32) = 3 by decide), if_neg (show ¬ (5 : Int32) = 4 by decide), if_pos rfl, if_neg (show ¬ (5 : Int32) = 0 by decide), if_neg (show ¬ (5 : Int32) = 1 by decide), if_neg (show ¬ (5 : Int32) = 2 by decide), if_neg (show ¬ (5 : Int32) = 3 by decide), if_neg (show ¬ (5 : Int32) = 4 by decide), if_pos rfl]
    obtain ⟨R2, v2, x1, y1, b1, b2, b3, b4, b5⟩ := knownQ1_st (v := MV_sSm w1 (upd (MVSm w1) (5 * n) 5)) hU.1 (by rw [smx_t]; exact hnq) hP0
    have hex : ∀ (x y : Int32), (True ∧ x = y ∧ ∃ i, x = nI i ∧ i < uQ u) → y = -1 ∨ ∃ i, y = nI i ∧ i < uQ u := fun x y h => Or.inr (by
      obtain ⟨-, e, i, ei, hi⟩ := h
      exact ⟨i, by rw [← e]; exact ei, hi⟩)
    obtain ⟨R3, R3', v3, x2, y2, c1, -, c2, c3, c4, c5, c6⟩ := knownQ_st (nt := y1) (v := MV_sSm v2 (upd (MVSm v2) (5 * n + 1) y1)) hU.1 (by rw [smx_t, b4.2.1, smx_t]; exact hnq) b5.sm (hex x1 y1)
    have em2 : MVSm v2 = upd (MVSm w1) (5 * n) 5 := b4.2.2.1.trans smx_m
    have em3 : MVSm v3 = upd (MVSm v2) (5 * n + 1) y1 := c5.2.2.1.trans smx_m
    obtain ⟨R', TS', v', t1, t2, t3, t4, t5, t6⟩ := tail_st (hs := hs) (U := U) (u := u) (k := 5) (a := x1) (b := x2) (c := -1) (d := -1) (s0 := MVSm w1) (TS := TS) (n := n) (w := MV_sSm v3 (upd (MVSm v3) (5 * n + 2) y2)) c6.sm hn hct (by rw [smx_c, c5.2.2.2, smx_c, b4.2.2.2, smx_c, hsc]) hold (fun j hj => by rw [smx_m, em3, em2, upd_ne (by omega), upd_ne (by omega), upd_ne (by omega)]) (fun hQ => by
      obtain ⟨⟨-, exy1, i, ei, hi⟩, exy2, hne, i2, ei2, hi2⟩ := hQ
      refine ⟨by rw [smx_m, em3, em2, upd_ne (by omega), upd_ne (by omega), upd_eq], Or.inr (Or.inr (Or.inr (Or.inr (Or.inr ⟨rfl, i, i2, ei, hi, ei2, hi2, fun e => hne (by rw [ei2, ← e, ← ei, exy1]), ?_, ?_⟩))))⟩
      · rw [smx_m, em3, upd_ne (by omega), upd_eq, exy1]
      · rw [smx_m, upd_eq, exy2])
    rw [show f_X4_knownName (LrtuR (hs, R, TS, U), UVQs (LrtuU (hs, R, TS, U))) = _ from b1, bnd2_some, b2, bnd2_some, show f_X4_knownName (P_RV_NVA (R2, UVQs U), P_RV_NVB (R2, UVQs U)) = _ from c1, bnd2_some, upd_eq, c3, bnd2_some]
    have sR3 : SR R2 R3' := c4
    refine ⟨R', TS', v', ?_, t2, (b3.tr c4).tr t3, by rw [t4, smx_k, c5.1, smx_k, b4.1, smx_k], by rw [t5, smx_t, c5.2.1, smx_t, b4.2.1, smx_t], t6⟩
    -- the class looks at both names once more
    by_cases ex : x1 = x2
    · rw [if_pos ex]
      have cf : f_X4_fail R3 3 = some ((), R3') := by
        by_cases e9 : x2 = y1
        · rw [if_pos e9] at c2
          exact c2
        · rw [if_neg e9] at c2
          have er : R3 = R3' := (Prod.mk.inj (Option.some.inj c2)).2
          rcases c6 with ⟨⟨⟨-, exy1, -⟩, -⟩, -⟩ | ⟨k, o, pe⟩
          · exact absurd (ex.symm.trans exy1) e9
          · rw [er]
            exact fail_er pe.c
      rw [show f_X4_fail (P_RV_NVA (R3, UVQs U)) 3 = _ from cf, bnd2_some]
      exact t1
    · rw [if_neg ex]
      have cf : R3 = R3' := by
        by_cases e9 : x2 = y1
        · rw [if_pos e9] at c2
          rcases b5 with ⟨⟨-, exy1, -⟩, -⟩ | ⟨k, o, pe⟩
          · exact absurd (exy1.trans e9.symm) ex
          · have hc1 := c1
            rw [known_er pe.c] at hc1
            have e3 : R2 = R3 := congrArg (fun z : P_RV_NV => P_RV_NVA z) (Prod.mk.inj (Option.some.inj hc1)).2
            rw [← e3, fail_er pe.c] at c2
            rw [← e3]
            exact (Prod.mk.inj (Option.some.inj c2)).2
        · rw [if_neg e9] at c2
          exact (Prod.mk.inj (Option.some.inj c2)).2
      rw [cf]
      exact t1
  · subst e
    unfold f_X8_readStatement
    rw [if_neg (show ¬ (6 : Int32) = 0 by decide), if_neg (show ¬ (6 : Int32) = 1 by decide), if_neg (show ¬ (6 : Int32) = 2 by decide), if_neg (show ¬ (6 : Int32) = 3 by decide), if_neg (show ¬ (6 : Int32) = 4 by decide), if_neg (show ¬ (6 : Int32) = 5 by decide), if_neg (show ¬ (6 : Int32) = 0 by decide), if_neg (show ¬ (6 : Int32) = 1 by decide), if_neg (show ¬ (6 : Int32) = 2 by decide), if_neg (show ¬ (6 : Int32) = 3 by decide), if_neg (show ¬ (6 : Int32) = 4 by decide), if_neg (show ¬ (6 : Int32) = 5 by decide)]
    exact one (Or.inr (Or.inl rfl))
  · subst e
    unfold f_X8_readStatement
    rw [if_neg (show ¬ (7 : Int32) = 0 by decide), if_neg (show ¬ (7 : Int32) = 1 by decide), if_neg (show ¬ (7 : Int32) = 2 by decide), if_neg (show ¬ (7 : Int32) = 3 by decide), if_neg (show ¬ (7 : Int32) = 4 by decide), if_neg (show ¬ (7 : Int32) = 5 by decide), if_neg (show ¬ (7 : Int32) = 0 by decide), if_neg (show ¬ (7 : Int32) = 1 by decide), if_neg (show ¬ (7 : Int32) = 2 by decide), if_neg (show ¬ (7 : Int32) = 3 by decide), if_neg (show ¬ (7 : Int32) = 4 by decide), if_neg (show ¬ (7 : Int32) = 5 by decide)]
    exact one (Or.inr (Or.inr rfl))
