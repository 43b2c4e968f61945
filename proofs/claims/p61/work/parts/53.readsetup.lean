/-! ===== 53: a setup is read, on both sides ===== -/
theorem num_er {k o : Nat} {R : RV} {v : MV} {lo hi : Int32} (h : PE k o R v) : f_X4_number R lo hi = some (-1, R) ∧ f_X9_parseNumber v lo hi = some (lo, v) := by
  constructor
  · unfold f_X4_number
    rw [readToken_er h.c, bnd2_some, acc_er h.c, bnd2_some, if_pos rfl]
  · unfold f_X9_parseNumber f_X9_parseNumber_j14 f_X9_parseNumber_j50
    rw [expect_er h.r, bnd2_some, expect_er h.r, bnd2_some, within_ok, Option.bind_some, expect_er h.r, bnd2_some, if_neg h.r, advance_er h.r2, bnd2_some]
    split <;> rfl
theorem semi_er {k o : Nat} {R : RV} {v : MV} (h : PE k o R v) : f_X4_semicolon R = some ((), R) ∧ f_X9_parseSemicolon v = some ((), v) := by
  constructor
  · unfold f_X4_semicolon
    rw [readToken_er h.c, bnd2_some, acc_er h.c, bnd2_some]
  · unfold f_X9_parseSemicolon
    rw [expect_er h.r, bnd2_some, expect_er h.r, bnd2_some, advance_er h.r2, bnd2_some]
    split <;> rfl
theorem new_er {R : RV} {N : NV} (h : ¬ RVEk R = 0) : f_X4_newName (R, N) = some (RVWd R, (R, N)) := by
  unfold f_X4_newName
  rw [show f_X4_readToken (P_RV_NVA (R, N)) = some ((), R) from readToken_er h, bnd2_some, acc_er h, bnd2_some, if_pos rfl]
  rfl
theorem known_er {R : RV} {N : NV} (h : ¬ RVEk R = 0) : f_X4_knownName (R, N) = some (-1, (R, N)) := by
  unfold f_X4_knownName
  rw [show f_X4_readToken (P_RV_NVA (R, N)) = some ((), R) from readToken_er h, bnd2_some, acc_er h, bnd2_some, if_pos rfl]
  rfl
theorem in_nI {x : Int32} {a b : Nat} (h1 : nI a ≤ x) (h2 : x ≤ nI b) (ha : a ≤ b) (hb : b < 1000) : ∃ s, x = nI s ∧ a ≤ s ∧ s ≤ b := by
  rw [Int32.le_iff_toInt_le, nI_toInt (by omega)] at h1 h2
  have e : x = nI x.toInt.toNat := by
    apply Int32.toInt_inj.mp
    rw [nI_toInt (by omega)]
    omega
  exact ⟨x.toInt.toNat, e, by omega, by omega⟩
/-- a statement of the setup has been read -/
def DONE (T : List Nat) (q : Nat) (R : RV) (v : MV) (D : UV) (C : SV) : Prop := (∃ u g p, q ≤ p ∧ PR T p R v ∧ BU u g D C (MVSt v)) ∨ ∃ k o, PE k o R v
theorem scr_of {u : GU} {g : GS} {D : UV} {C : SV} {st : Nat → Int32} (h : BU u g D C st) : SCR C := h.2.2.2.2.1.2.2.1
/-- 'queue' -/
theorem readQueue_ok {T : List Nat} {p : Nat} {hs : Int32} {R : RV} {v : MV} {u : GU} {g : GS} {D : UV} {C : SV} (m1 : MID T p R v) (hc : tC T p = 1) (hB : BU u g D C (MVSt v)) :
    ∃ R' D' v', f_X8_readQueue (hs, R, D) = some ((), (hs, R', D')) ∧ (bnd2 (f_X9_parseQueue v) fun _ w => f_X9_parsePart_j54 w) = some ((), v') ∧ SR R R' ∧ kp v' = kp v ∧ DONE T (tE T p) R' v' D' C := by
  have f0 : MVFa v = 0 := m1.2.2.2.2.2.2.2.2.2.2.2.1
  have k0 : RVEk R = 0 := m1.2.2.2.2.1
  have hU := hB.2.2.2.1
  have hM := hB.2.2.2.2.2.1
  have hQ6 := hB.1.1
  unfold f_X8_readQueue f_X9_parseQueue f_X9_parseQueue_j17
  simp only [if_neg o0, cl0]
  rw [hM.1.1, show NVCt (UVQs (LrdD (hs, R, D))) = nI (uQ u) from hU.1.1]
  by_cases hq : uQ u < 6
  · rw [if_pos (show nI (uQ u) < 6 from nI_lt (b := 6) hq (by decide)), if_neg (show ¬ (6 : Int32) ≤ nI (uQ u) from nI_ge (b := 6) hq (by decide)), expect_1, bnd2_some]
    obtain ⟨v1, a1, a2, a3, -⟩ := adv_mid m1 (by omega)
    rw [a1, bnd2_some]
    obtain ⟨R2, v2, w, n1, n2, n3, n4, n5⟩ := newName_st (q := tE T p) (Q := True) hU.1 (by omega) (fun i hi => (hB.1.2.2.1 i hi).2) (Or.inl ⟨trivial, _, Nat.le_refl _, a3⟩)
    have hst2 : MVSt v2 = MVSt v := (a2.tr n4).2.1
    have hkp2 : kp v2 = kp v := (a2.tr n4).1
    rw [show f_X4_newName (LrdR (hs, R, D), UVQs (LrdD (hs, R, D))) = _ from n1, bnd2_some, n2, bnd2_some]
    have tail : ∀ {k o : Nat} {w3 : MV}, PE k o R2 w3 → kp w3 = kp v → ∃ R' D' v', (bnd2 (f_X4_number (P_RV_NVA (R2, UVQs D)) 1 50) fun r6 w7 => bnd2 (f_X4_semicolon w7) fun r9 w10 => (f_X4_isValid w10).bind fun r12 => if r12 = 0 then some ((), (Lrd_sD (Lrd_sR (hs, R, D) w10) (UV_sQs (LrdD (hs, R, D)) (P_RV_NVB (R2, UVQs D))))) else bnd2 (f_X6_addQueue (UV_sQs (LrdD (hs, R, D)) (P_RV_NVB (R2, UVQs D))) w r6) fun r16 w17 => some ((), (Lrd_sD (Lrd_sR (hs, R, D) w10) w17))) = some ((), (hs, R', D')) ∧ (bnd2 (bnd2 (f_X9_advanceToken w3) fun r17 w18 => bnd2 (f_X9_parseNumber w18 1 50) fun r20 w21 => if MVFa w21 = 0 then bnd2 (f_X9_addQueue w21 r20) fun r24 w25 => some ((), w25) else some ((), w21)) fun _ w => f_X9_parsePart_j54 w) = some ((), v') ∧ SR R R' ∧ kp v' = kp v ∧ DONE T (tE T p) R' v' D' C := by
      intro k o w3 pe hk
      refine ⟨R2, D, w3, ?_, ?_, n3, hk, Or.inr ⟨k, o, pe⟩⟩
      · rw [show f_X4_number (P_RV_NVA (R2, UVQs D)) 1 50 = _ from (num_er pe).1, bnd2_some, (semi_er pe).1, bnd2_some, valid_er pe.c, Option.bind_some, if_pos rfl]
        rfl
      · rw [advance_er pe.r2, bnd2_some, (num_er pe).2, bnd2_some, if_neg pe.r, bnd2_some]
        unfold f_X9_parsePart_j54
        rw [(semi_er pe).2, bnd2_some]
    rcases n5 with ⟨p2, l, -, hp2, hl, hS, hf, ⟨fm, hw, m2, hc2⟩ | ⟨i, fm, hi, o, pe⟩⟩ | ⟨k, o, pe⟩
    · obtain ⟨r', q1, q2⟩ := spelledQueue_ok (v := v2) (f := uN u) (n := uQ u) (by rw [hst2]; exact hM.1.1) hQ6 hS hl (fun i hi => by rw [hst2]; exact hB.nq.2.2 i hi)
      have er : r' = -1 := FM_u q2 fm
      subst er
      obtain ⟨v3, b1, b2, b3, b4⟩ := adv_mid m2 (by omega)
      rw [hf, if_neg (by decide), q1, Option.bind_some, if_pos rfl]
      unfold f_X9_parseQueue_j45 f_X9_parseQueue_j50
      rw [expect_1, bnd2_some, b1, bnd2_some]
      obtain ⟨R3, v4, x, y, c1, c2, c3, c4, c5, c6'⟩ := number_st (q := tE T p) (Q := True) 1 50 (Or.inl ⟨trivial, _, Nat.le_trans hp2 (Nat.le_trans (tS_ge m2.2.1) (tE_ge m2.2.1)), b3⟩)
      rw [show f_X4_number (P_RV_NVA (R2, UVQs D)) 1 50 = _ from c1, bnd2_some, c2, bnd2_some]
      have hst4 : MVSt v4 = MVSt v := ((b2.tr c4).2.1).trans hst2
      have hkp4 : kp v4 = kp v := ((b2.tr c4).1).trans hkp2
      rcases c6' with ⟨⟨-, exy, hlo, hhi⟩, p3, hp3, pr3⟩ | ⟨k, o, pe⟩
      · subst exy
        obtain ⟨s, es, hs1, hs2⟩ := in_nI (a := 1) (b := 50) hlo hhi (by decide) (by decide)
        subst es
        have hS4 : SPL l v4 := by
          obtain ⟨s1, s2⟩ := hS
          refine ⟨?_, fun j c hj => ?_⟩
          · rw [c5.2, b4.2]; exact s1
          · rw [c5.1, b4.1]; exact s2 j c hj
        obtain ⟨D', st', d1, d2, d3⟩ := BU.addQ (v := v4) (by rw [hst4]; exact hB) hq hl hS4 ⟨hs1, hs2⟩
        have fa4 : MVFa v4 = 0 := pr3.2.2.2.2.2.2.2.2.2.1
        rw [if_pos fa4, d2, bnd2_some]
        obtain ⟨R4, v5, e1, e2, e3, e4, e5⟩ := semi_st (T := T) (q := tE T p) (R := R3) (v := MV_sSt v4 st') (Q := True) (Or.inl ⟨trivial, p3, hp3, pr3⟩)
        unfold f_X9_parsePart_j54
        rw [e1, bnd2_some, bnd2_some, e2, bnd2_some]
        rcases e5 with ⟨-, p4, hp4, pr4⟩ | ⟨k, o, pe⟩
        · have ek : RVEk R4 = 0 := pr4.2.2.2.2.1
          rw [valid_0 ek, Option.bind_some, if_neg n10, show f_X6_addQueue (UV_sQs (LrdD (hs, R, D)) (P_RV_NVB (R2, UVQs D))) w (nI s) = some ((), D') from by rw [hw]; exact d1, bnd2_some]
          refine ⟨R4, D', v5, rfl, rfl, n3.tr (c3.tr e3), e4.1.trans hkp4, Or.inl ⟨uAq u s l, g, p4, hp4, pr4, ?_⟩⟩
          rw [e4.2.1]
          exact d3
        · rw [valid_er pe.c, Option.bind_some, if_pos rfl]
          exact ⟨R4, D, v5, rfl, rfl, n3.tr (c3.tr e3), e4.1.trans hkp4, Or.inr ⟨k, o, pe⟩⟩
      · unfold f_X9_parsePart_j54
        rw [if_neg pe.r, bnd2_some, (semi_er pe).1, bnd2_some, valid_er pe.c, Option.bind_some, if_pos rfl, (semi_er pe).2, bnd2_some]
        exact ⟨R3, D, v4, rfl, rfl, n3.tr c3, hkp4, Or.inr ⟨k, o, pe⟩⟩
    · obtain ⟨r', q1, q2⟩ := spelledQueue_ok (v := v2) (f := uN u) (n := uQ u) (by rw [hst2]; exact hM.1.1) hQ6 hS hl (fun i hi => by rw [hst2]; exact hB.nq.2.2 i hi)
      have er : r' = nI i := FM_u q2 fm
      subst er
      rw [hf, if_neg (by decide), q1, Option.bind_some, if_neg (nI_m (by omega))]
      unfold f_X9_parseQueue_j50
      rw [show f_X9_expect v2 0 3 = _ from expect_0 hf, bnd2_some]
      exact tail pe ((SV'.vp (v := v2)).1.trans hkp2)
    · rw [if_pos pe.r3]
      unfold f_X9_parseQueue_j45 f_X9_parseQueue_j50
      rw [expect_1, bnd2_some]
      exact tail pe hkp2
  · have hpe : PE 4 (tS T p) (rf R 4 (RVAt R)) (vx v 4) := m1.pe (k := 4) (by decide) (by decide)
    have hp2 := hpe.sl
    rw [if_neg (show ¬ nI (uQ u) < 6 from nI_nlt (b := 6) (by omega) (by omega)), if_pos (show (6 : Int32) ≤ nI (uQ u) from nI_le (a := 6) (by omega) (by omega)), show f_X4_fail (LrdR (hs, R, D)) 4 = some ((), rf R 4 (RVAt R)) from fail_0 k0, bnd2_some, show f_X4_newName (rf R 4 (RVAt R), UVQs (LrdD (hs, R, D))) = some (RVWd R, (rf R 4 (RVAt R), UVQs D)) from new_er hpe.c, bnd2_some, show f_X4_number (P_RV_NVA (rf R 4 (RVAt R), UVQs D)) 1 50 = some (-1, rf R 4 (RVAt R)) from (num_er hpe).1, bnd2_some, show f_X4_semicolon (rf R 4 (RVAt R)) = _ from (semi_er hpe).1, bnd2_some, valid_er hpe.c, Option.bind_some, if_pos rfl]
    rw [show f_X9_expect v 0 4 = _ from expect_0 f0, bnd2_some, show f_X9_advanceToken (vx v 4) = _ from advance_er hpe.r2, bnd2_some, show f_X9_spellName (vx v 4) = _ from spell_er hpe, bnd2_some, if_pos (show 0 < MVFa (MV_sSl (vx v 4) 0) from hp2.r3)]
    unfold f_X9_parseQueue_j45 f_X9_parseQueue_j50
    rw [expect_1, bnd2_some, show f_X9_advanceToken (MV_sSl (vx v 4) 0) = _ from advance_er hp2.r2, bnd2_some, show f_X9_parseNumber (MV_sSl (vx v 4) 0) 1 50 = _ from (num_er hp2).2, bnd2_some, if_neg (show ¬ MVFa (MV_sSl (vx v 4) 0) = 0 from hp2.r), bnd2_some]
    unfold f_X9_parsePart_j54
    rw [show f_X9_parseSemicolon (MV_sSl (vx v 4) 0) = _ from (semi_er hp2).2, bnd2_some]
    exact ⟨rf R 4 (RVAt R), D, _, rfl, rfl, ⟨rfl, rfl, rfl⟩, rfl, Or.inr ⟨4, _, hp2⟩⟩
/-- 'owner' -/
theorem readOwner_ok {T : List Nat} {p : Nat} {hs : Int32} {R : RV} {v : MV} {u : GU} {g : GS} {D : UV} {C : SV} (m1 : MID T p R v) (hc : tC T p = 1) (hB : BU u g D C (MVSt v)) :
    ∃ R' D' v', f_X8_readOwner (hs, R, D) = some ((), (hs, R', D')) ∧ (bnd2 (f_X9_parseOwner v) fun _ w => f_X9_parsePart_j54 w) = some ((), v') ∧ SR R R' ∧ kp v' = kp v ∧ DONE T (tE T p) R' v' D' C := by
  have f0 : MVFa v = 0 := m1.2.2.2.2.2.2.2.2.2.2.2.1
  have k0 : RVEk R = 0 := m1.2.2.2.2.1
  have hU := hB.2.2.2.1
  have hM := hB.2.2.2.2.2.1
  have hO8 := hB.1.2.1
  unfold f_X8_readOwner f_X9_parseOwner f_X9_parseOwner_j17
  simp only [if_neg (show ¬ oob 1 500 by decide), show Int32.toNatClampNeg 1 = 1 from by decide]
  rw [hM.1.2.1, show NVCt (UVOs (LrdD (hs, R, D))) = nI (uO u) from hU.2.1.1]
  by_cases hq : uO u < 8
  · rw [if_pos (show nI (uO u) < 8 from nI_lt (b := 8) hq (by decide)), if_neg (show ¬ (8 : Int32) ≤ nI (uO u) from nI_ge (b := 8) hq (by decide)), expect_1, bnd2_some]
    obtain ⟨v1, a1, a2, a3, -⟩ := adv_mid m1 (by omega)
    rw [a1, bnd2_some]
    obtain ⟨R2, v2, w, n1, n2, n3, n4, n5⟩ := newName_st (q := tE T p) (Q := True) hU.2.1 (by omega) (fun i hi => hB.1.2.2.2 i hi) (Or.inl ⟨trivial, _, Nat.le_refl _, a3⟩)
    have hst2 : MVSt v2 = MVSt v := (a2.tr n4).2.1
    have hkp2 : kp v2 = kp v := (a2.tr n4).1
    rw [show f_X4_newName (LrdR (hs, R, D), UVOs (LrdD (hs, R, D))) = _ from n1, bnd2_some, n2, bnd2_some]
    have tail : ∀ {k o : Nat} {w3 : MV}, PE k o R2 w3 → kp w3 = kp v → ∃ R' D' v', (bnd2 (f_X4_semicolon (P_RV_NVA (R2, UVOs D))) fun r6 w7 => (f_X4_isValid w7).bind fun r9 => if r9 = 0 then some ((), (Lrd_sD (Lrd_sR (hs, R, D) w7) (UV_sOs (LrdD (hs, R, D)) (P_RV_NVB (R2, UVOs D))))) else bnd2 (f_X2_add (P_RV_NVB (R2, UVOs D)) w) fun r13 w14 => some ((), (Lrd_sD (Lrd_sR (hs, R, D) w7) (UV_sOs (LrdD (hs, R, D)) w14)))) = some ((), (hs, R', D')) ∧ (bnd2 (if MVFa w3 = 0 then bnd2 (f_X9_addOwner w3) fun r21 w22 => f_X9_parseOwner_j65 w22 else f_X9_parseOwner_j65 w3) fun _ w => f_X9_parsePart_j54 w) = some ((), v') ∧ SR R R' ∧ kp v' = kp v ∧ DONE T (tE T p) R' v' D' C := by
      intro k o w3 pe hk
      refine ⟨R2, D, w3, ?_, ?_, n3, hk, Or.inr ⟨k, o, pe⟩⟩
      · rw [show f_X4_semicolon (P_RV_NVA (R2, UVOs D)) = _ from (semi_er pe).1, bnd2_some, valid_er pe.c, Option.bind_some, if_pos rfl]
        rfl
      · unfold f_X9_parseOwner_j65
        rw [if_neg pe.r, advance_er pe.r2, bnd2_some, bnd2_some]
        unfold f_X9_parsePart_j54
        rw [(semi_er pe).2, bnd2_some]
    rcases n5 with ⟨p2, l, -, hp2, hl, hS, hf, ⟨fm, hw, m2, hc2⟩ | ⟨i, fm, hi, o, pe⟩⟩ | ⟨k, o, pe⟩
    · obtain ⟨r', q1, q2⟩ := spelledOwner_ok (v := v2) (f := uM u) (n := uO u) (by rw [hst2]; exact hM.1.2.1) hO8 hS hl (fun i hi => by rw [hst2]; exact hB.no.2.2 i hi)
      have er : r' = -1 := FM_u q2 fm
      subst er
      obtain ⟨N', st', d1, d2, d3⟩ := BU.addO (v := v2) (by rw [hst2]; exact hB) hq hl hS
      obtain ⟨v3, b1, b2, b3, b4⟩ := adv_mid (v := MV_sSt v2 st') (T := T) (p := p2) (R := R2) m2 (by omega)
      rw [hf, if_neg (by decide), q1, Option.bind_some, if_pos rfl]
      unfold f_X9_parseOwner_j45 f_X9_parseOwner_j50 f_X9_parseOwner_j65
      rw [expect_1, bnd2_some, if_pos hf, d2, bnd2_some, b1, bnd2_some, bnd2_some]
      obtain ⟨R4, v5, e1, e2, e3, e4, e5⟩ := semi_st (T := T) (q := tE T p) (R := R2) (v := v3) (Q := True) (Or.inl ⟨trivial, _, Nat.le_trans hp2 (Nat.le_trans (tS_ge m2.2.1) (tE_ge m2.2.1)), b3⟩)
      have hkp5 : kp v5 = kp v := ((b2.tr e4).1).trans hkp2
      unfold f_X9_parsePart_j54
      rw [show f_X4_semicolon (P_RV_NVA (R2, UVOs D)) = _ from e1, bnd2_some, e2, bnd2_some]
      rcases e5 with ⟨-, p4, hp4, pr4⟩ | ⟨k, o, pe⟩
      · have ek : RVEk R4 = 0 := pr4.2.2.2.2.1
        rw [valid_0 ek, Option.bind_some, if_neg n10, show f_X2_add (P_RV_NVB (R2, UVOs D)) w = some ((), N') from by rw [hw]; exact d1, bnd2_some]
        refine ⟨R4, UV_sOs D N', v5, rfl, rfl, n3.tr e3, hkp5, Or.inl ⟨uAo u l, g, p4, hp4, pr4, ?_⟩⟩
        rw [(b2.tr e4).2.1]
        exact d3
      · rw [valid_er pe.c, Option.bind_some, if_pos rfl]
        exact ⟨R4, D, v5, rfl, rfl, n3.tr e3, hkp5, Or.inr ⟨k, o, pe⟩⟩
    · obtain ⟨r', q1, q2⟩ := spelledOwner_ok (v := v2) (f := uM u) (n := uO u) (by rw [hst2]; exact hM.1.2.1) hO8 hS hl (fun i hi => by rw [hst2]; exact hB.no.2.2 i hi)
      have er : r' = nI i := FM_u q2 fm
      subst er
      rw [hf, if_neg (by decide), q1, Option.bind_some, if_neg (nI_m (by omega))]
      unfold f_X9_parseOwner_j50
      rw [show f_X9_expect v2 0 3 = _ from expect_0 hf, bnd2_some]
      exact tail pe ((SV'.vp (v := v2)).1.trans hkp2)
    · rw [if_pos pe.r3]
      unfold f_X9_parseOwner_j45 f_X9_parseOwner_j50
      rw [expect_1, bnd2_some]
      exact tail pe hkp2
  · have hpe : PE 4 (tS T p) (rf R 4 (RVAt R)) (vx v 4) := m1.pe (k := 4) (by decide) (by decide)
    have hp2 := hpe.sl
    rw [if_neg (show ¬ nI (uO u) < 8 from nI_nlt (b := 8) (by omega) (by omega)), if_pos (show (8 : Int32) ≤ nI (uO u) from nI_le (a := 8) (by omega) (by omega)), show f_X4_fail (LrdR (hs, R, D)) 4 = some ((), rf R 4 (RVAt R)) from fail_0 k0, bnd2_some, show f_X4_newName (rf R 4 (RVAt R), UVOs (LrdD (hs, R, D))) = some (RVWd R, (rf R 4 (RVAt R), UVOs D)) from new_er hpe.c, bnd2_some, show f_X4_semicolon (P_RV_NVA (rf R 4 (RVAt R), UVOs D)) = some ((), rf R 4 (RVAt R)) from (semi_er hpe).1, bnd2_some, valid_er hpe.c, Option.bind_some, if_pos rfl]
    rw [show f_X9_expect v 0 4 = _ from expect_0 f0, bnd2_some, show f_X9_advanceToken (vx v 4) = _ from advance_er hpe.r2, bnd2_some, show f_X9_spellName (vx v 4) = _ from spell_er hpe, bnd2_some, if_pos (show 0 < MVFa (MV_sSl (vx v 4) 0) from hp2.r3)]
    unfold f_X9_parseOwner_j45 f_X9_parseOwner_j50 f_X9_parseOwner_j65
    rw [expect_1, bnd2_some, if_neg (show ¬ MVFa (MV_sSl (vx v 4) 0) = 0 from hp2.r), show f_X9_advanceToken (MV_sSl (vx v 4) 0) = _ from advance_er hp2.r2, bnd2_some, bnd2_some]
    unfold f_X9_parsePart_j54
    rw [show f_X9_parseSemicolon (MV_sSl (vx v 4) 0) = _ from (semi_er hp2).2, bnd2_some]
    exact ⟨rf R 4 (RVAt R), D, _, rfl, rfl, ⟨rfl, rfl, rfl⟩, rfl, Or.inr ⟨4, _, hp2⟩⟩
/-- 'job' -/
theorem readJob_ok {T : List Nat} {p : Nat} {hs : Int32} {R : RV} {v : MV} {u : GU} {g : GS} {D : UV} {C : SV} (m1 : MID T p R v) (hc : tC T p = 1) (hB : BU u g D C (MVSt v)) :
    ∃ R' C' v', f_X8_readJob (hs, R, C, D) = some ((), (hs, R', C', D)) ∧ (bnd2 (f_X9_parseJob v) fun _ w => f_X9_parsePart_j54 w) = some ((), v') ∧ SR R R' ∧ kp v' = kp v ∧ SCR C' ∧ DONE T (tE T p) R' v' D C' := by
  have f0 : MVFa v = 0 := m1.2.2.2.2.2.2.2.2.2.2.2.1
  have k0 : RVEk R = 0 := m1.2.2.2.2.1
  have hU := hB.2.2.2.1
  have hC := hB.2.2.2.2.1
  have hM := hB.2.2.2.2.2.1
  have hJ := hB.2.1.1
  unfold f_X8_readJob f_X9_parseJob f_X9_parseJob_j17
  simp only [if_neg o2, cl2]
  rw [hM.1.2.2, show f_X7_isFull (LrcdC (hs, R, C, D)) = _ from isFull_ok hC hJ, Option.bind_some]
  by_cases hj : aJ g < 40
  · rw [if_pos hj, if_pos rfl, if_neg (show ¬ (40 : Int32) ≤ nI (aJ g) from nI_ge (b := 40) hj (by decide)), expect_1, bnd2_some]
    obtain ⟨v1, a1, a2, a3, -⟩ := adv_mid m1 (by omega)
    rw [a1, bnd2_some]
    unfold f_X8_readJob_j18
    have q1 := hB.nq
    have q2 := hB.no
    obtain ⟨R2, v2, x1, y1, b1, b2, b3, b4, b5⟩ := knownQ1_st (T := T) (q := tE T p) (Q := True) hU.1 (v := v1) (R := R) (by rw [a2.2.1]; exact q1) (Or.inl ⟨trivial, _, Nat.le_refl _, a3⟩)
    obtain ⟨R3, v3, x2, y2, c1, c2, c3, c4, c5⟩ := knownO_st hU.2.1 (by rw [(a2.tr b4).2.1]; exact q2) b5
    obtain ⟨R4, v4, x3, y3, d1, d2, d3, d4, -, d5⟩ := number_st 0 99 c5
    obtain ⟨R5, v5, x4, y4, e1, e2, e3, e4, -, e5⟩ := number_st 1 99 d5
    have s5 := (((a2.tr b4).tr c4).tr d4).tr e4
    rw [show f_X4_knownName (LrcdR (hs, R, C, D), UVQs (LrcdD (hs, R, C, D))) = _ from b1, bnd2_some, b2, bnd2_some]
    rw [show f_X4_knownName (P_RV_NVA (R2, UVQs D), UVOs (LrcdD (hs, R, C, D))) = _ from c1, bnd2_some, c2, bnd2_some]
    rw [show f_X4_number (P_RV_NVA (R3, UVOs D)) 0 99 = _ from d1, bnd2_some, d2, bnd2_some, e1, bnd2_some, e2, bnd2_some]
    have sR := ((b3.tr c3).tr d3).tr e3
    rcases e5 with ⟨⟨⟨⟨⟨-, exy1, i, ei, hi⟩, exy2, k, ek, hk⟩, exy3, lo3, hi3⟩, exy4, lo4, hi4⟩, p5, hp5, pr5⟩ | ⟨k, o, pe⟩
    · subst exy1; subst exy2; subst exy3; subst exy4; subst ei; subst ek
      obtain ⟨pp, ep, -, hpp⟩ := in_nI (a := 0) (b := 99) lo3 hi3 (by decide) (by decide)
      obtain ⟨pg, eg, hg1, hg2⟩ := in_nI (a := 1) (b := 99) lo4 hi4 (by decide) (by decide)
      subst ep; subst eg
      obtain ⟨C', st', f1, f2, f3⟩ := BU.addJ (v := v5) (q := i) (p := pp) (n := pg) (o := nI k) (by rw [s5.2.1]; exact hB) hj hi (by omega) ⟨hg1, hg2⟩
      have fa5 : MVFa v5 = 0 := pr5.2.2.2.2.2.2.2.2.2.1
      rw [if_pos fa5, f2, bnd2_some, bnd2_some]
      obtain ⟨R6, v6, g1, g2, g3, g4, g5⟩ := semi_st (T := T) (q := tE T p) (R := R5) (v := MV_sSt v5 st') (Q := True) (Or.inl ⟨trivial, p5, hp5, pr5⟩)
      unfold f_X9_parsePart_j54
      rw [g1, bnd2_some, g2, bnd2_some]
      rcases g5 with ⟨-, p6, hp6, pr6⟩ | ⟨k2, o, pe⟩
      · rw [valid_0 pr6.2.2.2.2.1, Option.bind_some, if_neg n10, show f_X7_addJob (LrcdC (hs, R, C, D)) (nI i) (nI k) (nI pp) (nI pg) = _ from f1, bnd2_some]
        refine ⟨R6, C', v6, rfl, rfl, sR.tr g3, g4.1.trans s5.1, scr_of f3, Or.inl ⟨u, addG g i (nI k) pp (nI pg), p6, hp6, pr6, ?_⟩⟩
        rw [g4.2.1]
        exact f3
      · rw [valid_er pe.c, Option.bind_some, if_pos rfl]
        exact ⟨R6, C, v6, rfl, rfl, sR.tr g3, g4.1.trans s5.1, scr_of hB, Or.inr ⟨k2, o, pe⟩⟩
    · unfold f_X9_parsePart_j54
      rw [(semi_er pe).1, bnd2_some, valid_er pe.c, Option.bind_some, if_pos rfl, if_neg pe.r, bnd2_some, (semi_er pe).2, bnd2_some]
      exact ⟨R5, C, v5, rfl, rfl, sR, s5.1, scr_of hB, Or.inr ⟨k, o, pe⟩⟩
  · have hpe : PE 4 (tS T p) (rf R 4 (RVAt R)) (vx v 4) := m1.pe (k := 4) (by decide) (by decide)
    have hp2 := hpe.sl
    have hp3 := hp2.sl
    rw [if_neg hj, if_neg n10, if_pos (show (40 : Int32) ≤ nI (aJ g) from nI_le (a := 40) (by omega) (by omega)), show f_X4_fail (LrcdR (hs, R, C, D)) 4 = some ((), rf R 4 (RVAt R)) from fail_0 k0, bnd2_some]
    unfold f_X8_readJob_j18
    rw [show f_X4_knownName (LrcdR (Lrcd_sR (hs, R, C, D) (rf R 4 (RVAt R))), UVQs (LrcdD (Lrcd_sR (hs, R, C, D) (rf R 4 (RVAt R))))) = some (-1, (rf R 4 (RVAt R), UVQs D)) from known_er hpe.c, bnd2_some, show f_X4_knownName (P_RV_NVA (rf R 4 (RVAt R), UVQs D), UVOs (LrcdD (Lrcd_sR (hs, R, C, D) (rf R 4 (RVAt R))))) = some (-1, (rf R 4 (RVAt R), UVOs D)) from known_er hpe.c, bnd2_some]
    rw [show f_X4_number (P_RV_NVA (rf R 4 (RVAt R), UVOs D)) 0 99 = some (-1, rf R 4 (RVAt R)) from (num_er hpe).1, bnd2_some, show f_X4_number (rf R 4 (RVAt R)) 1 99 = some (-1, rf R 4 (RVAt R)) from (num_er hpe).1, bnd2_some, show f_X4_semicolon (rf R 4 (RVAt R)) = _ from (semi_er hpe).1, bnd2_some, valid_er hpe.c, Option.bind_some, if_pos rfl]
    rw [show f_X9_expect v 0 4 = _ from expect_0 f0, bnd2_some, show f_X9_advanceToken (vx v 4) = _ from advance_er hpe.r2, bnd2_some]
    obtain ⟨k1, k2⟩ : f_X9_parseKnownQueue (vx v 4) (-1) = some (0, MV_sSl (vx v 4) 0) ∧ f_X9_parseKnownOwner (MV_sSl (vx v 4) 0) = some (0, MV_sSl (MV_sSl (vx v 4) 0) 0) := by
      constructor
      · unfold f_X9_parseKnownQueue f_X9_parseKnownQueue_j19 f_X9_parseKnownQueue_j38 f_X9_parseKnownQueue_j43
        rw [show f_X9_spellName (vx v 4) = _ from spell_er hpe, bnd2_some, if_neg (show ¬ MVFa (MV_sSl (vx v 4) 0) = 0 from hp2.r), if_pos (show 0 < MVFa (MV_sSl (vx v 4) 0) from hp2.r3), expect_1, bnd2_some, show f_X9_advanceToken (MV_sSl (vx v 4) 0) = _ from advance_er hp2.r2, bnd2_some]
        rfl
      · unfold f_X9_parseKnownOwner f_X9_parseKnownOwner_j19 f_X9_parseKnownOwner_j31
        rw [show f_X9_spellName (MV_sSl (vx v 4) 0) = _ from spell_er hp2, bnd2_some, if_neg (show ¬ MVFa (MV_sSl (MV_sSl (vx v 4) 0) 0) = 0 from hp3.r), if_neg (by decide), expect_1, bnd2_some, show f_X9_advanceToken (MV_sSl (MV_sSl (vx v 4) 0) 0) = _ from advance_er hp3.r2, bnd2_some]
        rfl
    rw [k1, bnd2_some, k2, bnd2_some, show f_X9_parseNumber (MV_sSl (MV_sSl (vx v 4) 0) 0) 0 99 = _ from (num_er hp3).2, bnd2_some, show f_X9_parseNumber (MV_sSl (MV_sSl (vx v 4) 0) 0) 1 99 = _ from (num_er hp3).2, bnd2_some, if_neg (show ¬ MVFa (MV_sSl (MV_sSl (vx v 4) 0) 0) = 0 from hp3.r), bnd2_some]
    unfold f_X9_parsePart_j54
    rw [show f_X9_parseSemicolon (MV_sSl (MV_sSl (vx v 4) 0) 0) = _ from (semi_er hp3).2, bnd2_some]
    exact ⟨rf R 4 (RVAt R), C, _, rfl, rfl, ⟨rfl, rfl, rfl⟩, rfl, scr_of hB, Or.inr ⟨4, _, hp3⟩⟩
