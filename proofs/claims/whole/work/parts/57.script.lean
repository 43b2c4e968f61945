/-! ===== 57: runScript, on both sides ===== -/
/-- the end of reading, on either side -/
def endC (w : Lrtu) : Option (Int32 × Lrtu) := (f_X4_isValid (LrtuR w)).bind fun r => if ¬ (r = 0 ∨ r = 1) then none else some (r, w)
def endR (v : MV) : Option (Int32 × MV) := bnd2 (f_X9_endText v) fun _ w => if (MVFa w) ≤ 0 then bnd2 (f_X9_remember w) fun _ w2 => f_X9_runScript_h54 FU 0 w2 else some ((-1), w)
theorem script_end {n n2 : Nat} {c : Int32} {hs : Int32} {R : RV} {TS : TV} {U : UV} {v : MV} {k o : Nat} (h : PE k o R v) : f_X8_readScript_h17 (n + 1) c (hs, R, TS, U) = endC (hs, R, TS, U) ∧ f_X9_runScript_h14 (n2 + 1) v = endR v := by
  constructor
  · rw [f_X8_readScript_h17, show f_X4_startsStatement (LrtuR (hs, R, TS, U)) = some (0, R) from starts_er h, bnd2_some, if_pos rfl]
    split <;> rfl
  · rw [f_X9_runScript_h14, if_neg h.r]
    rfl
theorem SMR.congr {u : GU} {TS : TV} {n : Nat} {v v' : MV} (h : SMR u TS n v) (h1 : MVSc v' = MVSc v) (h2 : MVSm v' = MVSm v) : SMR u TS n v' := by
  obtain ⟨a, b, c, d⟩ := h
  exact ⟨a, b, h1.trans c, fun i hi => by rw [h2]; exact d i hi⟩
theorem script_loop {T : List Nat} {hs : Int32} {U : UV} {u : GU} (hU : CU u U) : ∀ (m p c n n2 : Nat) (R : RV) (TS : TV) (v : MV) (cnt : Nat), T.length - p = m → m + 2 < n → m + 2 < n2 → c ≤ p → PR T p R v → NMq (MVSt v) (uN u) (uQ u) → NMo (MVSt v) (uM u) (uO u) → SMR u TS cnt v →
    ∃ R' TS' v', f_X8_readScript_h17 n (nI c) (hs, R, TS, U) = endC (hs, R', TS', U) ∧ f_X9_runScript_h14 n2 v = endR v' ∧ SR R R' ∧ kp v' = kp v ∧ MVSt v' = MVSt v ∧ ((∃ q cnt', MID T q R' v' ∧ SMR u TS' cnt' v') ∨ ∃ k o, PE k o R' v') := by
  intro m
  induction m using Nat.strongRecOn with
  | _ m ih =>
    intro p c n n2 R TS v cnt hm hn hn2 hcp hP hnq hno hS
    obtain ⟨n, rfl⟩ : ∃ m, n = m + 1 + 1 := ⟨n - 2, by omega⟩
    obtain ⟨n2, rfl⟩ : ∃ m, n2 = m + 1 + 1 := ⟨n2 - 2, by omega⟩
    have hT := hP.1
    have hp := hP.2.1
    have h600 := hT.1
    have f0 : MVFa v = 0 := hP.2.2.2.2.2.2.2.2.2.1
    obtain ⟨R1, s1, m1, hcase⟩ := starts_ok hP
    have k0 : RVEk R1 = 0 := m1.2.2.2.2.1
    have hr : REF T p v := m1.2.2.2.2.2.2.2.2.2
    rw [f_X8_readScript_h17, f_X9_runScript_h14, if_neg (show ¬ (600 : Int32) < nI c from nI_nlt (a := 600) (by omega) (by decide)), if_pos f0]
    have next : ∀ {R' : RV} {TS' : TV} {v' : MV} {cnt' : Nat}, tC T p = 1 → SR R1 R' → kp v' = kp v → MVSt v' = MVSt v → DON2 T (tE T p) u cnt' R' v' TS' → ∃ R'' TS'' v'', f_X8_readScript_h17 (n + 1) (nI (c + 1)) (hs, R', TS', U) = endC (hs, R'', TS'', U) ∧ f_X9_runScript_h14 (n2 + 1) v' = endR v'' ∧ SR R R'' ∧ kp v'' = kp v ∧ MVSt v'' = MVSt v ∧ ((∃ q cnt', MID T q R'' v'' ∧ SMR u TS'' cnt' v'') ∨ ∃ k o, PE k o R'' v'') := by
      intro R' TS' v' cnt' hc hs1 hk hst hd
      have hgt := tE_gt hp hc
      have hge := tS_ge hp
      rcases hd with ⟨p', hp', pr', b'⟩ | ⟨k, o, pe⟩
      · have hpl := pr'.2.1
        obtain ⟨R'', TS'', v'', e1, e2, e3, e4, e5, e6⟩ := ih (T.length - p') (by omega) p' (c + 1) (n + 1) (n2 + 1) R' TS' v' cnt' rfl (by omega) (by omega) (by omega) pr' (by rw [hst]; exact hnq) (by rw [hst]; exact hno) b'
        exact ⟨R'', TS'', v'', e1, e2, s1.tr (hs1.tr e3), e4.trans hk, e5.trans hst, e6⟩
      · obtain ⟨e1, e2⟩ := script_end (n := n) (n2 := n2) (c := nI (c + 1)) (hs := hs) (TS := TS') (U := U) pe
        exact ⟨R', TS', v', e1, e2, s1.tr hs1, hk, hst, Or.inr ⟨k, o, pe⟩⟩
    -- an error at the first word
    have bad : ∀ (k : Nat) (kd : Int32), 1 ≤ k → k ≤ 5 → kdW T p = kd → (k = 1 ∧ kd = -1) ∨ (k = 4 ∧ kd ≠ -1 ∧ 30 ≤ MVSc v) → f_X9_parseStatement v = some ((), vx v (nI k)) ∧ PE k (tS T p) (rf R1 (nI k) (RVAt R1)) (vx v (nI k)) := by
      intro k kd h1 h5 hk hor
      have hpe := m1.pe h1 h5
      refine ⟨?_, hpe⟩
      unfold f_X9_parseStatement f_X9_parseStatement_j16 f_X9_parseStatement_j35
      rw [kind_r hT hp hr, Option.bind_some, hk]
      rcases hor with ⟨ek, e⟩ | ⟨ek, e, h30⟩
      · subst ek
        rw [if_pos e, show f_X9_expect v 0 1 = some ((), vx v (nI 1)) from expect_0 f0, bnd2_some]
        simp only [expect_er hpe.r, bnd2_some, advance_er hpe.r2, if_neg hpe.r2]
        split <;> rfl
      · subst ek
        rw [if_neg e, expect_1, bnd2_some, if_pos h30, show f_X9_expect v 0 4 = some ((), vx v (nI 4)) from expect_0 f0, bnd2_some, advance_er hpe.r2, bnd2_some, if_neg hpe.r2]
    rcases hcase with ⟨e1, hc, hl, hk⟩ | ⟨e1, hk⟩ | ⟨e1, hk, hbad⟩
    · rw [show f_X4_startsStatement (LrtuR (hs, R, TS, U)) = _ from e1, bnd2_some, if_neg n10, hk, if_neg n10, show f_X8_statementKind (LrtuHs (hs, R, TS, U), R1) = _ from kind_c m1, Option.bind_some, nI_1]
      rcases kd_cases (T := T) (p := p) with hkd | hkd
      · obtain ⟨b1, b2⟩ := bad 1 (-1) (by decide) (by decide) hkd (Or.inl ⟨rfl, rfl⟩)
        rw [if_pos hkd, show f_X4_fail R1 1 = some ((), rf R1 1 (RVAt R1)) from fail_0 k0, bnd2_some, b1, bnd2_some]
        exact next (cnt' := 0) hc ⟨rfl, rfl, rfl⟩ rfl rfl (Or.inr ⟨1, _, b2⟩)
      · have hne : ¬ kdW T p = -1 := by
          rcases hkd with e | e | e | e | e | e | e | e <;> rw [e] <;> decide
        rw [if_neg hne, show TVCt (LrtuT (hs, R, TS, U)) = nI cnt from hS.2.1]
        have hcnt := hS.1
        by_cases c30' : cnt < 30
        · rw [if_pos (show nI cnt < 30 from nI_lt (b := 30) c30' (by decide))]
          obtain ⟨v1, a1, a2, a3, -⟩ := adv_mid m1 (by omega)
          have hsc1 : MVSc v1 = nI cnt := a2.2.2.2.trans hS.2.2.1
          have hsm1 : MVSm v1 = MVSm v := a2.2.2.1
          obtain ⟨R', TS', v', q1, q2, q3, q4, q5, q6⟩ := body_ok (hs := hs) (U := U) (TS := TS) (n := cnt) a3 hU (by rw [a2.2.1]; exact hnq) (by rw [a2.2.1]; exact hno) c30' hS.2.1 hsc1 hkd (fun i hi => by rw [hsm1]; exact hS.2.2.2 i hi)
          have eq : f_X9_parseStatement v = some ((), v') := by
            have j0 : 5 * cnt < 150 := by omega
            have j1 : 5 * cnt + 1 < 150 := by omega
            have j2 : 5 * cnt + 2 < 150 := by omega
            have j3 : 5 * cnt + 3 < 150 := by omega
            have j4 : 5 * cnt + 4 < 150 := by omega
            have fa1 : MVFa v1 ≤ 0 := by rw [show MVFa v1 = 0 from a3.2.2.2.2.2.2.2.2.2.1]; decide
            unfold f_X9_parseStatement f_X9_parseStatement_j16 f_X9_parseStatement_j35
            rw [kind_r hT hp hr, Option.bind_some, if_neg hne, expect_1, bnd2_some, hS.2.2.1, if_neg (show ¬ (30 : Int32) ≤ nI cnt from nI_ge (b := 30) c30' (by decide)), expect_1, bnd2_some, a1, bnd2_some, if_pos fa1, hsc1, sm_5, show nI (5 * cnt) + (1 : Int32) = nI (5 * cnt + 1) from nI_add _ 1, show nI (5 * cnt) + (2 : Int32) = nI (5 * cnt + 2) from nI_add _ 2, show nI (5 * cnt) + (3 : Int32) = nI (5 * cnt + 3) from nI_add _ 3, show nI (5 * cnt) + (4 : Int32) = nI (5 * cnt + 4) from nI_add _ 4]
            simp only [if_neg (o150 j0), if_neg (o150 j1), if_neg (o150 j2), if_neg (o150 j3), if_neg (o150 j4), c150 j0, c150 j1, c150 j2, c150 j3, c150 j4]
            exact q2
          rw [show f_X8_readStatement (Lrtu_sR (hs, R, TS, U) R1) (kdW T p) = _ from q1, bnd2_some, eq, bnd2_some]
          exact next hc q3 (q4.trans a2.1) (q5.trans a2.2.1) q6
        · have h30 : (30 : Int32) ≤ MVSc v := by rw [hS.2.2.1]; exact nI_le (a := 30) (by omega) (by omega)
          obtain ⟨b1, b2⟩ := bad 4 _ (by decide) (by decide) rfl (Or.inr ⟨rfl, hne, h30⟩)
          rw [if_neg (show ¬ nI cnt < 30 from nI_nlt (b := 30) (by omega) (by omega)), show f_X4_fail R1 4 = some ((), rf R1 4 (RVAt R1)) from fail_0 k0, bnd2_some, b1, bnd2_some]
          exact next (cnt' := 0) hc ⟨rfl, rfl, rfl⟩ rfl rfl (Or.inr ⟨4, _, b2⟩)
    · rw [show f_X4_startsStatement (LrtuR (hs, R, TS, U)) = _ from e1, bnd2_some, if_pos rfl, if_pos hk]
      exact ⟨R1, TS, v, rfl, rfl, s1, rfl, rfl, Or.inl ⟨p, cnt, m1, hS⟩⟩
    · obtain ⟨b1, b2⟩ := bad 1 (-1) (by decide) (by decide) (kd_bad hbad) (Or.inl ⟨rfl, rfl⟩)
      rw [show f_X4_startsStatement (LrtuR (hs, R, TS, U)) = _ from e1, bnd2_some, if_pos rfl, if_neg hk, b1, bnd2_some]
      refine ⟨rf R1 1 (RVAt R1), TS, vx v 1, rfl, ?_, s1.tr ⟨rfl, rfl, rfl⟩, rfl, rfl, Or.inr ⟨1, _, b2⟩⟩
      rw [f_X9_runScript_h14, if_neg (show ¬ MVFa (vx v (nI 1)) = 0 from b2.r)]
      rfl
theorem endC_er {k o : Nat} {hs : Int32} {R : RV} {TS : TV} {U : UV} {v : MV} (h : PE k o R v) : endC (hs, R, TS, U) = some (0, (hs, R, TS, U)) := by
  unfold endC
  rw [show f_X4_isValid (LrtuR (hs, R, TS, U)) = some 0 from valid_er h.c, Option.bind_some, if_neg (show ¬ ¬ ((0 : Int32) = 0 ∨ (0 : Int32) = 1) from fun h => h (Or.inl rfl))]
theorem endC_0 {hs : Int32} {R : RV} {TS : TV} {U : UV} (h : RVEk R = 0) : endC (hs, R, TS, U) = some (1, (hs, R, TS, U)) := by
  unfold endC
  rw [show f_X4_isValid (LrtuR (hs, R, TS, U)) = some 1 from valid_0 h, Option.bind_some, if_neg (show ¬ ¬ ((1 : Int32) = 0 ∨ (1 : Int32) = 1) from fun h => h (Or.inr rfl))]
theorem wE_st {v : MV} {k o : Int32} {st : Nat → Int32} : MVSt (wE v k o st) = st := rfl
theorem endR_er {k o : Nat} {R : RV} {v : MV} (h : PE k o R v) : endR v = some (-1, wE v (nI k) (nI o) (MVSt v)) := by
  unfold endR f_X9_endText
  rw [if_neg h.r, bnd2_some, if_neg (show ¬ MVFa (MV_sEo (MV_sEc (MV_sLn v 0) (MVFa v)) (MVFo v)) ≤ 0 from h.r2), h.2.2.1, h.2.2.2.1]
  rfl
theorem endR_0 {v : MV} (h : MVFa v = 0) : endR v = bnd2 (f_X9_remember (wE v 0 (-1) (MVSt v))) fun _ w2 => f_X9_runScript_h54 FU 0 w2 := by
  unfold endR f_X9_endText
  rw [if_pos h, bnd2_some, if_pos (show MVFa (MV_sEo (MV_sEc (MV_sLn v 0) (MVFa v)) (-1)) ≤ 0 from by rw [show MVFa (MV_sEo (MV_sEc (MV_sLn v 0) (MVFa v)) (-1)) = MVFa v from rfl, h]; decide), h]
  rfl
theorem wK_all (v : MV) (P : Nat → Int32) (c : Int32) : ∃ w : MV, w = MV_sPc (MV_sPt (wE v 0 (-1) (MVSt v)) P) c ∧ MVSt w = MVSt v ∧ MVSc w = MVSc v ∧ MVSm w = MVSm v ∧ MVPt w = P ∧ MVPc w = c ∧ MVIs w = MVIs v ∧ MVSv w = MVSv v ∧ MVOu w = MVOu v ∧ MVOl w = MVOl v ∧ MVLn w = 0 ∧ MVEc w = 0 ∧ MVEo w = -1 := ⟨_, rfl, rfl, rfl, rfl, rfl, rfl, rfl, rfl, rfl, rfl, rfl, rfl, rfl⟩
theorem wE_all (v : MV) (k o : Int32) : ∃ w : MV, w = wE v k o (MVSt v) ∧ MVSt w = MVSt v ∧ MVPt w = MVPt v ∧ MVPc w = MVPc v ∧ MVIs w = MVIs v ∧ MVSv w = MVSv v ∧ MVOu w = MVOu v ∧ MVOl w = MVOl v ∧ MVLn w = 0 ∧ MVEc w = k ∧ MVEo w = o := ⟨_, rfl, rfl, rfl, rfl, rfl, rfl, rfl, rfl, rfl, rfl, rfl⟩
theorem IN_0 {R : RV} {v : MV} (h : RVLn R = 0) (h2 : MVLn v = 0) : IN [] R v := ⟨by simp, by simp, h, fun j c hj => by simp at hj, h2, fun j c hj => by simp at hj⟩
theorem O_runScript {hs : Int32} {R : RV} {O : OV} {Y : YV} {S C K : SV} {U : UV} {TS : TV} {v : MV} (hA : ALL' hs R O Y S C K U v) :
    ∃ r R' TS' Y' S' v', f_X8_runScript (hs, R, TS, Y, S, U) = some (r, (hs, R', TS', Y', S', U)) ∧ f_X9_runScript v = some (r, v') ∧ ALL' hs R' O Y' S' C K U v' := by
  obtain ⟨u, g, H, k, T, hUB, ⟨hUI, hI, hC, hM, hH⟩, hCU, hK, hSC, hIN, hER, hO⟩ := hA
  obtain ⟨w1, w2, w3, w4, w5, w6, w7⟩ := begin_ok (w := MV_sSc (MV_sTh v 0) 0) hIN rfl rfl
  have h600 := hIN.1
  have hFU : FU = 5000 := rfl
  have e4 : MVSt w1 = MVSt v := w4
  have hnq : NMq (MVSt v) (uN u) (uQ u) := ⟨hM.1.1.1, hUB.1, fun q hq => ⟨(hUB.2.2.1 q hq).2, (hM.2.1 q hq).1, (hM.2.1 q hq).2.2.1⟩⟩
  have hno : NMo (MVSt v) (uM u) (uO u) := ⟨hM.1.1.2.1, hUB.2.1, fun q hq => ⟨hUB.2.2.2 q hq, (hM.2.2 q hq).1, (hM.2.2 q hq).2⟩⟩
  obtain ⟨R', TS', v', l1, l2, l3, l4, l5, l6⟩ := script_loop (T := T) (hs := hs) (U := U) hCU (T.length - 0) 0 0 FU FU (rb R) (TV_sCt TS 0) w1 0 rfl (by omega) (by omega) (Nat.le_refl _) w7 (by rw [e4]; exact hnq) (by rw [e4]; exact hno) ⟨by omega, rfl, w6, fun i hi => absurd hi (Nat.not_lt_zero _)⟩
  have ec : f_X8_readScript (hs, R, TS, U) = endC (hs, R', TS', U) := by
    unfold f_X8_readScript
    rw [show f_X4_begin (LrtuR (hs, R, TS, U)) = _ from begin_c, bnd2_some]
    exact l1
  have er : f_X9_runScript v = endR v' := by
    unfold f_X9_runScript
    rw [w2, bnd2_some]
    exact l2
  have hkp : kp v' = kp (MV_sSc (MV_sTh v 0) 0) := l4.trans w3
  have eSt : MVSt v' = MVSt v := l5.trans e4
  have eSv : MVSv v' = MVSv v := congrArg (fun z : KP => z.2.1) hkp
  have ePt : MVPt v' = MVPt v := congrArg (fun z : KP => z.2.2.1) hkp
  have ePc : MVPc v' = MVPc v := congrArg (fun z : KP => z.2.2.2.1) hkp
  have eIs : MVIs v' = MVIs v := congrArg (fun z : KP => z.2.2.2.2.1) hkp
  have eOu : MVOu v' = MVOu v := congrArg (fun z : KP => z.2.2.2.2.2.2.2.2.2.2.2.1) hkp
  have eOl : MVOl v' = MVOl v := congrArg (fun z : KP => z.2.2.2.2.2.2.2.2.2.2.2.2) hkp
  have hLn : RVLn R' = 0 := l3.2.1
  rcases l6 with ⟨q, cnt, m1, hS⟩ | ⟨kk, o, pe⟩
  · have k0 : RVEk R' = 0 := m1.2.2.2.2.1
    have f0 : MVFa v' = 0 := m1.2.2.2.2.2.2.2.2.2.2.2.1
    obtain ⟨w0, z0, z1, z2, z3, z4, z5, z6, z7, z8, z9, z10⟩ := wE_all v' 0 (-1)
    obtain ⟨Y', P', c', k1, k2, k3⟩ := keep_ok (v := w0) (H := H) (Y := Y) (S := S) hUI hI hC (by rw [z1, eSt]; exact hM) (by rw [z2, z3, ePt, ePc]; exact hH)
    obtain ⟨w, y0, y1, y2, y3, y4, y5, y6, y7, y8, y9, y10, y11, y12⟩ := wK_all v' P' c'
    rw [z0, ← y0] at k2
    obtain ⟨r, S', st', g', a1, a2, a3, a4, a5⟩ := exe_loop (hs := hs) (R := R') (TS := TS') (Y := Y') (U := U) hUB hS.1 hS.2.1 (cnt - 0) FU 0 g S w rfl (by have := hS.1; omega) (Nat.zero_le _) hI hC (by rw [y1, eSt]; exact hM) (y2.trans hS.2.2.1) (by rw [y3]; exact hS.2.2.2)
    refine ⟨r, R', TS', Y', S', MV_sSt w st', ?_, ?_, u, g', (g :: H).take 8, k, [], hUB, ⟨hUI, a3, a4, a5, ?_⟩, hCU, ?_, hSC, IN_0 hLn y10, ⟨?_, ?_⟩, ?_⟩
    · unfold f_X8_runScript
      rw [show f_X8_readScript (LrtysuHs (hs, R, TS, Y, S, U), LrtysuR (hs, R, TS, Y, S, U), LrtysuT (hs, R, TS, Y, S, U), LrtysuU (hs, R, TS, Y, S, U)) = _ from ec.trans (endC_0 k0), bnd2_some, if_neg n10, show f_X1_keep (LrtysuY (hs, R, TS, Y, S, U), LrtysuS (hs, R, TS, Y, S, U)) = _ from k1, bnd2_some]
      exact a1
    · rw [er, endR_0 f0, k2, bnd2_some]
      exact a2
    · show HR u _ Y' (MVPt w) (MVPc w)
      rw [y4, y5]
      exact k3
    · show KR u k hs K (MVIs w) (MVSv w)
      rw [y6, y7, eIs, eSv]
      exact hK
    · exact k0.trans y11.symm
    · exact m1.2.2.2.2.2.1.trans y12.symm
    · obtain ⟨L, o1, o2, o3⟩ := hO
      refine ⟨L, o1, o2, ?_⟩
      show ORp L (MVOu w) (MVOl w)
      rw [y8, y9, eOu, eOl]
      exact o3
  · obtain ⟨w0, z0, z1, z2, z3, z4, z5, z6, z7, z8, z9, z10⟩ := wE_all v' (nI kk) (nI o)
    refine ⟨-1, R', TS', Y, S, w0, ?_, ?_, u, g, H, k, [], hUB, ⟨hUI, hI, hC, ?_, ?_⟩, hCU, ?_, hSC, IN_0 hLn z8, ⟨?_, ?_⟩, ?_⟩
    · unfold f_X8_runScript
      rw [show f_X8_readScript (LrtysuHs (hs, R, TS, Y, S, U), LrtysuR (hs, R, TS, Y, S, U), LrtysuT (hs, R, TS, Y, S, U), LrtysuU (hs, R, TS, Y, S, U)) = _ from ec.trans (endC_er pe), bnd2_some, if_pos rfl]
      rfl
    · rw [er, endR_er pe, z0]
    · rw [z1, eSt]; exact hM
    · rw [z2, z3, ePt, ePc]
      exact hH
    · rw [z4, z5, eIs, eSv]
      exact hK
    · exact pe.1.trans z9.symm
    · exact pe.2.1.trans z10.symm
    · obtain ⟨L, o1, o2, o3⟩ := hO
      refine ⟨L, o1, o2, ?_⟩
      rw [z6, z7, eOu, eOl]
      exact o3
