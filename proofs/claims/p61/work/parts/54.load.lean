/-! ===== 54: loadSetup, on both sides ===== -/
theorem tE_gt {T : List Nat} {p : Nat} (hp : p ≤ T.length) (h : tC T p = 1) : tS T p < tE T p := by
  rw [tE_1 h]
  cases e : T[tS T p]? with
  | none => rw [tC_0 e] at h; omega
  | some c =>
    have hl := (List.getElem?_eq_some_iff.mp e).1
    have hc := tC_s e
    rw [h] at hc
    cases hL : isL c with
    | true =>
      rw [ru_yes e hL]
      have := ru_ge (P := isL) (T := T) (p := tS T p + 1) (by omega)
      omega
    | false =>
      rw [hL, if_neg (show ¬ (false = true) by decide)] at hc
      split at hc
      · omega
      · split at hc <;> omega
theorem setup_end {n n2 : Nat} {c : Int32} {hs : Int32} {R : RV} {C : SV} {D : UV} {v : MV} {k o : Nat} (h : PE k o R v) : f_X8_readSetup_h23 (n + 1) c (hs, R, C, D) = f_X8_readSetup_j114 (hs, R, C, D) ∧ f_X9_loadSetup_h21 (n2 + 1) v = f_X9_loadSetup_j42 v := by
  constructor
  · rw [f_X8_readSetup_h23, show f_X4_startsStatement (LrcdR (hs, R, C, D)) = some (0, R) from starts_er h, bnd2_some, if_pos rfl]
    split <;> rfl
  · rw [f_X9_loadSetup_h21, if_neg h.r]
theorem isW_bad {T : List Nat} {p i : Nat} (h : ¬ (tC T p = 1 ∧ tE T p - tS T p ≤ 8)) : isW T p i = 0 := by
  unfold isW
  rw [if_neg (fun h2 => h ⟨h2.1, h2.2.1⟩)]
theorem part_bad {T : List Nat} {p : Nat} {R : RV} {v : MV} (m1 : MID T p R v) (h3 : isW T p 3 = 0) (h4 : isW T p 4 = 0) (h5 : isW T p 5 = 0) : f_X9_parsePart v = some ((), vx v 1) ∧ PE 1 (tS T p) (rf R 1 (RVAt R)) (vx v 1) := by
  have f0 : MVFa v = 0 := m1.2.2.2.2.2.2.2.2.2.2.2.1
  have hpe : PE 1 (tS T p) (rf R 1 (RVAt R)) (vx v 1) := m1.pe (k := 1) (by decide) (by decide)
  have hr : REF T p v := m1.2.2.2.2.2.2.2.2.2
  refine ⟨?_, hpe⟩
  unfold f_X9_parsePart f_X9_parsePart_j54
  rw [show f_X9_isWord v 27 = some (isW T p 3) from isWord_r m1.1 m1.2.1 hr (by decide) (by decide), Option.bind_some, h3, if_pos rfl, show f_X9_isWord v 28 = some (isW T p 4) from isWord_r m1.1 m1.2.1 hr (by decide) (by decide), Option.bind_some, h4, if_pos rfl, show f_X9_isWord v 29 = some (isW T p 5) from isWord_r m1.1 m1.2.1 hr (by decide) (by decide), Option.bind_some, h5, if_pos rfl, expect_0 f0, bnd2_some, (semi_er hpe).2, bnd2_some]
theorem setup_loop {T : List Nat} {hs : Int32} : ∀ (m p c n n2 : Nat) (R : RV) (C : SV) (D : UV) (v : MV) (u : GU) (g : GS), T.length - p = m → m + 2 < n → m + 2 < n2 → c ≤ p → PR T p R v → BU u g D C (MVSt v) →
    ∃ R' C' D' v', f_X8_readSetup_h23 n (nI c) (hs, R, C, D) = f_X8_readSetup_j114 (hs, R', C', D') ∧ f_X9_loadSetup_h21 n2 v = f_X9_loadSetup_j42 v' ∧ SR R R' ∧ kp v' = kp v ∧ SCR C' ∧ ((∃ u' g' q, MID T q R' v' ∧ BU u' g' D' C' (MVSt v')) ∨ ∃ k o, PE k o R' v') := by
  intro m
  induction m using Nat.strongRecOn with
  | _ m ih =>
    intro p c n n2 R C D v u g hm hn hn2 hcp hP hB
    obtain ⟨n, rfl⟩ : ∃ m, n = m + 1 + 1 := ⟨n - 2, by omega⟩
    obtain ⟨n2, rfl⟩ : ∃ m, n2 = m + 1 + 1 := ⟨n2 - 2, by omega⟩
    have hT := hP.1
    have hp := hP.2.1
    have h600 := hT.1
    have f0 : MVFa v = 0 := hP.2.2.2.2.2.2.2.2.2.1
    obtain ⟨R1, s1, m1, hcase⟩ := starts_ok hP
    have hr : REF T p v := m1.2.2.2.2.2.2.2.2.2
    rw [f_X8_readSetup_h23, f_X9_loadSetup_h21, if_neg (show ¬ (600 : Int32) < nI c from nI_nlt (a := 600) (by omega) (by decide)), if_pos f0]
    -- after a statement
    have next : ∀ {R' : RV} {D' : UV} {C' : SV} {v' : MV}, tC T p = 1 → SR R1 R' → kp v' = kp v → SCR C' → DONE T (tE T p) R' v' D' C' → ∃ R'' C'' D'' v'', f_X8_readSetup_h23 (n + 1) (nI (c + 1)) (hs, R', C', D') = f_X8_readSetup_j114 (hs, R'', C'', D'') ∧ f_X9_loadSetup_h21 (n2 + 1) v' = f_X9_loadSetup_j42 v'' ∧ SR R R'' ∧ kp v'' = kp v ∧ SCR C'' ∧ ((∃ u' g' q, MID T q R'' v'' ∧ BU u' g' D'' C'' (MVSt v'')) ∨ ∃ k o, PE k o R'' v'') := by
      intro R' D' C' v' hc hs1 hk hscr hd
      have hgt := tE_gt hp hc
      have hge := tS_ge hp
      rcases hd with ⟨u', g', p', hp', pr', b'⟩ | ⟨k, o, pe⟩
      · have hpl := pr'.2.1
        obtain ⟨R'', C'', D'', v'', e1, e2, e3, e4, e5, e6⟩ := ih (T.length - p') (by omega) p' (c + 1) (n + 1) (n2 + 1) R' C' D' v' u' g' rfl (by omega) (by omega) (by omega) pr' b'
        exact ⟨R'', C'', D'', v'', e1, e2, s1.tr (hs1.tr e3), e4.trans hk, e5, e6⟩
      · obtain ⟨e1, e2⟩ := setup_end (n := n) (n2 := n2) (c := nI (c + 1)) (hs := hs) (C := C') (D := D') pe
        exact ⟨R', C', D', v', e1, e2, s1.tr hs1, hk, hscr, Or.inr ⟨k, o, pe⟩⟩
    rcases hcase with ⟨e1, hc, hl, hk⟩ | ⟨e1, hk⟩ | ⟨e1, hk, hbad⟩
    · rw [show f_X4_startsStatement (LrcdR (hs, R, C, D)) = _ from e1, bnd2_some, if_neg n10, hk, if_neg n10]
      rw [isWord_c m1 (i := 3) (by decide) (by decide), Option.bind_some, nI_1]
      by_cases w3 : isW T p 3 = 0
      · rw [if_pos w3, isWord_c m1 (i := 4) (by decide) (by decide), Option.bind_some]
        by_cases w4 : isW T p 4 = 0
        · rw [if_pos w4, isWord_c m1 (i := 5) (by decide) (by decide), Option.bind_some]
          by_cases w5 : isW T p 5 = 0
          · obtain ⟨b1, b2⟩ := part_bad m1 w3 w4 w5
            rw [if_pos w5, b1, bnd2_some, show f_X4_fail R1 1 = some ((), rf R1 1 (RVAt R1)) from fail_0 m1.2.2.2.2.1, bnd2_some]
            exact next hc ⟨rfl, rfl, rfl⟩ rfl (scr_of hB) (Or.inr ⟨1, _, b2⟩)
          · obtain ⟨R', C', v', q1, q2, q3, q4, q5, q6⟩ := readJob_ok (hs := hs) m1 hc hB
            rw [if_neg w5, show f_X8_readJob (Lrcd_sR (hs, R, C, D) R1) = _ from q1, bnd2_some]
            have eq : f_X9_parsePart v = some ((), v') := by
              unfold f_X9_parsePart
              rw [show f_X9_isWord v 27 = some (isW T p 3) from isWord_r hT hp hr (by decide) (by decide), Option.bind_some, if_pos w3, show f_X9_isWord v 28 = some (isW T p 4) from isWord_r hT hp hr (by decide) (by decide), Option.bind_some, if_pos w4, show f_X9_isWord v 29 = some (isW T p 5) from isWord_r hT hp hr (by decide) (by decide), Option.bind_some, if_neg w5]
              exact q2
            rw [eq, bnd2_some]
            exact next hc q3 q4 q5 q6
        · obtain ⟨R', D', v', q1, q2, q3, q4, q6⟩ := readOwner_ok (hs := hs) (C := C) m1 hc hB
          rw [if_neg w4, show f_X8_readOwner (LrcdHs (hs, R, C, D), R1, LrcdD (hs, R, C, D)) = _ from q1, bnd2_some]
          have eq : f_X9_parsePart v = some ((), v') := by
            unfold f_X9_parsePart
            rw [show f_X9_isWord v 27 = some (isW T p 3) from isWord_r hT hp hr (by decide) (by decide), Option.bind_some, if_pos w3, show f_X9_isWord v 28 = some (isW T p 4) from isWord_r hT hp hr (by decide) (by decide), Option.bind_some, if_neg w4]
            exact q2
          rw [eq, bnd2_some]
          exact next hc q3 q4 (scr_of hB) q6
      · obtain ⟨R', D', v', q1, q2, q3, q4, q6⟩ := readQueue_ok (hs := hs) (C := C) m1 hc hB
        rw [if_neg w3, show f_X8_readQueue (LrcdHs (hs, R, C, D), R1, LrcdD (hs, R, C, D)) = _ from q1, bnd2_some]
        have eq : f_X9_parsePart v = some ((), v') := by
          unfold f_X9_parsePart
          rw [show f_X9_isWord v 27 = some (isW T p 3) from isWord_r hT hp hr (by decide) (by decide), Option.bind_some, if_neg w3]
          exact q2
        rw [eq, bnd2_some]
        exact next hc q3 q4 (scr_of hB) q6
    · rw [show f_X4_startsStatement (LrcdR (hs, R, C, D)) = _ from e1, bnd2_some, if_pos rfl, if_pos hk]
      exact ⟨R1, C, D, v, rfl, rfl, s1, rfl, scr_of hB, Or.inl ⟨u, g, p, m1, hB⟩⟩
    · obtain ⟨b1, b2⟩ := part_bad m1 (isW_bad hbad) (isW_bad hbad) (isW_bad hbad)
      rw [show f_X4_startsStatement (LrcdR (hs, R, C, D)) = _ from e1, bnd2_some, if_pos rfl, if_neg hk, b1, bnd2_some]
      refine ⟨rf R1 1 (RVAt R1), C, D, vx v 1, rfl, ?_, s1.tr ⟨rfl, rfl, rfl⟩, rfl, scr_of hB, Or.inr ⟨1, _, b2⟩⟩
      rw [f_X9_loadSetup_h21, if_neg b2.r]
/-! the end of the text -/
/-- the reference behind an error -/
def wE (v : MV) (k o : Int32) (st : Nat → Int32) : MV := (st, MVAs v, MVSv v, MVPt v, MVPc v, MVIs v, MVTh v, MVSp v, MVSl v, MVBf v, 0, k, o, MVSa v, MVEn v, MVTk v, MVVa v, MVFa v, MVFo v, MVSm v, MVSc v, MVOr v, MVOu v, MVOl v)
/-- the reference behind a good setup -/
def wG (v : MV) (st : Nat → Int32) : MV := (st, MVAs v, MVSv v, MVPt v, 0, 0, MVTh v, MVSp v, MVSl v, MVBf v, 0, 0, -1, MVSa v, MVEn v, MVTk v, MVVa v, MVFa v, MVFo v, MVSm v, MVSc v, MVOr v, MVOu v, MVOl v)
theorem j66_er {k o : Nat} {R : RV} {v : MV} (h : PE k o R v) (a : Int32) : f_X9_loadSetup_j66 a v = some (-1, wE v (nI k) (nI o) (mix (MVSt v) (MVAs v) 0)) := by
  unfold f_X9_loadSetup_j66 f_X9_endText
  rw [expect_er h.r, bnd2_some, if_neg h.r, bnd2_some, if_neg (show ¬ MVFa (MV_sEo (MV_sEc (MV_sLn v 0) (MVFa v)) (MVFo v)) ≤ 0 from h.r2), copyFrom2_ok, bnd2_some, h.2.2.1, h.2.2.2.1]
  rfl
theorem j42_er {k o : Nat} {R : RV} {v : MV} (h : PE k o R v) : f_X9_loadSetup_j42 v = some (-1, wE v (nI k) (nI o) (mix (MVSt v) (MVAs v) 0)) := by
  unfold f_X9_loadSetup_j42 f_X9_loadSetup_j65
  rw [if_neg o0, if_neg (show ¬ oob 1 500 by decide), j66_er h, j66_er h]
  split
  · rfl
  · split <;> rfl
theorem j114_er {hs : Int32} {k o : Nat} {R : RV} {C : SV} {D : UV} {v : MV} (h : PE k o R v) : f_X8_readSetup_j114 (hs, R, C, D) = some (0, (hs, R, C, D)) := by
  have e1 : f_X8_readSetup_j148 (hs, R, C, D) = some (0, (hs, R, C, D)) := by
    unfold f_X8_readSetup_j148
    rw [show f_X4_isValid (LrcdR (hs, R, C, D)) = some 0 from valid_er h.c, Option.bind_some, if_neg (show ¬ ¬ ((0 : Int32) = 0 ∨ (0 : Int32) = 1) from fun h => h (Or.inl rfl))]
  have e2 : f_X8_readSetup_j140 (hs, R, C, D) = some (0, (hs, R, C, D)) := by
    unfold f_X8_readSetup_j140
    rw [show f_X4_fail (LrcdR (hs, R, C, D)) 5 = some ((), R) from fail_er h.c, bnd2_some]
    exact e1
  unfold f_X8_readSetup_j114
  rw [e1, e2]
  split
  · rfl
  · split <;> rfl
theorem setup_fin {T : List Nat} {q : Nat} {hs : Int32} {R : RV} {C : SV} {D : UV} {v : MV} {u : GU} {g : GS} (m1 : MID T q R v) (hB : BU u g D C (MVSt v)) :
    (1 ≤ uQ u ∧ 1 ≤ uO u ∧ f_X8_readSetup_j114 (hs, R, C, D) = some (1, (hs, R, C, D)) ∧ f_X9_loadSetup_j42 v = some (nI (aJ g), wG v (upd (upd (MVSt v) 3 0) 4 0))) ∨
    (PE 5 (tS T q) (rf R 5 (RVAt R)) (vx v 5) ∧ f_X8_readSetup_j114 (hs, R, C, D) = some (0, (hs, rf R 5 (RVAt R), C, D)) ∧ f_X9_loadSetup_j42 v = some (-1, wE (vx v 5) 5 (nI (tS T q)) (mix (MVSt v) (MVAs v) 0))) := by
  have f0 : MVFa v = 0 := m1.2.2.2.2.2.2.2.2.2.2.2.1
  have k0 : RVEk R = 0 := m1.2.2.2.2.1
  have hpe : PE 5 (tS T q) (rf R 5 (RVAt R)) (vx v 5) := m1.pe (k := 5) (by decide) (by decide)
  have hU := hB.2.2.2.1
  have hM := hB.2.2.2.2.2.1
  have hQ6 := hB.1.1
  have hO8 := hB.1.2.1
  have bad1 : f_X8_readSetup_j140 (hs, R, C, D) = some (0, (hs, rf R 5 (RVAt R), C, D)) := by
    unfold f_X8_readSetup_j140 f_X8_readSetup_j148
    rw [show f_X4_fail (LrcdR (hs, R, C, D)) 5 = some ((), rf R 5 (RVAt R)) from fail_0 k0, bnd2_some, show f_X4_isValid (LrcdR (Lrcd_sR (hs, R, C, D) (rf R 5 (RVAt R)))) = some 0 from valid_er hpe.c, Option.bind_some, if_neg (show ¬ ¬ ((0 : Int32) = 0 ∨ (0 : Int32) = 1) from fun h => h (Or.inl rfl))]
    rfl
  have bad2 : f_X9_loadSetup_j66 0 v = some (-1, wE (vx v 5) 5 (nI (tS T q)) (mix (MVSt v) (MVAs v) 0)) := by
    have := j66_er hpe 0
    unfold f_X9_loadSetup_j66 at this ⊢
    rw [show f_X9_expect (vx v 5) 0 5 = some ((), vx v 5) from expect_er hpe.r] at this
    rw [show f_X9_expect v 0 5 = some ((), vx v 5) from expect_0 f0]
    exact this
  unfold f_X8_readSetup_j114 f_X9_loadSetup_j42 f_X9_loadSetup_j65
  simp only [if_neg o0, cl0, if_neg (show ¬ oob 1 500 by decide), show Int32.toNatClampNeg 1 = 1 from by decide]
  rw [show NVCt (UVQs (LrcdD (hs, R, C, D))) = nI (uQ u) from hU.1.1, show NVCt (UVOs (LrcdD (hs, R, C, D))) = nI (uO u) from hU.2.1.1, hM.1.1, hM.1.2.1, bad1, bad2]
  by_cases c1 : uQ u = 0
  · rw [c1, if_pos nI_0, if_pos (show nI 0 ≤ 0 by decide)]
    exact Or.inr ⟨hpe, rfl, rfl⟩
  · rw [if_neg (nI_ne0 (by omega) (by omega)), if_neg (nI_nle (n := uQ u) (by omega) (by omega))]
    by_cases c2 : uO u = 0
    · rw [c2, if_pos nI_0, if_pos (show nI 0 ≤ 0 by decide)]
      exact Or.inr ⟨hpe, rfl, rfl⟩
    · rw [if_neg (nI_ne0 (by omega) (by omega)), if_neg (nI_nle (n := uO u) (by omega) (by omega))]
      refine Or.inl ⟨by omega, by omega, ?_, ?_⟩
      · unfold f_X8_readSetup_j148
        rw [show f_X4_isValid (LrcdR (hs, R, C, D)) = some 1 from valid_0 k0, Option.bind_some, if_neg (show ¬ ¬ ((1 : Int32) = 0 ∨ (1 : Int32) = 1) from fun h => h (Or.inr rfl))]
      · unfold f_X9_loadSetup_j66 f_X9_endText f_X9_clearCounters
        rw [expect_1, bnd2_some, if_pos f0, bnd2_some, if_pos (show MVFa (MV_sEo (MV_sEc (MV_sLn v 0) (MVFa v)) (-1)) ≤ 0 from by rw [show MVFa (MV_sEo (MV_sEc (MV_sLn v 0) (MVFa v)) (-1)) = MVFa v from rfl, f0]; decide), if_neg (show ¬ oob 3 500 by decide), if_neg (show ¬ oob 4 500 by decide), bnd2_some, if_neg o2, cl2, show Int32.toNatClampNeg 3 = 3 from by decide, show Int32.toNatClampNeg 4 = 4 from by decide]
        have e2 : upd (upd (MVSt v) 3 0) 4 0 2 = nI (aJ g) := by rw [upd_ne (by omega), upd_ne (by omega)]; exact hM.1.2.2
        show some (upd (upd (MVSt v) 3 0) 4 0 2, _) = _
        rw [e2, f0]
        rfl
/-! the counters cleared -/
def zcG (g : GS) : GS := (aJ g, aF g, aPr g, aOw g, aPg g, aFt g, aQu g, aPd g, aPs g, 0, 0)
theorem MS_zc {u : GU} {g : GS} {st : Nat → Int32} (hQ : uQ u ≤ 6) (hM : MS u g st) : MS u (zcG g) (upd (upd st 3 0) 4 0) := by
  have fr : ∀ n, n ≠ 3 → n ≠ 4 → upd (upd st 3 0) 4 0 n = st n := fun n h1 h2 => by rw [upd_ne h2, upd_ne h1]
  have hjf : ∀ k, jf (upd (upd st 3 0) 4 0) k = jf st k := jf_congr (fun n hn => fr n (by omega) (by omega))
  have heq : ∀ j, eqG (gM st) (gM (upd (upd st 3 0) 4 0)) j := fun j => ⟨congrFun (hjf 5) j, congrFun (hjf 6) j, congrFun (hjf 7) j, congrFun (hjf 8) j⟩
  have hout : ∀ i, out (gM st) i → out (gM (upd (upd st 3 0) 4 0)) i := fun i h => out_congr (heq i) h
  have hsub : ∀ t : Tr, sub (gM st) t → sub (gM (upd (upd st 3 0) 4 0)) t ∧ ∀ p, upK (gM st) t p → upK (gM (upd (upd st 3 0) 4 0)) t p := by
    intro t
    induction t with
    | leaf u => intro _; exact ⟨True.intro, fun _ _ => True.intro⟩
    | branch i l r ihl ihr =>
      intro h
      obtain ⟨h1, h2, h3, h4, h5, h6, h7, h8⟩ := h
      obtain ⟨e1, e2, e3, e4⟩ := heq i
      refine ⟨⟨h1, e1.trans h2, e2.trans h3, e4.trans h4, (ihl h7).2 _ h5, (ihr h8).2 _ h6, (ihl h7).1, (ihr h8).1⟩, fun p hp => ?_⟩
      show gU _ i = p
      rw [e3]
      exact hp
  refine ⟨⟨?_, ?_, ?_⟩, fun i hi => ?_, fun i hi => ?_, fun q hq => ?_, fun q => ?_, ?_, ?_⟩
  · rw [fr 0 (by omega) (by omega)]; exact hM.1.1
  · rw [fr 1 (by omega) (by omega)]; exact hM.1.2.1
  · rw [fr 2 (by omega) (by omega)]; exact hM.1.2.2
  · rw [hjf, hjf, hjf, hjf, hjf]
    obtain ⟨a1, a2, a3, a4, a5, a6⟩ := hM.2.1 i hi
    exact ⟨a1, a2, a3, a4, a5, fun h => hout i (a6 h)⟩
  · rw [hjf]; exact hM.2.2.1 i hi
  · rw [fr (10 + 11 * q + 9) (by omega) (by omega), fr (10 + 11 * q + 10) (by omega) (by omega), fr (10 + 11 * q + 8) (by omega) (by omega)]
    exact hM.2.2.2.1 q hq
  · obtain ⟨a1, a2⟩ := hM.2.2.2.2.1 q
    exact ⟨(hsub _ a1).1, (hsub _ a1).2 _ a2⟩
  · rw [upd_ne (by omega), upd_eq]; rfl
  · rw [upd_eq]; rfl
theorem CS_zc {g : GS} {S : SV} (hC : CS g S) : CS (zcG g) (SV_sH S (HV_sSw (HV_sCm (SVH S) 0) 0)) := by
  have heq : ∀ j, eqG (gH (SVH S)) (gH (HV_sSw (HV_sCm (SVH S) 0) 0)) j := fun j => ⟨rfl, rfl, rfl, rfl⟩
  have hsub : ∀ t : Tr, sub (gH (SVH S)) t → sub (gH (HV_sSw (HV_sCm (SVH S) 0) 0)) t ∧ ∀ p, upK (gH (SVH S)) t p → upK (gH (HV_sSw (HV_sCm (SVH S) 0) 0)) t p := by
    intro t
    induction t with
    | leaf u => intro _; exact ⟨True.intro, fun _ _ => True.intro⟩
    | branch i l r ihl ihr =>
      intro h
      obtain ⟨h1, h2, h3, h4, h5, h6, h7, h8⟩ := h
      exact ⟨⟨h1, h2, h3, h4, (ihl h7).2 _ h5, (ihr h8).2 _ h6, (ihl h7).1, (ihr h8).1⟩, fun p hp => hp⟩
  refine ⟨hC.1, fun i hi => ?_, hC.2.2.1, hC.2.2.2.1, fun q => ?_, rfl, rfl⟩
  · obtain ⟨a1, a2, a3, a4, a5, a6⟩ := hC.2.1 i hi
    exact ⟨a1, a2, a3, a4, a5, fun h => out_congr (heq i) (a6 h)⟩
  · obtain ⟨a1, a2⟩ := hC.2.2.2.2.1 q
    exact ⟨(hsub _ a1).1, (hsub _ a1).2 _ a2⟩
theorem US_zc {u : GU} {st : Nat → Int32} (hB : UB u) (h : US u st) : US u (upd (upd st 3 0) 4 0) := US_congr0 hB (fun n hn => by rw [upd_ne hn.2.2.2.1, upd_ne hn.2.2.1]) h
theorem UB.ui {u : GU} (h : UB u) (h1 : 1 ≤ uQ u) : UI u := ⟨⟨h1, h.1⟩, h.2.1, fun q hq => ⟨⟨(h.2.2.1 q hq).1.1, by have := (h.2.2.1 q hq).1.2; omega⟩, (h.2.2.1 q hq).2.1, (h.2.2.1 q hq).2.2⟩, fun k hk => ⟨(h.2.2.2 k hk).1, (h.2.2.2 k hk).2⟩⟩
/-! everything that the two have in common -/
/-- the last error that a text had -/
def ERR (R : RV) (v : MV) : Prop := RVEk R = MVEc v ∧ RVEa R = MVEo v
def ALL' (hs : Int32) (R : RV) (O : OV) (Y : YV) (S C K : SV) (U : UV) (v : MV) : Prop :=
  ∃ (u : GU) (g : GS) (H : List GS) (k : Option GS) (T : List Nat), UB u ∧ RT u g H Y S v ∧ CU u U ∧ KR u k hs K (MVIs v) (MVSv v) ∧ SCR C ∧ IN T R v ∧ ERR R v ∧ OR O v
theorem in_tx {T : List Nat} {R : RV} {v : MV} (h : IN T R v) : TXok T := ⟨h.1, fun j c hj => h.2.1 c (List.mem_of_getElem? hj)⟩
/-- the class begins to read -/
def rb (R : RV) : RV := (RVTx R, 0, RVLn R, 0, RVTk R, RVAt R, RVWd R, RVVa R, 0, -1)
theorem begin_c {R : RV} : f_X4_begin R = some ((), rb R) := rfl
theorem begin_ok {T : List Nat} {R : RV} {v w : MV} (h : IN T R v) (e1 : MVLn w = MVLn v) (e2 : MVBf w = MVBf v) : ∃ w', f_X9_beginText w = some ((), w') ∧ kp w' = kp w ∧ MVSt w' = MVSt w ∧ MVSm w' = MVSm w ∧ MVSc w' = MVSc w ∧ PR T 0 (rb R) w' := by
  obtain ⟨h1, h2, h3, h4, h5, h6⟩ := id h
  obtain ⟨en, k, va, a1, a2⟩ := advance_ok (T := T) (v := MV_sFa (MV_sEn w 0) 0) (p := 0) (in_tx h) (e1.trans h5) (fun j c hj => (congrFun e2 j).trans (h6 j c hj)) rfl (Nat.zero_le _) rfl
  unfold f_X9_beginText
  rw [a1, bnd2_some]
  exact ⟨_, rfl, rfl, rfl, rfl, rfl, in_tx h, Nat.zero_le _, h3, h4, rfl, rfl, rfl, e1.trans h5, fun j c hj => (congrFun e2 j).trans (h6 j c hj), rfl, rfl, a2⟩
theorem O_loadSetup {hs : Int32} {R : RV} {O : OV} {Y : YV} {S C K : SV} {U D : UV} {v : MV} (hA : ALL' hs R O Y S C K U v) :
    ∃ r b hs' R' Y' S' C' U' D' v', f_X8_loadSetup (hs, R, Y, S, C, U, D) = some (r, b, (hs', R', Y', S', C', U', D')) ∧ f_X9_loadSetup v = some (r, v') ∧ ALL' hs' R' O Y' S' C' K U' v' := by
  obtain ⟨u, g, H, k, T, hUB, ⟨hUI, hI, hC, hM, hH⟩, hCU, hK, hSC, hIN, hER, hO⟩ := hA
  obtain ⟨C1, c1, c2⟩ := x7clear_ok hSC
  obtain ⟨st0, z1, z2⟩ := x9clear_ok (v := MV_sAs (MV_sTh v 0) (mix (MVAs v) (MVSt v) 0))
  obtain ⟨w1, w2, w3, w4, -, -, w5⟩ := begin_ok (w := MV_sSt (MV_sAs (MV_sTh v 0) (mix (MVAs v) (MVSt v) 0)) st0) hIN rfl rfl
  have hB0 : BU u00 g00 (UV_sOs (UV_sQs D (NV_sCt (UVQs D) 0)) (NV_sCt (UVOs D) 0)) C1 (MVSt w1) := by
    rw [w4]
    exact BU00 c2 z2 rfl rfl
  have h600 := hIN.1
  obtain ⟨R', C', D', v', l1, l2, l3, l4, l5, l6⟩ := setup_loop (hs := hs) (T.length - 0) 0 0 FU FU (rb R) C1 _ w1 _ _ rfl (by have : FU = 5000 := rfl; omega) (by have : FU = 5000 := rfl; omega) (Nat.le_refl _) w5 hB0
  have ec : f_X8_readSetup (hs, R, C, D) = f_X8_readSetup_j114 (hs, R', C', D') := by
    unfold f_X8_readSetup f_X6_clear
    rw [bnd2_some, show f_X7_clear (LrcdC (hs, R, C, D)) = _ from c1, bnd2_some, show f_X4_begin (LrcdR (hs, R, C, D)) = _ from begin_c, bnd2_some]
    exact l1
  have er : f_X9_loadSetup v = f_X9_loadSetup_j42 v' := by
    unfold f_X9_loadSetup
    rw [copyTo2_ok, bnd2_some, show f_X9_clear (MV_sAs (MV_sTh v 0) (mix (MVAs (MV_sTh v 0)) (MVSt (MV_sTh v 0)) 0)) = _ from z1, bnd2_some, w2, bnd2_some]
    exact l2
  have hkp : kp v' = kp (MV_sAs (MV_sTh v 0) (mix (MVAs v) (MVSt v) 0)) := l4.trans w3
  have eAs : MVAs v' = mix (MVAs v) (MVSt v) 0 := congrArg (fun z : KP => z.1) hkp
  have eSv : MVSv v' = MVSv v := congrArg (fun z : KP => z.2.1) hkp
  have ePt : MVPt v' = MVPt v := congrArg (fun z : KP => z.2.2.1) hkp
  have ePc : MVPc v' = MVPc v := congrArg (fun z : KP => z.2.2.2.1) hkp
  have eIs : MVIs v' = MVIs v := congrArg (fun z : KP => z.2.2.2.2.1) hkp
  have eOu : MVOu v' = MVOu v := congrArg (fun z : KP => z.2.2.2.2.2.2.2.2.2.2.2.1) hkp
  have eOl : MVOl v' = MVOl v := congrArg (fun z : KP => z.2.2.2.2.2.2.2.2.2.2.2.2) hkp
  have hLn : RVLn R' = 0 := l3.2.1
  -- a text with an error
  have bad : ∀ {kk o : Nat} {R'' : RV} {w : MV} {st : Nat → Int32}, f_X8_readSetup_j114 (hs, R', C', D') = some (0, (hs, R'', C', D')) → f_X9_loadSetup_j42 v' = some (-1, wE w (nI kk) (nI o) st) → PE kk o R'' w → SR R' R'' → kp w = kp v' → (∀ n, n < 500 → st n = MVSt v n) → ∃ r b hs' R' Y' S' C' U' D' v', f_X8_loadSetup (hs, R, Y, S, C, U, D) = some (r, b, (hs', R', Y', S', C', U', D')) ∧ f_X9_loadSetup v = some (r, v') ∧ ALL' hs' R' O Y' S' C' K U' v' := by
    intro kk o R'' w st e1 e2 pe hsr hk hst
    have fSv : MVSv w = MVSv v := (congrArg (fun z : KP => z.2.1) hk).trans eSv
    have fPt : MVPt w = MVPt v := (congrArg (fun z : KP => z.2.2.1) hk).trans ePt
    have fPc : MVPc w = MVPc v := (congrArg (fun z : KP => z.2.2.2.1) hk).trans ePc
    have fIs : MVIs w = MVIs v := (congrArg (fun z : KP => z.2.2.2.2.1) hk).trans eIs
    have fOu : MVOu w = MVOu v := (congrArg (fun z : KP => z.2.2.2.2.2.2.2.2.2.2.2.1) hk).trans eOu
    have fOl : MVOl w = MVOl v := (congrArg (fun z : KP => z.2.2.2.2.2.2.2.2.2.2.2.2) hk).trans eOl
    refine ⟨-1, false, hs, R'', Y, S, C', U, D', wE w (nI kk) (nI o) st, ?_, ?_, u, g, H, k, [], hUB, ⟨hUI, hI, hC, MSU_congr hUI hI hst hM, ?_⟩, hCU, ?_, l5, ⟨by simp, by simp, ?_, fun j c hj => by simp at hj, rfl, fun j c hj => by simp at hj⟩, ⟨pe.1, pe.2.1⟩, ?_⟩
    · unfold f_X8_loadSetup
      rw [show f_X8_readSetup (LryscudHs (hs, R, Y, S, C, U, D), LryscudR (hs, R, Y, S, C, U, D), LryscudC (hs, R, Y, S, C, U, D), LryscudD (hs, R, Y, S, C, U, D)) = _ from ec.trans e1, bnd2_some, if_pos rfl]
      rfl
    · rw [er, e2]
    · show HR u H Y (MVPt w) (MVPc w)
      rw [fPt, fPc]
      exact hH
    · show KR u k hs K (MVIs w) (MVSv w)
      rw [fIs, fSv]
      exact hK
    · rw [hsr.2.1]; exact hLn
    · obtain ⟨L, o1, o2, o3⟩ := hO
      refine ⟨L, o1, o2, ?_⟩
      show ORp L (MVOu w) (MVOl w)
      rw [fOu, fOl]
      exact o3
  have hmix : ∀ n, n < 500 → mix (MVSt v') (MVAs v') 0 n = MVSt v n := fun n hn => by rw [mix_at hn, eAs, mix_at hn]
  rcases l6 with ⟨u', g', q, m1, hB⟩ | ⟨kk, o, pe⟩
  · rcases setup_fin (hs := hs) m1 hB with ⟨hq1, ho1, e1, e2⟩ | ⟨pe, e1, e2⟩
    · obtain ⟨bB, bI, bP, bU, bC, bM, bS, bZ⟩ := hB
      obtain ⟨S', k1, k2⟩ := copy_ok (A := S) bC bI.1
      obtain ⟨hl, hc1, hc2, x, hx, h3, h4⟩ := hH
      have hUI' : UI u' := bB.ui hq1
      refine ⟨nI (aJ g'), true, 0, R', YV_sCt Y 0, SV_sH S' (HV_sSw (HV_sCm (SVH S') 0) 0), C', D', U, wG v' (upd (upd (MVSt v') 3 0) 4 0), ?_, ?_, u', zcG g', [], none, [], bB, ⟨hUI', bI, CS_zc k2, ⟨MS_zc bB.1 bM, US_zc bB bS⟩, HR_nil hx h3 rfl⟩, bU, ⟨rfl, rfl⟩, l5, ⟨by simp, by simp, hLn, fun j c hj => by simp at hj, rfl, fun j c hj => by simp at hj⟩, ⟨m1.2.2.2.2.1, m1.2.2.2.2.2.1⟩, ?_⟩
      · unfold f_X8_loadSetup
        rw [show f_X8_readSetup (LryscudHs (hs, R, Y, S, C, U, D), LryscudR (hs, R, Y, S, C, U, D), LryscudC (hs, R, Y, S, C, U, D), LryscudD (hs, R, Y, S, C, U, D)) = _ from ec.trans e1, bnd2_some, if_neg n10]
        unfold f_X8_adoptDraft f_X0_clearCounters f_X1_clear
        rw [show f_X7_copyFrom (LyscudS (LrcdHs (hs, R', C', D'), LryscudY (hs, R, Y, S, C, U, D), LryscudS (hs, R, Y, S, C, U, D), LrcdC (hs, R', C', D'), LryscudU (hs, R, Y, S, C, U, D), LrcdD (hs, R', C', D')), LyscudC (LrcdHs (hs, R', C', D'), LryscudY (hs, R, Y, S, C, U, D), LryscudS (hs, R, Y, S, C, U, D), LrcdC (hs, R', C', D'), LryscudU (hs, R, Y, S, C, U, D), LrcdD (hs, R', C', D'))) = _ from k1, bnd2_some, bnd2_some, bnd2_some, bnd2_some]
        show some (SVJc S', true, _) = _
        rw [k2.1]
        rfl
      · rw [er, e2]
      · obtain ⟨L, o1, o2, o3⟩ := hO
        refine ⟨L, o1, o2, ?_⟩
        show ORp L (MVOu v') (MVOl v')
        rw [eOu, eOl]
        exact o3
    · exact bad e1 e2 pe ⟨rfl, rfl, rfl⟩ rfl hmix
  · exact bad (j114_er pe) (j42_er pe) pe SR.rfl' rfl hmix
