/-! ===== 44: more changes: printed, submitted; a state saved, restored ===== -/
def obG (g : GS) (q : Nat) : Int32 := if aPs g q = true then 1 else if hv (aF g q) = -1 then 2 else 0
theorem obstacle_ok {g : GS} {S : SV} {q : Nat} (hC : CS g S) (hq : q < 6) : f_X7_obstacle S (nI q) = some (obG g q) := by
  unfold f_X7_obstacle obG
  obtain ⟨e1, -, e3⟩ := hC.2.2.2.1 q hq
  rw [isQueue_n hq, Option.bind_some, if_neg n10]
  simp only [if_neg (o6 hq), c6 hq, e1, e3]
  cases aPs g q with
  | true => rw [if_neg (show ¬ b2i true = 0 by decide), if_pos rfl]
  | false =>
    rw [if_pos (show b2i false = 0 from rfl), if_neg (show ¬ (false = true) by decide)]
    by_cases c : hv (aF g q) = -1
    · rw [if_pos c, if_pos c]
    · rw [if_neg c, if_neg c]
theorem mobstacle_ok {u : GU} {g : GS} {v : MV} {q : Nat} (hQ : uQ u ≤ 6) (hM : MS u g (MVSt v)) (hq : q < uQ u) : f_X9_obstacle v (nI q) = some (obG g q) := by
  unfold f_X9_obstacle f_X9_q obG
  obtain ⟨e1, -, e3⟩ := hM.2.2.2.1 q hq
  have hx : 10 + 11 * q + 8 < 500 := by omega
  rw [Option.bind_some, qadr, show nI (10 + 11 * q) + (8 : Int32) = nI (10 + 11 * q + 8) from nI_add _ 8]
  simp only [if_neg (o500 hx), c500 hx, e3, rootOf_ok (v := v) (show q < 6 by omega), Option.bind_some, e1]
  cases aPs g q with
  | true => rw [if_pos (show b2i true = 1 from rfl), if_pos rfl]
  | false =>
    rw [if_neg (show ¬ b2i false = 1 by decide), if_neg (show ¬ (false = true) by decide)]
    by_cases c : hv (aF g q) = -1
    · rw [if_pos c, if_pos c]
    · rw [if_neg c, if_neg c]
/-- the job at the root -/
theorem root_job {u : GU} {g : GS} {q : Nat} (hI : GI u g) (h : ¬ hv (aF g q) = -1) : ∃ i, hv (aF g q) = nI i ∧ i < aJ g ∧ aFt g i = 0 ∧ aQu g i = q := by
  cases e : aF g q with
  | leaf x => rw [e] at h; exact absurd rfl h
  | branch i l r =>
    obtain ⟨h1, h2, h3⟩ := (hI.2.2.2.1 q i).mp (by rw [e]; exact List.mem_cons_self)
    exact ⟨i, rfl, h1, h2, h3⟩
theorem obG_0 {g : GS} {q : Nat} (h : obG g q = 0) : ¬ hv (aF g q) = -1 := by
  intro e
  unfold obG at h
  rw [if_pos e] at h
  split at h
  · exact absurd h (by decide)
  · exact absurd h (by decide)
theorem mprintRoot_ok {u : GU} {g : GS} {v : MV} {q i : Nat} (hI : GI u g) (hM : MS u g (MVSt v)) (hq : q < uQ u) (hr : hv (aF g q) = nI i) (hi : i < aJ g) (hf : aFt g i = 0) (hqi : aQu g i = q) :
    ∃ st, f_X9_printRoot v (nI q) = some (nI i, MV_sSt v st) ∧ MS u (endG g i 1) st ∧ frS (MVSt v) st := by
  have hQ := hI.2.1.2
  have hJ := hI.1
  have i40 : i < 40 := by omega
  have hx : 10 + 11 * q + 10 < 500 := by omega
  obtain ⟨st, m1, m2⟩ := mend_ok hI hM hi hf (b := 1) (Or.inl rfl)
  obtain ⟨st', t1, -, -, -, -, -, t7, -⟩ := mtake_ok hI hM hi hf
  have est : st' = st := by
    have := t1.symm.trans m1
    have h2 := congrArg (fun o => match o with | some (_, w) => MVSt w | none => st) this
    exact h2
  subst est
  obtain ⟨m3, m4⟩ := m2 _ (by rw [if_pos rfl])
  rw [hqi] at m3 m4 t7
  refine ⟨_, ?_, m3, m4⟩
  have e10 : upd st' (140 + 9 * i + 3) 1 (10 + 11 * q + 10) = aPd g q := by
    rw [upd_ne (by omega), t7.2 _ (by omega) (by omega) (by omega) (by omega)]
    exact (hM.2.2.2.1 q hq).2.1
  have e2 : jf (upd st' (140 + 9 * i + 3) 1) 2 i = aPg g i := by
    rw [jf_ne (by omega) (by omega) (by omega), t7.1 2 (by omega)]
    exact (hM.2.1 i hi).2.2.1
  unfold f_X9_printRoot f_X9_q
  rw [rootOf_ok (by omega), Option.bind_some, (hM.2.2.2.1 q hq).1, hr, m1, bnd2_some, set_3 i40, bnd2_some, Option.bind_some, qadr, show nI (10 + 11 * q) + (10 : Int32) = nI (10 + 11 * q + 10) from nI_add _ 10]
  simp only [if_neg (o500 hx), c500 hx, get_2 i40, Option.bind_some, sS, mSt, e10, e2]
  rfl
theorem O_printNext {u : GU} {g : GS} {H : List GS} {hs : Int32} {Y : YV} {S : SV} {U : UV} {v : MV} (hR : RT u g H Y S v) (hu : NVCt (UVQs U) = nI (uQ u)) (a : Int32) :
    ∃ rc Y' S' x st P c th, f_X8_printNext (hs, Y, S, U) a = some (rc, (hs, Y', S', U)) ∧ f_X9_printNext v a = some (x, mvc v st P c th) ∧ agr [IOB, ISE] rc x th ∧ ∃ g' H', RT u g' H' Y' S' (mvc v st P c th) := by
  obtain ⟨hU, hI, hC, hM, hH⟩ := hR
  have hQ := hI.2.1.2
  unfold f_X8_printNext f_X9_printNext
  rcases rng a (n := uQ u) (by omega) with ⟨q, hq, rfl, hqr⟩ | ⟨b1, b2⟩
  · have hq6 : q < 6 := by omega
    rw [show f_X8_checkQueue (LysuHs (hs, Y, S, U), LysuU (hs, Y, S, U)) (nI q) = _ from checkQueue_in (hs := hs) hu hQ hq, bndT_l, isQ_ok hM.1, Option.bind_some, if_pos hqr, if_neg n10, mobstacle_ok hQ hM.1 hq, Option.bind_some, show f_X7_obstacle (LysuS (hs, Y, S, U)) (nI q) = _ from obstacle_ok hC hq6, Option.bind_some]
    by_cases c : obG g q = 0
    · rw [if_pos c, if_pos c]
      obtain ⟨i, hr, hi, hf, hqi⟩ := root_job hI (obG_0 c)
      have hro : SVRo S q = nI i := ((hC.2.2.2.1 q hq6).1).trans hr
      obtain ⟨Y', P', c', k1, k2, k3⟩ := keep_ok (v := MV_sTh v 0) hU hI hC hM hH
      obtain ⟨w, e1, e2⟩ := endJob_ok hI hC hi hf (b := 1) (Or.inl rfl)
      have hI2 : GI u (endG g i 1) := hI.fin hi hf (Or.inl rfl)
      obtain ⟨st, m1, m2, m3⟩ := mprintRoot_ok (v := MV_sPc (MV_sPt (MV_sTh v 0) P') c') hI hM.1 hq hr hi hf hqi
      refine ⟨.inl (nI i), Y', w, nI i, st, P', c', 0, ?_, ?_, agr_v, endG g i 1, (g :: H).take 8, hU, hI2, e2, ⟨m2, US_congr hU m3 hM.2⟩, k3⟩
      · rw [show f_X1_keep (LysuY (hs, Y, S, U), LysuS (hs, Y, S, U)) = _ from k1, bnd2_some]
        simp only [if_neg (o6 hq6), c6 hq6]
        show bnd2 (f_X7_endJob S (SVRo S q) (nI 1)) (fun r13 w14 => some ((Sum.inl (SVRo S q) : Int32 ⊕ String), ((hs, Y', w14, U) : Lysu))) = _
        rw [hro, e1, bnd2_some]
      · unfold f_X9_printNext_j25 f_X9_check
        rw [if_neg n10, if_neg n10, if_neg n10, bnd2_some, if_neg n10, k2, bnd2_some, m1, bnd2_some]
        rfl
    · rw [if_neg c, if_neg c]
      unfold f_X9_printNext_j24 f_X9_printNext_j25 f_X9_check
      rw [if_neg n10, if_pos rfl, bnd2_some, if_pos rfl]
      exact ⟨.inr ISE, Y, S, 0, MVSt v, MVPt v, MVPc v, 2, rfl, rfl, agr_2, g, H, hU, hI, hC, hM, hH⟩
  · rw [show f_X8_checkQueue (LysuHs (hs, Y, S, U), LysuU (hs, Y, S, U)) a = _ from checkQueue_out (hs := hs) hu b1, bndT_r, isQ_ok hM.1, Option.bind_some, if_neg b2, if_pos rfl]
    unfold f_X9_printNext_j24 f_X9_printNext_j25 f_X9_check
    rw [if_pos rfl, bnd2_some, if_pos rfl]
    exact ⟨.inr IOB, Y, S, 0, MVSt v, MVPt v, MVPc v, 1, rfl, rfl, agr_1, g, H, hU, hI, hC, hM, hH⟩
theorem isO_ok {u : GU} {g : GS} {v : MV} (hM : MS u g (MVSt v)) (a : Int32) : f_X9_isOwner v a = some (if 0 ≤ a ∧ a ≤ nI (uO u) - 1 then 1 else 0) := by
  unfold f_X9_isOwner
  simp only [if_neg (show ¬ oob 1 500 by decide), show Int32.toNatClampNeg 1 = 1 from by decide]
  rw [hM.1.2.1, show (0 : Int64) = (0 : Int32).toInt64 from rfl, within_ok, Option.bind_some]
  split
  · rw [if_neg (by decide)]
  · rw [if_neg (by decide)]
theorem checkOwner_in {u : GU} {hs : Int32} {U : UV} (hu : NVCt (UVOs U) = nI (uO u)) (hO : uO u ≤ 8) {i : Nat} (hi : i < uO u) : f_X8_checkOwner (hs, U) (nI i) = some (.inl ()) := by
  unfold f_X8_checkOwner
  rw [if_neg (nI_pos (by omega)), show NVCt (UVOs (LuU (hs, U))) = nI (uO u) from hu, if_neg (nI_ge hi (by omega)), if_pos (show nI i < 8 from nI_lt (a := i) (b := 8) (by omega) (by decide))]
theorem checkOwner_out {u : GU} {hs : Int32} {U : UV} (hu : NVCt (UVOs U) = nI (uO u)) {a : Int32} (h : a < 0 ∨ nI (uO u) ≤ a) : f_X8_checkOwner (hs, U) a = some (.inr IOB) := by
  unfold f_X8_checkOwner
  rw [show NVCt (UVOs (LuU (hs, U))) = nI (uO u) from hu]
  by_cases c : a < 0
  · rw [if_pos c]; rfl
  · rw [if_neg c, if_pos (h.resolve_left c)]; rfl
theorem isFull_ok {g : GS} {S : SV} (hC : CS g S) (hJ : aJ g ≤ 40) : f_X7_isFull S = some (if aJ g < 40 then 0 else 1) := by
  unfold f_X7_isFull
  rw [hC.1]
  by_cases c : aJ g < 40
  · rw [if_pos c, if_pos (show nI (aJ g) < 40 from nI_lt (b := 40) c (by decide))]
  · rw [if_neg c, if_neg (show ¬ nI (aJ g) < 40 from nI_nlt (b := 40) (by omega) (by omega))]
theorem sub76_1 {v : MV} {a b c d s0 s1 : Int32} : f_X9_submit_j76 a b c d s0 s1 0 v = some (0, MV_sTh v 1) := by
  unfold f_X9_submit_j76 f_X9_check
  rw [if_pos rfl, bnd2_some, if_pos rfl]
theorem sub53_1 {u : GU} {g : GS} {v : MV} {a b c d s0 : Int32} : f_X9_submit_j53 a b c d 0 s0 v = some (0, MV_sTh v 1) := by
  unfold f_X9_submit_j53
  rw [if_neg o2]
  split
  · exact sub76_1
  · exact sub76_1
theorem sub21_1 {u : GU} {g : GS} {v : MV} {a b c d : Int32} : f_X9_submit_j21 a b c d 0 v = some (0, MV_sTh v 1) := by
  unfold f_X9_submit_j21 f_X9_submit_j52
  rw [within99, Option.bind_some, show f_X9_isWithin (Int32.toInt64 d) 1 99 = _ from within_ok d 1 99, Option.bind_some]
  repeat (first | exact sub53_1 (u := u) (g := g) | split)
theorem sub53_2 {v : MV} {a b c d : Int32} : f_X9_submit_j53 a b c d 1 0 v = some (0, MV_sTh v 2) := by
  unfold f_X9_submit_j53 f_X9_submit_j76 f_X9_check
  rw [if_neg o2, if_neg n10, if_pos rfl, bnd2_some, if_pos rfl]
  split <;> rfl
theorem O_submit {u : GU} {g : GS} {H : List GS} {hs : Int32} {Y : YV} {S : SV} {U : UV} {v : MV} (hR : RT u g H Y S v) (hu : NVCt (UVQs U) = nI (uQ u)) (ho : NVCt (UVOs U) = nI (uO u)) (a b c d : Int32) :
    ∃ rc Y' S' x st P n th, f_X8_submit (hs, Y, S, U) a b c d = some (rc, (hs, Y', S', U)) ∧ f_X9_submit v a b c d = some (x, mvc v st P n th) ∧ agr [IOB, IAE, ISE] rc x th ∧ ∃ g' H', RT u g' H' Y' S' (mvc v st P n th) := by
  obtain ⟨hU, hI, hC, hM, hH⟩ := hR
  have hJ := hI.1
  have hQ := hI.2.1.2
  have hO := hU.2.1
  have w1 : f_X9_isWithin (Int32.toInt64 d) 1 99 = some (if 1 ≤ d ∧ d ≤ 99 then 1 else 0) := within_ok d 1 99
  have k0 : ∀ x1 : Option (Int32 × MV), x1 = some (0, MV_sTh v 1) → x1 = some (0, mvc v (MVSt v) (MVPt v) (MVPc v) 1) := fun _ h => h
  unfold f_X8_submit f_X9_submit f_X9_submit_j20
  rw [isQ_ok hM.1, Option.bind_some]
  rcases rng a (n := uQ u) (by omega) with ⟨q, hq, rfl, hqr⟩ | ⟨a1, a2⟩
  · have hq6 : q < 6 := by omega
    rw [show f_X8_checkQueue (LysuHs (hs, Y, S, U), LysuU (hs, Y, S, U)) (nI q) = _ from checkQueue_in (hs := hs) hu hQ hq, bndT_l, if_pos hqr, if_neg n10, isO_ok hM.1, Option.bind_some]
    rcases rng b (n := uO u) (by omega) with ⟨o, hoo, rfl, hor⟩ | ⟨b1, b2⟩
    · rw [show f_X8_checkOwner (LysuHs (hs, Y, S, U), LysuU (hs, Y, S, U)) (nI o) = _ from checkOwner_in (hs := hs) ho hO hoo, bndT_l, if_pos hor, if_neg n10]
      unfold f_X9_submit_j21 f_X9_submit_j52
      rw [within99, Option.bind_some, w1, Option.bind_some]
      rcases rng c (n := 100) (by decide) with ⟨p, hp, rfl, hpr⟩ | ⟨c1, c2⟩
      · rw [e99] at hpr
        rw [checkPriority_in hp, bndT_l, if_pos hpr, if_neg n10]
        by_cases hd1 : d < 1
        · rw [if_pos hd1, if_neg (show ¬ (1 ≤ d ∧ d ≤ 99) from fun h => (i32nlt.mpr h.1) hd1), if_pos rfl, sub53_2]
          exact ⟨.inr IAE, Y, S, 0, MVSt v, MVPt v, MVPc v, 2, rfl, rfl, agr_2, g, H, hU, hI, hC, hM, hH⟩
        · rw [if_neg hd1]
          by_cases hd2 : d ≤ 99
          · rw [if_pos hd2, if_pos (show 1 ≤ d ∧ d ≤ 99 from ⟨i32nlt.mp hd1, hd2⟩), if_neg n10, show f_X7_isFull (LysuS (hs, Y, S, U)) = _ from isFull_ok hC hJ, Option.bind_some]
            unfold f_X9_submit_j53
            simp only [if_neg o2, cl2, hM.1.1.2.2]
            by_cases hF : aJ g < 40
            · have hpg : ∃ n, d = nI n ∧ 1 ≤ n ∧ n ≤ 99 := by
                rcases rng d (n := 100) (by decide) with ⟨n, hn, rfl, -⟩ | ⟨-, d2⟩
                · refine ⟨n, rfl, ?_, by omega⟩
                  cases n with
                  | zero => exact absurd (show nI 0 < 1 by decide) hd1
                  | succ n => omega
                · rw [e99] at d2
                  refine absurd ⟨?_, hd2⟩ d2
                  have h1 := i32nlt.mp hd1
                  rw [Int32.le_iff_toInt_le] at h1 ⊢
                  have e1 : (1 : Int32).toInt = 1 := rfl
                  have e0 : (0 : Int32).toInt = 0 := rfl
                  omega
              obtain ⟨n, rfl, hn⟩ := hpg
              rw [if_pos hF, if_pos rfl, if_neg (show ¬ (40 : Int32) ≤ nI (aJ g) from nI_ge (b := 40) hF (by decide))]
              obtain ⟨Y', P', c', k1, k2, k3⟩ := keep_ok (v := MV_sTh v 0) hU hI hC hM hH
              obtain ⟨w, e1, e2⟩ := addJob_ok (q := q) (p := p) (o := nI o) (n := nI n) hI hC hF hq6 hp
              have hI2 : GI u (addG g q (nI o) p (nI n)) := hI.add hF hq hp hn
              obtain ⟨st, m1, m2, m3⟩ := maddJob_ok (v := MV_sPc (MV_sPt (MV_sTh v 0) P') c') (q := q) (p := p) (o := nI o) (n := nI n) hI hM.1 hF hq hp
              refine ⟨.inl (nI (aJ g)), Y', w, nI (aJ g), st, P', c', 0, ?_, ?_, agr_v, addG g q (nI o) p (nI n), (g :: H).take 8, hU, hI2, e2, ⟨m2, US_congr hU m3 hM.2⟩, k3⟩
              · rw [show f_X1_keep (LysuY (hs, Y, S, U), LysuS (hs, Y, S, U)) = _ from k1, bnd2_some]
                show bnd2 (f_X7_addJob S (nI q) (nI o) (nI p) (nI n)) (fun r20 w21 => some ((Sum.inl r20 : Int32 ⊕ String), ((hs, Y', w21, U) : Lysu))) = _
                rw [e1, bnd2_some]
              · unfold f_X9_submit_j76 f_X9_check
                rw [if_neg n10, if_neg n10, if_neg n10, bnd2_some, if_neg n10, k2, bnd2_some, m1, bnd2_some]
                rfl
            · rw [if_neg hF, if_neg n10, if_pos (show (40 : Int32) ≤ nI (aJ g) from nI_le (a := 40) (by omega) (by omega))]
              unfold f_X9_submit_j76 f_X9_check
              rw [if_neg n10, if_neg n10, if_pos rfl, bnd2_some, if_pos rfl]
              exact ⟨.inr ISE, Y, S, 0, MVSt v, MVPt v, MVPc v, 3, rfl, rfl, agr_3, g, H, hU, hI, hC, hM, hH⟩
          · rw [if_neg hd2, if_neg (show ¬ (1 ≤ d ∧ d ≤ 99) from fun h => hd2 h.2), if_pos rfl, sub53_2]
            exact ⟨.inr IAE, Y, S, 0, MVSt v, MVPt v, MVPc v, 2, rfl, rfl, agr_2, g, H, hU, hI, hC, hM, hH⟩
      · rw [e99] at c2
        rw [checkPriority_out c2, bndT_r, if_neg c2, if_pos rfl, sub53_2]
        exact ⟨.inr IAE, Y, S, 0, MVSt v, MVPt v, MVPc v, 2, rfl, rfl, agr_2, g, H, hU, hI, hC, hM, hH⟩
    · rw [show f_X8_checkOwner (LysuHs (hs, Y, S, U), LysuU (hs, Y, S, U)) b = _ from checkOwner_out (hs := hs) ho b1, bndT_r, if_neg b2, if_pos rfl]
      exact ⟨.inr IOB, Y, S, 0, MVSt v, MVPt v, MVPc v, 1, rfl, k0 _ (sub21_1 (u := u) (g := g)), agr_1, g, H, hU, hI, hC, hM, hH⟩
  · rw [show f_X8_checkQueue (LysuHs (hs, Y, S, U), LysuU (hs, Y, S, U)) a = _ from checkQueue_out (hs := hs) hu a1, bndT_r, if_neg a2, if_pos rfl]
    exact ⟨.inr IOB, Y, S, 0, MVSt v, MVPt v, MVPc v, 1, rfl, k0 _ (sub21_1 (u := u) (g := g)), agr_1, g, H, hU, hI, hC, hM, hH⟩
/-- the saved state, on both sides -/
def KR (u : GU) (K : Option GS) (hs : Int32) (C : SV) (is : Int32) (sv : Nat → Int32) : Prop := match K with
  | none => hs = 0 ∧ is = 0
  | some k => hs = 1 ∧ is = 1 ∧ GI u k ∧ CS k C ∧ MSU u k sv
theorem O_saveState {u : GU} {g : GS} {H : List GS} {hs : Int32} {Y : YV} {S C : SV} {v : MV} (hR : RT u g H Y S v) :
    ∃ C' sv, f_X8_saveState (hs, S, C) = some (nI (aJ g), (1, S, C')) ∧ f_X9_saveState v = some (nI (aJ g), MV_sIs (MV_sSv (MV_sTh v 0) sv) 1) ∧ KR u (some g) 1 C' 1 sv := by
  obtain ⟨hU, hI, hC, hM, hH⟩ := hR
  obtain ⟨C', k1, k2⟩ := copy_ok (A := C) hC hI.1
  refine ⟨C', mix (MVSv v) (MVSt v) 0, ?_, ?_, rfl, rfl, hI, k2, MSU_congr hU hI (fun n hn => mix_at hn) hM⟩
  · unfold f_X8_saveState
    rw [show f_X7_copyFrom (LskK (hs, S, C), LskS (hs, S, C)) = _ from k1, bnd2_some]
    show some (SVJc S, ((1, S, C') : Lsk)) = _
    rw [hC.1]
  · unfold f_X9_saveState
    rw [copyTo3_ok, bnd2_some, if_neg o2, cl2]
    show some (MVSt v 2, _) = _
    rw [hM.1.1.2.2]
    rfl
theorem O_restoreState {u : GU} {g : GS} {H : List GS} {K : Option GS} {hs : Int32} {Y : YV} {S C : SV} {v : MV} (hR : RT u g H Y S v) (hK : KR u K hs C (MVIs v) (MVSv v)) :
    ∃ rc Y' S' C' x st P n th, f_X8_restoreState (hs, Y, S, C) = some (rc, (hs, Y', S', C')) ∧ f_X9_restoreState v = some (x, mvc v st P n th) ∧ agr [NSE] rc x th ∧ KR u K hs C' (MVIs v) (MVSv v) ∧ ∃ g' H', RT u g' H' Y' S' (mvc v st P n th) := by
  obtain ⟨hU, hI, hC, hM, hH⟩ := hR
  unfold f_X8_restoreState f_X9_restoreState f_X9_check
  cases K with
  | none =>
    obtain ⟨h1, h2⟩ := id hK
    subst h1
    rw [show LyskHs (0, Y, S, C) = 0 from rfl, if_pos rfl, h2, if_pos rfl, bnd2_some, if_pos rfl]
    exact ⟨.inr NSE, Y, S, C, 0, MVSt v, MVPt v, MVPc v, 1, rfl, rfl, agr_1, ⟨rfl, rfl⟩, g, H, hU, hI, hC, hM, hH⟩
  | some k =>
    obtain ⟨h1, h2, kI, kC, kM⟩ := id hK
    subst h1
    obtain ⟨S', k1, k2⟩ := copy_ok (A := S) kC kI.1
    obtain ⟨hl, c1, c2, x, hx, h3, h4⟩ := hH
    rw [show LyskHs (1, Y, S, C) = 1 from rfl, if_neg n10, h2, if_neg n10, if_neg n10, if_neg n10, bnd2_some, if_neg n10, copyFrom3_ok, bnd2_some, if_neg o2, cl2]
    refine ⟨.inl (nI (aJ k)), YV_sCt Y 0, S', C, nI (aJ k), mix (MVSt v) (MVSv v) 0, MVPt v, 0, 0, ?_, ?_, agr_v, by rw [h2] at hK; exact hK, k, [], hU, kI, k2, MSU_congr hU kI (fun n hn => mix_at hn) kM, HR_nil hx h3 rfl⟩
    · rw [show f_X7_copyFrom (LyskS (1, Y, S, C), LyskK (1, Y, S, C)) = _ from k1, bnd2_some]
      show some ((Sum.inl (SVJc S') : Int32 ⊕ String), ((1, YV_sCt Y 0, S', C) : Lysk)) = _
      rw [k2.1]
    · show some (mix (MVSt v) (MVSv v) 0 2, _) = _
      rw [mix_at (by decide), kM.1.1.2.2]
      rfl
