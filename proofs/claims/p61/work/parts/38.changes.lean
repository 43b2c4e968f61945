/-! ===== 38: operations that change the state, on both sides ===== -/
/-- the reference behind a change -/
def mvc (v : MV) (st P : Nat → Int32) (c th : Int32) : MV := (st, MVAs v, MVSv v, P, c, MVIs v, th, MVSp v, MVSl v, MVBf v, MVLn v, MVEc v, MVEo v, MVSa v, MVEn v, MVTk v, MVVa v, MVFa v, MVFo v, MVSm v, MVSc v, MVOr v, MVOu v, MVOl v)
theorem mvc_id {v : MV} {th : Int32} : mvc v (MVSt v) (MVPt v) (MVPc v) th = MV_sTh v th := rfl
/-- related: setup u, state g, history H -/
def RT (u : GU) (g : GS) (H : List GS) (Y : YV) (S : SV) (v : MV) : Prop := UI u ∧ GI u g ∧ CS g S ∧ MSU u g (MVSt v) ∧ HR u H Y (MVPt v) (MVPc v)
theorem checkWaits_ok {u : GU} {g : GS} {hs : Int32} {S : SV} (hI : GI u g) (hC : CS g S) {i : Nat} (hi : i < aJ g) : f_X8_checkWaits (hs, S) (nI i) = some (if aFt g i = 0 then .inl () else .inr ISE) := by
  unfold f_X8_checkWaits
  rw [show f_X7_waits (LsS (hs, S)) (nI i) = _ from waits_ok hI hC hi, Option.bind_some]
  by_cases c : aFt g i = 0
  · rw [if_pos c, if_neg n10, if_pos c]
  · rw [if_neg c, if_pos rfl, if_neg c]; rfl
theorem mcheckWaiting_in {u : GU} {g : GS} {v : MV} (hI : GI u g) (hM : MS u g (MVSt v)) {i : Nat} (hi : i < aJ g) (h : 0 ≤ nI i ∧ nI i ≤ nI (aJ g) - 1) : f_X9_checkWaiting v (nI i) = if aFt g i = 0 then some (1, MV_sTh v 0) else some (0, MV_sTh v 2) := by
  unfold f_X9_checkWaiting f_X9_check
  rw [isJob_ok hM, if_pos h, Option.bind_some, if_neg n10, mwaits_ok hI hM hi, Option.bind_some]
  by_cases c : aFt g i = 0
  · rw [if_pos c, if_neg n10, if_neg n10, if_neg n10, if_neg n10, bnd2_some, if_neg (by decide), if_pos c]
  · rw [if_neg c, if_pos rfl, if_neg n10, if_pos rfl, bnd2_some, if_neg (by decide), if_neg c]
theorem mcheckWaiting_out {u : GU} {g : GS} {v : MV} (hM : MS u g (MVSt v)) {a : Int32} (h : ¬ (0 ≤ a ∧ a ≤ nI (aJ g) - 1)) : f_X9_checkWaiting v a = some (0, MV_sTh v 1) := by
  unfold f_X9_checkWaiting f_X9_check
  rw [isJob_ok hM, if_neg h, Option.bind_some, if_pos rfl, if_pos rfl, bnd2_some, if_neg (by decide)]
theorem O_cancel {u : GU} {g : GS} {H : List GS} {hs : Int32} {Y : YV} {S : SV} {v : MV} (hR : RT u g H Y S v) (a : Int32) :
    ∃ rc Y' S' b st P c th, f_X8_cancel (hs, Y, S) a = some (rc, (hs, Y', S')) ∧ f_X9_cancel v a = some (b, mvc v st P c th) ∧ agr [IOB, ISE] rc b th ∧ ∃ g' H', RT u g' H' Y' S' (mvc v st P c th) := by
  obtain ⟨hU, hI, hC, hM, hH⟩ := hR
  have hJ := hI.1
  have hQ := hI.2.1.2
  unfold f_X8_cancel f_X9_cancel
  rcases rng a (n := aJ g) (by omega) with ⟨i, hi, rfl, hr⟩ | ⟨h1, h2⟩
  · have i40 : i < 40 := by omega
    rw [show f_X8_checkJob (LysHs (hs, Y, S), LysS (hs, Y, S)) (nI i) = _ from checkJob_in (hs := hs) hI hC hi, bndT_l, show f_X8_checkWaits (LysHs (hs, Y, S), LysS (hs, Y, S)) (nI i) = _ from checkWaits_ok (hs := hs) hI hC hi, mcheckWaiting_in hI hM.1 hi hr]
    by_cases hf : aFt g i = 0
    · rw [if_pos hf, if_pos hf, bndT_l, bnd2_some, if_neg n10]
      have q6' := q6 hI hi hf
      have hqu : SVQu S i = nI (aQu g i) := by rw [(hC.2.1 i hi).2.2.2.2.1, if_pos hf]
      obtain ⟨Y', P', c', k1, k2, k3⟩ := keep_ok (v := MV_sTh v 0) hU hI hC hM hH
      obtain ⟨w, e1, e2⟩ := endJob_ok hI hC hi hf (b := 2) (Or.inr rfl)
      have hI2 : GI u (endG g i 2) := hI.fin hi hf (Or.inr rfl)
      obtain ⟨st, m1, m2⟩ := mend_ok (v := MV_sPc (MV_sPt (MV_sTh v 0) P') c') hI hM.1 hi hf (b := 2) (Or.inr rfl)
      obtain ⟨m3, m4⟩ := m2 (upd st (140 + 9 * i + 3) 2) (by rw [if_neg (by decide)]; rfl)
      refine ⟨.inl (gSz (endG g i 2) (aQu g i)), Y', w, gSz (endG g i 2) (aQu g i), upd st (140 + 9 * i + 3) 2, P', c', 0, ?_, ?_, agr_v, endG g i 2, (g :: H).take 8, hU, hI2, e2, ⟨m3, US_congr hU m4 hM.2⟩, k3⟩
      · rw [show f_X1_keep (LysY (hs, Y, S), LysS (hs, Y, S)) = _ from k1, bnd2_some, if_neg (o40 i40), c40 i40]
        show bnd2 (f_X7_endJob S (nI i) (nI 2)) (fun r12 w13 => (f_X7_jobsIn w13 (SVQu S i)).bind fun r15 => some ((Sum.inl r15 : Int32 ⊕ String), ((hs, Y', w13) : Lys))) = _
        rw [e1, bnd2_some, hqu, jobsIn_ok hI2 e2 q6', Option.bind_some]
      · rw [k2, bnd2_some]
        unfold f_X9_cancelJob
        rw [get_4 i40, Option.bind_some, show jf (MVSt (MV_sPc (MV_sPt (MV_sTh v 0) P') c')) 4 i = nI (aQu g i) from (hM.1.2.1 i hi).2.2.2.2.1 hf, m1, bnd2_some, set_3 i40, bnd2_some, sS, mSt, sizeOf_ok (v := MV_sSt (MV_sPc (MV_sPt (MV_sTh v 0) P') c') (upd st (140 + 9 * i + 3) 2)) hI2 m3 q6', Option.bind_some, bnd2_some]
        rfl
    · rw [if_neg hf, if_neg hf, bndT_r, bnd2_some, if_pos rfl]
      exact ⟨.inr ISE, Y, S, 0, MVSt v, MVPt v, MVPc v, 2, rfl, rfl, agr_2, g, H, hU, hI, hC, hM, hH⟩
  · rw [show f_X8_checkJob (LysHs (hs, Y, S), LysS (hs, Y, S)) a = _ from checkJob_out (hs := hs) hC h1, mcheckWaiting_out hM.1 h2, bnd2_some, if_pos rfl, bndT_r]
    exact ⟨.inr IOB, Y, S, 0, MVSt v, MVPt v, MVPc v, 1, rfl, rfl, agr_1, g, H, hU, hI, hC, hM, hH⟩
