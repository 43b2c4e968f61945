/-! ===== 40: more changes: a job moved ===== -/
theorem O_moveJob {u : GU} {g : GS} {H : List GS} {hs : Int32} {Y : YV} {S : SV} {U : UV} {v : MV} (hR : RT u g H Y S v) (hu : NVCt (UVQs U) = nI (uQ u)) (a b : Int32) :
    ∃ rc Y' S' x st P c th, f_X8_moveJob (hs, Y, S, U) a b = some (rc, (hs, Y', S', U)) ∧ f_X9_moveJob v a b = some (x, mvc v st P c th) ∧ agr [IOB, ISE] rc x th ∧ ∃ g' H', RT u g' H' Y' S' (mvc v st P c th) := by
  obtain ⟨hU, hI, hC, hM, hH⟩ := hR
  have hJ := hI.1
  have hQ := hI.2.1.2
  unfold f_X8_moveJob f_X9_moveJob
  rw [isJob_ok hM.1, Option.bind_some]
  rcases rng a (n := aJ g) (by omega) with ⟨i, hi, rfl, hr⟩ | ⟨h1, h2⟩
  · have i40 : i < 40 := by omega
    rw [show f_X8_checkJob (LysuHs (hs, Y, S, U), LysuS (hs, Y, S, U)) (nI i) = _ from checkJob_in (hs := hs) hI hC hi, bndT_l, if_pos hr, if_neg n10, isQ_ok hM.1, Option.bind_some]
    rcases rng b (n := uQ u) (by omega) with ⟨q, hq, rfl, hqr⟩ | ⟨b1, b2⟩
    · have hq6 : q < 6 := by omega
      rw [show f_X8_checkQueue (LysuHs (hs, Y, S, U), LysuU (hs, Y, S, U)) (nI q) = _ from checkQueue_in (hs := hs) hu hQ hq, bndT_l, if_pos hqr, if_neg n10]
      unfold f_X9_moveJob_j21 f_X7_canMove
      rw [show f_X7_waits (LysuS (hs, Y, S, U)) (nI i) = _ from waits_ok hI hC hi, Option.bind_some, if_neg n10, mwaits_ok hI hM.1 hi, Option.bind_some, isIn_w hI hM.1 hi hq6]
      by_cases hf : aFt g i = 0
      · rw [if_pos hf, if_neg n10, if_neg n10]
        simp only [if_neg (o40 i40), c40 i40]
        rw [Option.bind_some]
        unfold w1
        by_cases c : aQu g i = q
        · rw [if_pos (show SVQu (LysuS (hs, Y, S, U)) i = nI q from (quI hI hC hi hq6).mpr ⟨hf, c⟩), if_pos (⟨hf, c⟩ : wIn g q i), if_neg n10, Option.bind_some, if_pos rfl]
          unfold f_X9_moveJob_j49 f_X9_moveJob_j50 f_X9_check
          rw [if_neg n10, if_pos rfl, bnd2_some, if_pos rfl]
          exact ⟨.inr ISE, Y, S, 0, MVSt v, MVPt v, MVPc v, 2, rfl, rfl, agr_2, g, H, hU, hI, hC, hM, hH⟩
        · rw [if_neg (show ¬ SVQu (LysuS (hs, Y, S, U)) i = nI q from fun h => c ((quI hI hC hi hq6).mp h).2), if_neg (fun (h : wIn g q i) => c h.2), if_pos rfl, Option.bind_some, if_neg n10]
          have hp := (hI.2.2.2.2.1 i hi).2.1
          obtain ⟨Y', P', c', k1, k2, k3⟩ := keep_ok (v := MV_sTh v 0) hU hI hC hM hH
          obtain ⟨w, e1, e2⟩ := insertAgain_ok (q := q) (p := aPr g i) hI hC hi hf hq6 hp
          have hI2 : GI u (reG g i q (aPr g i)) := hI.re hi hf hq hp
          obtain ⟨st, m1, m2, m3⟩ := moveTo_ok (v := MV_sPc (MV_sPt (MV_sTh v 0) P') c') (q := q) hI hM.1 hi hf hq
          refine ⟨.inl (hv (aF (reG g i q (aPr g i)) q)), Y', w, hv (aF (reG g i q (aPr g i)) q), st, P', c', 0, ?_, ?_, agr_v, reG g i q (aPr g i), (g :: H).take 8, hU, hI2, e2, ⟨m2, US_congr hU m3 hM.2⟩, k3⟩
          · rw [show f_X1_keep (LysuY (hs, Y, S, U), LysuS (hs, Y, S, U)) = _ from k1, bnd2_some]
            simp only [if_neg (o6 hq6), c6 hq6]
            show bnd2 (f_X7_insertAgain S (nI i) (nI q) (HVPr (SVH S) i)) (fun r16 w17 => some ((Sum.inl (SVRo w17 q) : Int32 ⊕ String), ((hs, Y', w17, U) : Lysu))) = _
            rw [(hC.2.1 i hi).1, e1, bnd2_some, (e2.2.2.2.1 q hq6).1]
          · unfold f_X9_moveJob_j50 f_X9_check
            rw [if_neg n10, if_neg n10, if_neg n10, bnd2_some, if_neg n10, k2, bnd2_some, m1, bnd2_some]
            rfl
      · rw [if_neg hf, if_pos rfl, if_pos rfl, Option.bind_some, if_pos rfl]
        unfold f_X9_moveJob_j49 f_X9_moveJob_j50 f_X9_check
        rw [if_neg n10, if_pos rfl, bnd2_some, if_pos rfl]
        exact ⟨.inr ISE, Y, S, 0, MVSt v, MVPt v, MVPc v, 2, rfl, rfl, agr_2, g, H, hU, hI, hC, hM, hH⟩
    · rw [show f_X8_checkQueue (LysuHs (hs, Y, S, U), LysuU (hs, Y, S, U)) b = _ from checkQueue_out (hs := hs) hu b1, bndT_r, if_neg b2, if_pos rfl]
      unfold f_X9_moveJob_j20 f_X9_moveJob_j21 f_X9_moveJob_j49 f_X9_moveJob_j50 f_X9_check
      rw [if_pos rfl, if_pos rfl, bnd2_some, if_pos rfl]
      exact ⟨.inr IOB, Y, S, 0, MVSt v, MVPt v, MVPc v, 1, rfl, rfl, agr_1, g, H, hU, hI, hC, hM, hH⟩
  · rw [show f_X8_checkJob (LysuHs (hs, Y, S, U), LysuS (hs, Y, S, U)) a = _ from checkJob_out (hs := hs) hC h1, bndT_r, if_neg h2, if_pos rfl]
    unfold f_X9_moveJob_j20 f_X9_moveJob_j21 f_X9_moveJob_j49 f_X9_moveJob_j50 f_X9_check
    rw [if_pos rfl, if_pos rfl, bnd2_some, if_pos rfl]
    exact ⟨.inr IOB, Y, S, 0, MVSt v, MVPt v, MVPc v, 1, rfl, rfl, agr_1, g, H, hU, hI, hC, hM, hH⟩
