/-! ===== 39: more changes: the priority ===== -/
theorem e99 : nI 100 - 1 = 99 := by decide
theorem checkPriority_in {p : Nat} (hp : p < 100) : f_X8_checkPriority (nI p) = some (.inl ()) := by
  unfold f_X8_checkPriority
  rw [if_neg (nI_pos (by omega)), if_pos (show nI p ≤ 99 from nI_le (a := p) (b := 99) (by omega) (by decide))]
theorem checkPriority_out {b : Int32} (h : ¬ (0 ≤ b ∧ b ≤ 99)) : f_X8_checkPriority b = some (.inr IAE) := by
  unfold f_X8_checkPriority
  by_cases c : b < 0
  · rw [if_pos c]; rfl
  · rw [if_neg c, if_neg (fun h2 => h ⟨i32nlt.mp c, h2⟩)]; rfl
theorem within99 (b : Int32) : f_X9_isWithin (Int32.toInt64 b) 0 99 = some (if 0 ≤ b ∧ b ≤ 99 then 1 else 0) := within_ok b 0 99
theorem O_changePriority {u : GU} {g : GS} {H : List GS} {hs : Int32} {Y : YV} {S : SV} {v : MV} (hR : RT u g H Y S v) (a b : Int32) :
    ∃ rc Y' S' x st P c th, f_X8_changePriority (hs, Y, S) a b = some (rc, (hs, Y', S')) ∧ f_X9_changePriority v a b = some (x, mvc v st P c th) ∧ agr [IOB, IAE, ISE] rc x th ∧ ∃ g' H', RT u g' H' Y' S' (mvc v st P c th) := by
  obtain ⟨hU, hI, hC, hM, hH⟩ := hR
  have hJ := hI.1
  have hQ := hI.2.1.2
  unfold f_X8_changePriority f_X9_changePriority
  rw [isJob_ok hM.1, Option.bind_some, within99, Option.bind_some]
  rcases rng a (n := aJ g) (by omega) with ⟨i, hi, rfl, hr⟩ | ⟨h1, h2⟩
  · have i40 : i < 40 := by omega
    rw [show f_X8_checkJob (LysHs (hs, Y, S), LysS (hs, Y, S)) (nI i) = _ from checkJob_in (hs := hs) hI hC hi, bndT_l, if_pos hr, if_neg n10, mwaits_ok hI hM.1 hi, Option.bind_some]
    rcases rng b (n := 100) (by decide) with ⟨p, hp, rfl, hpr⟩ | ⟨b1, b2⟩
    · rw [e99] at hpr
      rw [checkPriority_in hp, bndT_l, if_pos hpr, show f_X8_checkWaits (LysHs (hs, Y, S), LysS (hs, Y, S)) (nI i) = _ from checkWaits_ok (hs := hs) hI hC hi]
      by_cases hf : aFt g i = 0
      · rw [if_pos hf, if_pos hf, bndT_l, if_neg n10]
        have q6' := q6 hI hi hf
        have hq := (hI.2.2.2.2.1 i hi).1 hf
        have hqu : SVQu S i = nI (aQu g i) := by rw [(hC.2.1 i hi).2.2.2.2.1, if_pos hf]
        obtain ⟨Y', P', c', k1, k2, k3⟩ := keep_ok (v := MV_sTh v 0) hU hI hC hM hH
        obtain ⟨w, e1, e2⟩ := insertAgain_ok (q := aQu g i) (p := p) hI hC hi hf q6' hp
        have hI2 : GI u (reG g i (aQu g i) p) := hI.re hi hf hq hp
        obtain ⟨st, m1, m2, m3⟩ := setP_ok (v := MV_sPc (MV_sPt (MV_sTh v 0) P') c') (p := p) hI hM.1 hi hf hp
        refine ⟨.inl (nI (aPr g i)), Y', w, nI (aPr g i), st, P', c', 0, ?_, ?_, agr_v, reG g i (aQu g i) p, (g :: H).take 8, hU, hI2, e2, ⟨m2, US_congr hU m3 hM.2⟩, k3⟩
        · rw [show f_X1_keep (LysY (hs, Y, S), LysS (hs, Y, S)) = _ from k1, bnd2_some]
          simp only [if_neg (o40 i40), c40 i40]
          show bnd2 (f_X7_insertAgain S (nI i) (SVQu S i) (nI p)) (fun r16 w17 => some ((Sum.inl (HVPr (SVH S) i) : Int32 ⊕ String), ((hs, Y', w17) : Lys))) = _
          rw [hqu, e1, bnd2_some, (hC.2.1 i hi).1]
        · unfold f_X9_changePriority_j34 f_X9_check
          rw [if_neg n10, if_neg n10, if_neg n10, bnd2_some, if_neg n10, k2, bnd2_some, m1, bnd2_some]
          rfl
      · rw [if_neg hf, if_neg hf, bndT_r, if_pos rfl]
        unfold f_X9_changePriority_j33 f_X9_changePriority_j34 f_X9_check
        rw [if_neg n10, if_neg n10, if_pos rfl, bnd2_some, if_pos rfl]
        exact ⟨.inr ISE, Y, S, 0, MVSt v, MVPt v, MVPc v, 3, rfl, rfl, agr_3, g, H, hU, hI, hC, hM, hH⟩
    · rw [e99] at b2
      rw [checkPriority_out b2, bndT_r, if_neg b2]
      refine ⟨.inr IAE, Y, S, 0, MVSt v, MVPt v, MVPc v, 2, rfl, ?_, agr_2, g, H, hU, hI, hC, hM, hH⟩
      unfold f_X9_changePriority_j33 f_X9_changePriority_j34 f_X9_check
      by_cases hf : aFt g i = 0
      · rw [if_pos hf, if_neg n10, if_neg n10, if_pos rfl, bnd2_some, if_pos rfl]
        rfl
      · rw [if_neg hf, if_pos rfl, if_neg n10, if_pos rfl, bnd2_some, if_pos rfl]
        rfl
  · rw [show f_X8_checkJob (LysHs (hs, Y, S), LysS (hs, Y, S)) a = _ from checkJob_out (hs := hs) hC h1, bndT_r, if_neg h2, if_pos rfl]
    unfold f_X9_changePriority_j33 f_X9_changePriority_j34 f_X9_check
    rw [if_pos rfl, bnd2_some, if_pos rfl]
    exact ⟨.inr IOB, Y, S, 0, MVSt v, MVPt v, MVPc v, 1, rfl, rfl, agr_1, g, H, hU, hI, hC, hM, hH⟩
