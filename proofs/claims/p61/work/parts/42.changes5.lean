/-! ===== 42: more changes: queues joined ===== -/
theorem checkTwo_out1 {u : GU} {g : GS} {v : MV} (hM : MS u g (MVSt v)) {a b : Int32} (h : ¬ (0 ≤ a ∧ a ≤ nI (uQ u) - 1) ∨ ¬ (0 ≤ b ∧ b ≤ nI (uQ u) - 1)) : f_X9_checkTwo v a b = some (0, MV_sTh v 1) := by
  have key : f_X9_checkTwo_j20 a b v = some (0, MV_sTh v 1) := by
    unfold f_X9_checkTwo_j20 f_X9_checkTwo_j21 f_X9_checkTwo_j34 f_X9_check
    simp only [if_true, bnd2_some]
    by_cases c : a = b
    · rw [if_pos c]; rfl
    · rw [if_neg c]; rfl
  unfold f_X9_checkTwo
  rw [isQ_ok hM, Option.bind_some]
  by_cases c : 0 ≤ a ∧ a ≤ nI (uQ u) - 1
  · rw [if_pos c, if_neg n10, isQ_ok hM, Option.bind_some, if_neg (h.resolve_left (fun h => h c)), if_pos rfl, key]
  · rw [if_neg c, if_pos rfl, key]
theorem checkTwo_in {u : GU} {g : GS} {v : MV} (hM : MS u g (MVSt v)) {a b : Int32} (h : 0 ≤ a ∧ a ≤ nI (uQ u) - 1) (h2 : 0 ≤ b ∧ b ≤ nI (uQ u) - 1) : f_X9_checkTwo v a b = if a = b then some (0, MV_sTh v 2) else some (1, MV_sTh v 0) := by
  unfold f_X9_checkTwo
  rw [isQ_ok hM, Option.bind_some, if_pos h, if_neg n10, isQ_ok hM, Option.bind_some, if_pos h2, if_neg n10]
  unfold f_X9_checkTwo_j21 f_X9_checkTwo_j34 f_X9_check
  by_cases c : a = b
  · rw [if_pos c, if_neg n10, if_pos rfl, bnd2_some, if_neg (by decide), if_pos c]
  · rw [if_neg c, if_neg n10, if_neg n10, if_neg n10, bnd2_some, if_neg (by decide), if_neg c]
theorem O_mergeQueues {u : GU} {g : GS} {H : List GS} {hs : Int32} {Y : YV} {S : SV} {U : UV} {v : MV} (hR : RT u g H Y S v) (hu : NVCt (UVQs U) = nI (uQ u)) (a b : Int32) :
    ∃ rc Y' S' x st P c th, f_X8_mergeQueues (hs, Y, S, U) a b = some (rc, (hs, Y', S', U)) ∧ f_X9_mergeQueues v a b = some (x, mvc v st P c th) ∧ agr [IOB, IAE] rc x th ∧ ∃ g' H', RT u g' H' Y' S' (mvc v st P c th) := by
  obtain ⟨hU, hI, hC, hM, hH⟩ := hR
  have hQ := hI.2.1.2
  unfold f_X8_mergeQueues f_X9_mergeQueues f_X8_checkTwoQueues
  rcases rng a (n := uQ u) (by omega) with ⟨p, hp, rfl, hpr⟩ | ⟨a1, a2⟩
  · have hp6 : p < 6 := by omega
    rw [show f_X8_checkQueue (LysuHs (hs, Y, S, U), LysuU (hs, Y, S, U)) (nI p) = _ from checkQueue_in (hs := hs) hu hQ hp, bndT_l]
    rcases rng b (n := uQ u) (by omega) with ⟨q, hq, rfl, hqr⟩ | ⟨b1, b2⟩
    · have hq6 : q < 6 := by omega
      rw [show f_X8_checkQueue (LysuHs (hs, Y, S, U), LysuU (hs, Y, S, U)) (nI q) = _ from checkQueue_in (hs := hs) hu hQ hq, bndT_l, checkTwo_in hM.1 hpr hqr]
      by_cases c : nI p = nI q
      · rw [if_pos c, if_pos c, bndT_r, bnd2_some, if_pos rfl]
        exact ⟨.inr IAE, Y, S, 0, MVSt v, MVPt v, MVPc v, 2, rfl, rfl, agr_2, g, H, hU, hI, hC, hM, hH⟩
      · have hne : p ≠ q := fun e => c (congrArg nI e)
        rw [if_neg c, if_neg c, bndT_l, bnd2_some, if_neg n10]
        obtain ⟨Y', P', c', k1, k2, k3⟩ := keep_ok (v := MV_sTh v 0) hU hI hC hM hH
        obtain ⟨w, e1, e2⟩ := joinQueues_ok (a := p) (b := q) hI hC hp6 hq6 hne
        have hI2 : GI u (joG g p q) := hI.jo hq hne
        obtain ⟨st, m1, m2, m3⟩ := mergeInto_ok (v := MV_sPc (MV_sPt (MV_sTh v 0) P') c') (a := p) (b := q) hI hM.1 hp hq hne
        refine ⟨.inl (gSz (joG g p q) q), Y', w, gSz (joG g p q) q, st, P', c', 0, ?_, ?_, agr_v, joG g p q, (g :: H).take 8, hU, hI2, e2, ⟨m2, US_congr hU m3 hM.2⟩, k3⟩
        · rw [show f_X1_keep (LysuY (hs, Y, S, U), LysuS (hs, Y, S, U)) = _ from k1, bnd2_some]
          show bnd2 (f_X7_joinQueues S (nI p) (nI q)) (fun r8 w9 => (f_X7_jobsIn w9 (nI q)).bind fun r11 => some ((Sum.inl r11 : Int32 ⊕ String), ((hs, Y', w9, U) : Lysu))) = _
          rw [e1, bnd2_some, jobsIn_ok hI2 e2 hq6, Option.bind_some]
        · rw [k2, bnd2_some, m1, sizeOf_ok (v := MV_sSt (MV_sPc (MV_sPt (MV_sTh v 0) P') c') st) hI2 m2 hq6, Option.bind_some, bnd2_some]
          rfl
    · rw [show f_X8_checkQueue (LysuHs (hs, Y, S, U), LysuU (hs, Y, S, U)) b = _ from checkQueue_out (hs := hs) hu b1, bndT_r, bndT_r, checkTwo_out1 hM.1 (Or.inr b2), bnd2_some, if_pos rfl]
      exact ⟨.inr IOB, Y, S, 0, MVSt v, MVPt v, MVPc v, 1, rfl, rfl, agr_1, g, H, hU, hI, hC, hM, hH⟩
  · rw [show f_X8_checkQueue (LysuHs (hs, Y, S, U), LysuU (hs, Y, S, U)) a = _ from checkQueue_out (hs := hs) hu a1, bndT_r, bndT_r, checkTwo_out1 hM.1 (Or.inl a2), bnd2_some, if_pos rfl]
    exact ⟨.inr IOB, Y, S, 0, MVSt v, MVPt v, MVPc v, 1, rfl, rfl, agr_1, g, H, hU, hI, hC, hM, hH⟩
