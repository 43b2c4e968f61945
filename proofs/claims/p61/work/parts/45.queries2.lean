/-! ===== 45: more questions ===== -/
section Q2
variable {u : GU} {g : GS} {hs : Int32} {S : SV} {U : UV} {v : MV}
theorem Q_depth (hI : GI u g) (hC : CS g S) (hM : MS u g (MVSt v)) (a : Int32) : ∃ rc b th, f_X8_depth (hs, S) a = some rc ∧ f_X9_depth v a = some (b, MV_sTh v th) ∧ agr [IOB, ISE] rc b th := by
  have hJ := hI.1
  unfold f_X8_depth f_X9_depth
  rcases rng a (n := aJ g) (by omega) with ⟨i, hi, rfl, hr⟩ | ⟨h1, h2⟩
  · rw [checkJob_in hI hC hi, bndT_l, checkWaits_ok hI hC hi, mcheckWaiting_in hI hM hi hr]
    by_cases hf : aFt g i = 0
    · have hin := hI.inn hi hf
      have hA := hC.2.2.2.2.1 (aQu g i)
      have hB := hM.2.2.2.2.1 (aQu g i)
      have hn := (hI.2.2.1 (aQu g i)).1
      rw [if_pos hf, if_pos hf, bndT_l, bnd2_some, if_neg n10, show f_X0_ancestors (SVH (LsS (hs, S))) (nI i) = _ from ancestors_ok hA.1 hA.2 hn hin, Option.bind_some, mdepth_ok (v := MV_sTh v 0) hB.1 hB.2 hn hin]
      exact ⟨_, _, _, rfl, rfl, agr_v⟩
    · rw [if_neg hf, if_neg hf, bndT_r, bnd2_some, if_pos rfl]
      exact ⟨_, _, _, rfl, rfl, agr_2⟩
  · rw [checkJob_out hC h1, mcheckWaiting_out hM h2, bnd2_some, if_pos rfl, bndT_r]
    exact ⟨_, _, _, rfl, rfl, agr_1⟩
theorem gPos_self (hI : GI u g) {i p : Nat} (hi : i < aJ g) (h : p = aPr g i) : gPos (uf (aPr g) i p) g i = gPos (aPr g) g i := by
  refine gPos_pr hI (fun k hk => ?_) hi
  by_cases e : k = i
  · subst e; rw [uf_eq, h]
  · rw [uf_ne e]
theorem Q_positionOf (hI : GI u g) (hC : CS g S) (hM : MS u g (MVSt v)) (a : Int32) : ∃ rc b th, f_X8_positionOf (hs, S) a = some rc ∧ f_X9_positionOf v a = some (b, MV_sTh v th) ∧ agr [IOB, ISE] rc b th := by
  have hJ := hI.1
  unfold f_X8_positionOf f_X9_positionOf
  rcases rng a (n := aJ g) (by omega) with ⟨i, hi, rfl, hr⟩ | ⟨h1, h2⟩
  · have i40 : i < 40 := by omega
    rw [checkJob_in hI hC hi, bndT_l, checkWaits_ok hI hC hi, mcheckWaiting_in hI hM hi hr]
    by_cases hf : aFt g i = 0
    · have hp := (hI.2.2.2.2.1 i hi).2.1
      rw [if_pos hf, if_pos hf, bndT_l, bnd2_some, if_neg n10]
      simp only [if_neg (o40 i40), c40 i40]
      rw [show HVPr (SVH (LsS (hs, S))) i = nI (aPr g i) from (hC.2.1 i hi).1, show f_X7_jobsAhead (LsS (hs, S)) (nI i) (nI (aPr g i)) = _ from jobsAhead_ok hI hC hi hf hp, Option.bind_some, mpositionIn_ok (v := MV_sTh v 0) hI hM hi hf, Option.bind_some, gPos_self hI hi rfl]
      exact ⟨_, _, _, rfl, rfl, agr_v⟩
    · rw [if_neg hf, if_neg hf, bndT_r, bnd2_some, if_pos rfl]
      exact ⟨_, _, _, rfl, rfl, agr_2⟩
  · rw [checkJob_out hC h1, mcheckWaiting_out hM h2, bnd2_some, if_pos rfl, bndT_r]
    exact ⟨_, _, _, rfl, rfl, agr_1⟩
theorem Q_pagesBefore (hI : GI u g) (hC : CS g S) (hM : MS u g (MVSt v)) (a : Int32) : ∃ rc b th, f_X8_pagesBefore (hs, S) a = some rc ∧ f_X9_pagesBefore v a = some (b, MV_sTh v th) ∧ agr [IOB, ISE] rc b th := by
  have hJ := hI.1
  unfold f_X8_pagesBefore f_X9_pagesBefore
  rcases rng a (n := aJ g) (by omega) with ⟨i, hi, rfl, hr⟩ | ⟨h1, h2⟩
  · rw [checkJob_in hI hC hi, bndT_l, checkWaits_ok hI hC hi, mcheckWaiting_in hI hM hi hr]
    by_cases hf : aFt g i = 0
    · rw [if_pos hf, if_pos hf, bndT_l, bnd2_some, if_neg n10, show f_X7_pagesAhead (LsS (hs, S)) (nI i) = _ from pagesAhead_ok hI hC hi hf, Option.bind_some, mpagesAhead_ok (v := MV_sTh v 0) hI hM hi hf, Option.bind_some]
      exact ⟨_, _, _, rfl, rfl, agr_v⟩
    · rw [if_neg hf, if_neg hf, bndT_r, bnd2_some, if_pos rfl]
      exact ⟨_, _, _, rfl, rfl, agr_2⟩
  · rw [checkJob_out hC h1, mcheckWaiting_out hM h2, bnd2_some, if_pos rfl, bndT_r]
    exact ⟨_, _, _, rfl, rfl, agr_1⟩
/-! minutes -/
def mnI (s : Nat) (x : Int32) : Int32 := (x + nI s - 1) / nI s
theorem minutes_ok {q : Nat} {x : Int32} (hU : UI u) (hq : q < uQ u) (hs2 : UVSp U q = nI (uS u q)) : f_X6_minutes U (nI q) x = some (mnI (uS u q) x) := by
  have hQ := hU.1.2
  obtain ⟨s1, s2⟩ := (hU.2.2.1 q hq).1
  unfold f_X6_minutes
  rw [if_neg (nI_pos (by omega)), if_neg (show ¬ (6 : Int32) ≤ nI q from nI_ge (b := 6) (by omega) (by decide))]
  simp only [if_neg (o6 (show q < 6 by omega)), c6 (show q < 6 by omega), hs2]
  rw [if_neg (nI_nle (by omega) (by omega)), if_neg (nI_ne0 (by omega) (by omega))]
  rfl
theorem mminutes_ok {q : Nat} {x : Int32} (hU : UI u) (hS : US u (MVSt v)) (hq : q < uQ u) : f_X9_minutes v x (nI q) = some (mnI (uS u q) x) := by
  have hQ := hU.1.2
  obtain ⟨s1, s2⟩ := (hU.2.2.1 q hq).1
  have hx : 10 + 11 * q + 7 < 500 := by omega
  unfold f_X9_minutes f_X9_q
  rw [Option.bind_some, qadr, show nI (10 + 11 * q) + (7 : Int32) = nI (10 + 11 * q + 7) from nI_add _ 7]
  simp only [if_neg (o500 hx), c500 hx, (hS.1 q hq).2.2.2]
  rw [if_neg (nI_ne0 (by omega) (by omega))]
  rfl
theorem Q_minutesUntilPrinted (hU : UI u) (hI : GI u g) (hC : CS g S) (hM : MS u g (MVSt v)) (hS : US u (MVSt v)) (hp : ∀ q, q < uQ u → UVSp U q = nI (uS u q)) (a : Int32) : ∃ rc b th, f_X8_minutesUntilPrinted (hs, S, U) a = some rc ∧ f_X9_minutesUntilPrinted v a = some (b, MV_sTh v th) ∧ agr [IOB, ISE] rc b th := by
  have hJ := hI.1
  unfold f_X8_minutesUntilPrinted f_X9_minutesUntilPrinted
  rcases rng a (n := aJ g) (by omega) with ⟨i, hi, rfl, hr⟩ | ⟨h1, h2⟩
  · have i40 : i < 40 := by omega
    rw [show f_X8_checkJob (LsuHs (hs, S, U), LsuS (hs, S, U)) (nI i) = _ from checkJob_in (hs := hs) hI hC hi, bndT_l, show f_X8_checkWaits (LsuHs (hs, S, U), LsuS (hs, S, U)) (nI i) = _ from checkWaits_ok (hs := hs) hI hC hi, mcheckWaiting_in hI hM hi hr]
    by_cases hf : aFt g i = 0
    · have hq := (hI.2.2.2.2.1 i hi).1 hf
      have hqu : SVQu S i = nI (aQu g i) := by rw [(hC.2.1 i hi).2.2.2.2.1, if_pos hf]
      rw [if_pos hf, if_pos hf, bndT_l, bnd2_some, if_neg n10]
      simp only [if_neg (o40 i40), c40 i40]
      rw [show f_X7_pagesAhead (LsuS (hs, S, U)) (nI i) = _ from pagesAhead_ok hI hC hi hf, Option.bind_some, mpagesAhead_ok (v := MV_sTh v 0) hI hM hi hf, Option.bind_some, get_2 i40, Option.bind_some, get_4 i40, Option.bind_some, show SVQu (LsuS (hs, S, U)) i = _ from hqu, show SVPg (LsuS (hs, S, U)) i = _ from (hC.2.1 i hi).2.2.1, show jf (MVSt (MV_sTh v 0)) 4 i = _ from (hM.2.1 i hi).2.2.2.2.1 hf, show jf (MVSt (MV_sTh v 0)) 2 i = _ from (hM.2.1 i hi).2.2.1, show f_X6_minutes (LsuU (hs, S, U)) (nI (aQu g i)) (gBef g i + aPg g i) = _ from minutes_ok hU hq (hp _ hq), Option.bind_some, mminutes_ok (v := MV_sTh v 0) hU hS hq, Option.bind_some]
      exact ⟨_, _, _, rfl, rfl, agr_v⟩
    · rw [if_neg hf, if_neg hf, bndT_r, bnd2_some, if_pos rfl]
      exact ⟨_, _, _, rfl, rfl, agr_2⟩
  · rw [show f_X8_checkJob (LsuHs (hs, S, U), LsuS (hs, S, U)) a = _ from checkJob_out (hs := hs) hC h1, mcheckWaiting_out hM h2, bnd2_some, if_pos rfl, bndT_r]
    exact ⟨_, _, _, rfl, rfl, agr_1⟩
/-! owners -/
theorem Q_waitingPagesOfOwner (hU : UI u) (hI : GI u g) (hC : CS g S) (hM : MS u g (MVSt v)) (ho : NVCt (UVOs U) = nI (uO u)) (a : Int32) : ∃ rc b th, f_X8_waitingPagesOfOwner (hs, S, U) a = some rc ∧ f_X9_waitingPagesOfOwner v a = some (b, MV_sTh v th) ∧ agr [IOB] rc b th := by
  have hO := hU.2.1
  unfold f_X8_waitingPagesOfOwner f_X9_waitingPagesOfOwner f_X9_check
  rw [isO_ok hM, Option.bind_some]
  rcases rng a (n := uO u) (by omega) with ⟨i, hi, rfl, hr⟩ | ⟨h1, h2⟩
  · have k1 : f_X7_pagesOfOwner S (nI i) 0 = some (gOw g (nI i) 0) := by
      have := pagesOfOwner_ok (o := nI i) (b := 0) hI hC (by decide)
      rwa [nI_0] at this
    have k2 : f_X9_pagesOfOwner (MV_sTh v 0) (nI i) 0 = some (gOw g (nI i) 0) := by
      have := mpagesOfOwner_ok (v := MV_sTh v 0) (o := nI i) (b := 0) hI hM (by decide)
      rwa [nI_0] at this
    rw [show f_X8_checkOwner (LsuHs (hs, S, U), LsuU (hs, S, U)) (nI i) = _ from checkOwner_in (hs := hs) ho hO hi, bndT_l, if_pos hr, if_neg n10, if_neg n10, if_neg n10, bnd2_some, if_neg n10, show f_X7_pagesOfOwner (LsuS (hs, S, U)) (nI i) 0 = some (gOw g (nI i) 0) from k1, Option.bind_some, k2, Option.bind_some]
    exact ⟨_, _, _, rfl, rfl, agr_v⟩
  · rw [show f_X8_checkOwner (LsuHs (hs, S, U), LsuU (hs, S, U)) a = _ from checkOwner_out (hs := hs) ho h1, bndT_r, if_neg h2, if_pos rfl, bnd2_some, if_pos rfl]
    exact ⟨_, _, _, rfl, rfl, agr_1⟩
theorem Q_printedPagesOfOwner (hU : UI u) (hI : GI u g) (hC : CS g S) (hM : MS u g (MVSt v)) (ho : NVCt (UVOs U) = nI (uO u)) (a : Int32) : ∃ rc b th, f_X8_printedPagesOfOwner (hs, S, U) a = some rc ∧ f_X9_printedPagesOfOwner v a = some (b, MV_sTh v th) ∧ agr [IOB] rc b th := by
  have hO := hU.2.1
  unfold f_X8_printedPagesOfOwner f_X9_printedPagesOfOwner f_X9_check
  rw [isO_ok hM, Option.bind_some]
  rcases rng a (n := uO u) (by omega) with ⟨i, hi, rfl, hr⟩ | ⟨h1, h2⟩
  · have k1 : f_X7_pagesOfOwner S (nI i) 1 = some (gOw g (nI i) 1) := by
      have := pagesOfOwner_ok (o := nI i) (b := 1) hI hC (by decide)
      rwa [(show nI 1 = 1 by decide)] at this
    have k2 : f_X9_pagesOfOwner (MV_sTh v 0) (nI i) 1 = some (gOw g (nI i) 1) := by
      have := mpagesOfOwner_ok (v := MV_sTh v 0) (o := nI i) (b := 1) hI hM (by decide)
      rwa [(show nI 1 = 1 by decide)] at this
    rw [show f_X8_checkOwner (LsuHs (hs, S, U), LsuU (hs, S, U)) (nI i) = _ from checkOwner_in (hs := hs) ho hO hi, bndT_l, if_pos hr, if_neg n10, if_neg n10, if_neg n10, bnd2_some, if_neg n10, show f_X7_pagesOfOwner (LsuS (hs, S, U)) (nI i) 1 = some (gOw g (nI i) 1) from k1, Option.bind_some, k2, Option.bind_some]
    exact ⟨_, _, _, rfl, rfl, agr_v⟩
  · rw [show f_X8_checkOwner (LsuHs (hs, S, U), LsuU (hs, S, U)) a = _ from checkOwner_out (hs := hs) ho h1, bndT_r, if_neg h2, if_pos rfl, bnd2_some, if_pos rfl]
    exact ⟨_, _, _, rfl, rfl, agr_1⟩
theorem Q_printingObstacle (hI : GI u g) (hC : CS g S) (hM : MS u g (MVSt v)) (hu : NVCt (UVQs U) = nI (uQ u)) (a : Int32) : ∃ rc b th, f_X8_printingObstacle (hs, S, U) a = some rc ∧ f_X9_printingObstacle v a = some (b, MV_sTh v th) ∧ agr [IOB] rc b th := by
  have hQ := hI.2.1.2
  unfold f_X8_printingObstacle f_X9_printingObstacle
  rcases rng a (n := uQ u) (by omega) with ⟨i, hi, rfl, hr⟩ | ⟨h1, h2⟩
  · rw [show f_X8_checkQueue (LsuHs (hs, S, U), LsuU (hs, S, U)) (nI i) = some (.inl ()) from checkQueue_in (hs := hs) hu hQ hi, mcheckQueue_in hM hr, bnd2_some, if_neg n10, bndT_l, show f_X7_obstacle (LsuS (hs, S, U)) (nI i) = _ from obstacle_ok hC (by omega), Option.bind_some, mobstacle_ok (v := MV_sTh v 0) hQ hM hi, Option.bind_some]
    exact ⟨_, _, _, rfl, rfl, agr_v⟩
  · rw [show f_X8_checkQueue (LsuHs (hs, S, U), LsuU (hs, S, U)) a = some (.inr IOB) from checkQueue_out (hs := hs) hu h1, mcheckQueue_out hM h2, bnd2_some, if_pos rfl, bndT_r]
    exact ⟨_, _, _, rfl, rfl, agr_1⟩
/-! counts -/
theorem Q_queueCount (hM : MS u g (MVSt v)) (hu : NVCt (UVQs U) = nI (uQ u)) : f_X8_queueCount (hs, U) = some (nI (uQ u)) ∧ f_X9_queueCount v = some (nI (uQ u), MV_sTh v 0) := by
  refine ⟨congrArg some hu, ?_⟩
  unfold f_X9_queueCount f_X9_numberOf
  simp only [if_neg o0, cl0, bnd2_some, hM.1.1]
theorem Q_ownerCount (hM : MS u g (MVSt v)) (ho : NVCt (UVOs U) = nI (uO u)) : f_X8_ownerCount (hs, U) = some (nI (uO u)) ∧ f_X9_ownerCount v = some (nI (uO u), MV_sTh v 0) := by
  refine ⟨congrArg some ho, ?_⟩
  unfold f_X9_ownerCount f_X9_numberOf
  simp only [if_neg (show ¬ oob 1 500 by decide), show Int32.toNatClampNeg 1 = 1 from by decide, bnd2_some, hM.1.2.1]
theorem Q_jobCount (hC : CS g S) (hM : MS u g (MVSt v)) : f_X8_jobCount (hs, S) = some (nI (aJ g)) ∧ f_X9_jobCount v = some (nI (aJ g), MV_sTh v 0) := by
  refine ⟨congrArg some hC.1, ?_⟩
  unfold f_X9_jobCount f_X9_numberOf
  simp only [if_neg o2, cl2, bnd2_some, hM.1.2.2]
theorem Q_comparisons (hC : CS g S) (hM : MS u g (MVSt v)) : f_X8_comparisons (hs, S) = some (aCm g) ∧ f_X9_comparisons v = some (aCm g, MV_sTh v 0) := by
  refine ⟨congrArg some hC.2.2.2.2.2.1, ?_⟩
  unfold f_X9_comparisons f_X9_numberOf
  simp only [if_neg (show ¬ oob 3 500 by decide), show Int32.toNatClampNeg 3 = 3 from by decide, bnd2_some, hM.2.2.2.2.2.1]
theorem Q_swaps (hC : CS g S) (hM : MS u g (MVSt v)) : f_X8_swaps (hs, S) = some (aSw g) ∧ f_X9_swaps v = some (aSw g, MV_sTh v 0) := by
  refine ⟨congrArg some hC.2.2.2.2.2.2, ?_⟩
  unfold f_X9_swaps f_X9_numberOf
  simp only [if_neg (show ¬ oob 4 500 by decide), show Int32.toNatClampNeg 4 = 4 from by decide, bnd2_some, hM.2.2.2.2.2.2]
/-! the queue with the least load -/
theorem least_loop (hU : UI u) (hI : GI u g) (hC : CS g S) (hM : MS u g (MVSt v)) (hS : US u (MVSt v)) (hu : NVCt (UVQs U) = nI (uQ u)) (hp : ∀ q, q < uQ u → UVSp U q = nI (uS u q)) : ∀ (m n k b : Nat), uQ u - k = m → m < n → k ≤ uQ u → b < uQ u →
    ∃ r, f_X8_leastLoadedQueue_h21 n (nI b) (mnI (uS u b) (gPg g b)) (nI k) (hs, S, U) = some r ∧ f_X9_leastLoadedQueue_h9 n (nI b) (nI k) v = some (r, v) := by
  have hQ := hI.2.1.2
  intro m
  induction m with
  | zero =>
    intro n k b hm hn hk hb
    obtain ⟨n, rfl⟩ : ∃ m, n = m + 1 := ⟨n - 1, by omega⟩
    have e : k = uQ u := by omega
    subst e
    refine ⟨nI b, ?_, ?_⟩
    · rw [f_X8_leastLoadedQueue_h21, show NVCt (UVQs (LsuU (hs, S, U))) = _ from hu, if_pos (nI_le (Nat.le_refl _) (by omega))]
    · rw [f_X9_leastLoadedQueue_h9]
      simp only [if_neg o0, cl0]
      rw [hM.1.1, if_pos (nI_le (Nat.le_refl _) (by omega))]
  | succ m ih =>
    intro n k b hm hn hk hb
    obtain ⟨n, rfl⟩ : ∃ m, n = m + 1 := ⟨n - 1, by omega⟩
    have hk2 : k < uQ u := by omega
    rw [f_X8_leastLoadedQueue_h21, f_X9_leastLoadedQueue_h9]
    simp only [if_neg o0, cl0]
    rw [show NVCt (UVQs (LsuU (hs, S, U))) = _ from hu, hM.1.1, if_neg (nI_ge hk2 (by omega)), if_neg (nI_ge hk2 (by omega)), show f_X7_pagesIn (LsuS (hs, S, U)) (nI k) = _ from pagesIn_ok hI hC (by omega), Option.bind_some, show f_X6_minutes (LsuU (hs, S, U)) (nI k) (gPg g k) = _ from minutes_ok hU hk2 (hp _ hk2), Option.bind_some, mpagesIn_ok hI hM (by omega), Option.bind_some, mminutes_ok hU hS hk2, Option.bind_some, mpagesIn_ok hI hM (by omega), Option.bind_some, mminutes_ok hU hS hb, Option.bind_some, nI_1]
    by_cases c : mnI (uS u b) (gPg g b) ≤ mnI (uS u k) (gPg g k)
    · rw [if_pos c, if_pos c]
      exact ih n (k + 1) b (by omega) (by omega) (by omega) hb
    · rw [if_neg c, if_neg c]
      exact ih n (k + 1) k (by omega) (by omega) (by omega) hk2
theorem Q_leastLoadedQueue (hU : UI u) (hI : GI u g) (hC : CS g S) (hM : MS u g (MVSt v)) (hS : US u (MVSt v)) (hu : NVCt (UVQs U) = nI (uQ u)) (hp : ∀ q, q < uQ u → UVSp U q = nI (uS u q)) : ∃ r, f_X8_leastLoadedQueue (hs, S, U) = some r ∧ f_X9_leastLoadedQueue v = some (r, MV_sTh v 0) := by
  have hQ := hU.1
  obtain ⟨r, h1, h2⟩ := least_loop (hs := hs) (v := MV_sTh v 0) hU hI hC hM hS hu hp (uQ u - 1) FU 1 0 rfl (by have : FU = 5000 := rfl; omega) (by omega) (by omega)
  refine ⟨r, ?_, h2⟩
  unfold f_X8_leastLoadedQueue
  rw [show f_X7_pagesIn (LsuS (hs, S, U)) 0 = some (gPg g 0) from pagesIn_ok (q := 0) hI hC (by omega), Option.bind_some, show f_X6_minutes (LsuU (hs, S, U)) 0 (gPg g 0) = some (mnI (uS u 0) (gPg g 0)) from minutes_ok (q := 0) hU (by omega) (hp _ (by omega)), Option.bind_some]
  exact h1
/-! forecasts -/
theorem Q_mergeCost (hI : GI u g) (hC : CS g S) (hM : MS u g (MVSt v)) (hu : NVCt (UVQs U) = nI (uQ u)) (a b : Int32) : ∃ rc x st A th, f_X8_mergeCost (hs, S, U) a b = some rc ∧ f_X9_mergeCost v a b = some (x, MV_sSt (MV_sAs (MV_sTh v th) A) st) ∧ agr [IOB, IAE] rc x th ∧ ∀ n, n < 500 → st n = MVSt v n := by
  have hQ := hI.2.1.2
  unfold f_X8_mergeCost f_X9_mergeCost f_X8_checkTwoQueues
  rcases rng a (n := uQ u) (by omega) with ⟨p, hp, rfl, hpr⟩ | ⟨a1, a2⟩
  · have hp6 : p < 6 := by omega
    rw [show f_X8_checkQueue (LsuHs (hs, S, U), LsuU (hs, S, U)) (nI p) = _ from checkQueue_in (hs := hs) hu hQ hp, bndT_l]
    rcases rng b (n := uQ u) (by omega) with ⟨q, hq, rfl, hqr⟩ | ⟨b1, b2⟩
    · have hq6 : q < 6 := by omega
      rw [show f_X8_checkQueue (LsuHs (hs, S, U), LsuU (hs, S, U)) (nI q) = _ from checkQueue_in (hs := hs) hu hQ hq, bndT_l, checkTwo_in hM hpr hqr]
      by_cases c : nI p = nI q
      · rw [if_pos c, if_pos c, bndT_r, bnd2_some, if_pos rfl]
        exact ⟨.inr IAE, 0, MVSt v, MVAs v, 2, rfl, rfl, agr_2, fun _ _ => rfl⟩
      · have hne : p ≠ q := fun e => c (congrArg nI e)
        rw [if_neg c, if_neg c, bndT_l, bnd2_some, if_neg n10]
        obtain ⟨pr, hpr2, hag⟩ := hC.pr hI
        have hA := hC.2.2.2.2.1
        have hcost := comparisonsToMerge_ok (hA p).1 (hA q).1 (hI.2.2.1 p).1 (hI.2.2.1 q).1 (hI.ds p q hne) (prOK_of hpr2)
        rw [mg_pr hI hag] at hcost
        have hI2 : GI u (joG g p q) := hI.jo hq hne
        obtain ⟨st, m1, m2, m3⟩ := mergeInto_ok (v := MV_sAs (MV_sTh v 0) (mix (MVAs v) (MVSt v) 0)) hI hM hp hq hne
        have hsz := sizeOf_ok (v := MV_sSt (MV_sAs (MV_sTh v 0) (mix (MVAs v) (MVSt v) 0)) st) hI2 m2 hq6
        refine ⟨.inl (nI (joM g p q).2.1), nI (joM g p q).2.1, mix st (mix (MVAs v) (MVSt v) 0) 0, mix (MVAs v) (MVSt v) 0, 0, ?_, ?_, agr_v, fun n hn => by rw [mix_at hn, mix_at hn]⟩
        · simp only [if_neg (o6 hp6), if_neg (o6 hq6), c6 hp6, c6 hq6]
          rw [show SVRo (LsuS (hs, S, U)) p = _ from (hC.2.2.2.1 p hp6).1, show SVRo (LsuS (hs, S, U)) q = _ from (hC.2.2.2.1 q hq6).1, show f_X0_comparisonsToMerge (SVH (LsuS (hs, S, U))) (hv (aF g p)) (hv (aF g q)) = _ from hcost, Option.bind_some]
          rfl
        · simp only [if_neg (show ¬ oob 3 500 by decide), show Int32.toNatClampNeg 3 = 3 from by decide]
          rw [copyTo2_ok, bnd2_some, show f_X9_mergeInto (MV_sAs (MV_sTh v 0) (mix (MVAs (MV_sTh v 0)) (MVSt (MV_sTh v 0)) 0)) (nI p) (nI q) = _ from m1, hsz, Option.bind_some, bnd2_some, copyFrom2_ok, bnd2_some]
          have e3 : MVSt (MV_sSt (MV_sAs (MV_sTh v 0) (mix (MVAs v) (MVSt v) 0)) st) 3 - MVSt (MV_sTh v 0) 3 = nI (joM g p q).2.1 := by
            show st 3 - MVSt v 3 = _
            rw [m2.2.2.2.2.2.1, hM.2.2.2.2.2.1]
            show aCm g + nI (joM g p q).2.1 - aCm g = _
            rw [Int32.add_comm, Int32.add_sub_cancel]
          rw [e3]
          rfl
    · rw [show f_X8_checkQueue (LsuHs (hs, S, U), LsuU (hs, S, U)) b = _ from checkQueue_out (hs := hs) hu b1, bndT_r, checkTwo_out1 hM (Or.inr b2), bnd2_some, if_pos rfl]
      exact ⟨.inr IOB, 0, MVSt v, MVAs v, 1, rfl, rfl, agr_1, fun _ _ => rfl⟩
  · rw [show f_X8_checkQueue (LsuHs (hs, S, U), LsuU (hs, S, U)) a = _ from checkQueue_out (hs := hs) hu a1, bndT_r, checkTwo_out1 hM (Or.inl a2), bnd2_some, if_pos rfl]
    exact ⟨.inr IOB, 0, MVSt v, MVAs v, 1, rfl, rfl, agr_1, fun _ _ => rfl⟩
theorem CS_pa (hC : CS g S) (P : Nat → Int32) : CS g (SV_sH S (HV_sPa (SVH S) P)) := hC
theorem Q_rankAfterMerge (hI : GI u g) (hC : CS g S) (hM : MS u g (MVSt v)) (hu : NVCt (UVQs U) = nI (uQ u)) (a b : Int32) : ∃ rc S' x st A th, f_X8_rankAfterMerge (hs, S, U) a b = some (rc, (hs, S', U)) ∧ CS g S' ∧ f_X9_rankAfterMerge v a b = some (x, MV_sSt (MV_sAs (MV_sTh v th) A) st) ∧ agr [IOB, IAE] rc x th ∧ ∀ n, n < 500 → st n = MVSt v n := by
  have hQ := hI.2.1.2
  unfold f_X8_rankAfterMerge f_X9_rankAfterMerge f_X8_checkTwoQueues
  rcases rng a (n := uQ u) (by omega) with ⟨p, hp, rfl, hpr⟩ | ⟨a1, a2⟩
  · have hp6 : p < 6 := by omega
    rw [show f_X8_checkQueue (LsuHs (hs, S, U), LsuU (hs, S, U)) (nI p) = _ from checkQueue_in (hs := hs) hu hQ hp, bndT_l]
    rcases rng b (n := uQ u) (by omega) with ⟨q, hq, rfl, hqr⟩ | ⟨b1, b2⟩
    · have hq6 : q < 6 := by omega
      rw [show f_X8_checkQueue (LsuHs (hs, S, U), LsuU (hs, S, U)) (nI q) = _ from checkQueue_in (hs := hs) hu hQ hq, bndT_l, checkTwo_in hM hpr hqr]
      by_cases c : nI p = nI q
      · rw [if_pos c, if_pos c, bndT_r, bnd2_some, if_pos rfl]
        exact ⟨.inr IAE, S, 0, MVSt v, MVAs v, 2, rfl, hC, rfl, agr_2, fun _ _ => rfl⟩
      · have hne : p ≠ q := fun e => c (congrArg nI e)
        rw [if_neg c, if_neg c, bndT_l, bnd2_some, if_neg n10]
        obtain ⟨pr, hpr2, hag⟩ := hC.pr hI
        have hA := hC.2.2.2.2.1
        obtain ⟨P, hrank⟩ := rankOfMerged_ok (hA p).1 (hA q).1 (hI.2.2.1 p).1 (hI.2.2.1 q).1 (hI.ds p q hne) (prOK_of hpr2)
        rw [mg_pr hI hag] at hrank
        have hI2 : GI u (joG g p q) := hI.jo hq hne
        obtain ⟨st, m1, m2, m3⟩ := mergeInto_ok (v := MV_sAs (MV_sTh v 0) (mix (MVAs v) (MVSt v) 0)) hI hM hp hq hne
        have hsz := sizeOf_ok (v := MV_sSt (MV_sAs (MV_sTh v 0) (mix (MVAs v) (MVSt v) 0)) st) hI2 m2 hq6
        have ej : aF (joG g p q) q = (joM g p q).1 := by
          show uf (uf (aF g) q (joM g p q).1) p (.leaf ()) q = _
          rw [uf_ne (fun e => hne e.symm), uf_eq]
        have er : st (10 + 11 * q + 9) = hv (joM g p q).1 := by rw [(m2.2.2.2.1 q hq).1, ej]
        have es : sub (gM st) (joM g p q).1 := by have := (m2.2.2.2.2.1 q).1; rwa [ej] at this
        refine ⟨.inl (nI (rkT (joM g p q).1)), SV_sH S (HV_sPa (SVH S) P), nI (rkT (joM g p q).1), mix st (mix (MVAs v) (MVSt v) 0) 0, mix (MVAs v) (MVSt v) 0, 0, ?_, CS_pa hC P, ?_, agr_v, fun n hn => by rw [mix_at hn, mix_at hn]⟩
        · simp only [if_neg (o6 hp6), if_neg (o6 hq6), c6 hp6, c6 hq6]
          rw [show SVRo (LsuS (hs, S, U)) p = _ from (hC.2.2.2.1 p hp6).1, show SVRo (LsuS (hs, S, U)) q = _ from (hC.2.2.2.1 q hq6).1, show f_X0_rankOfMerged (SVH (LsuS (hs, S, U))) (hv (aF g p)) (hv (aF g q)) = _ from hrank, bnd2_some]
          rfl
        · rw [copyTo2_ok, bnd2_some, show f_X9_mergeInto (MV_sAs (MV_sTh v 0) (mix (MVAs (MV_sTh v 0)) (MVSt (MV_sTh v 0)) 0)) (nI p) (nI q) = _ from m1, hsz, Option.bind_some, bnd2_some, rootOf_ok hq6, Option.bind_some, show MVSt (MV_sSt (MV_sAs (MV_sTh v 0) (mix (MVAs v) (MVSt v) 0)) st) (10 + 11 * q + 9) = _ from er, mrank_t (v := MV_sSt (MV_sAs (MV_sTh v 0) (mix (MVAs v) (MVSt v) 0)) st) es, Option.bind_some, copyFrom2_ok, bnd2_some]
          rfl
    · rw [show f_X8_checkQueue (LsuHs (hs, S, U), LsuU (hs, S, U)) b = _ from checkQueue_out (hs := hs) hu b1, bndT_r, checkTwo_out1 hM (Or.inr b2), bnd2_some, if_pos rfl]
      exact ⟨.inr IOB, S, 0, MVSt v, MVAs v, 1, rfl, hC, rfl, agr_1, fun _ _ => rfl⟩
  · rw [show f_X8_checkQueue (LsuHs (hs, S, U), LsuU (hs, S, U)) a = _ from checkQueue_out (hs := hs) hu a1, bndT_r, checkTwo_out1 hM (Or.inl a2), bnd2_some, if_pos rfl]
    exact ⟨.inr IOB, S, 0, MVSt v, MVAs v, 1, rfl, hC, rfl, agr_1, fun _ _ => rfl⟩
theorem Q_positionWith (hI : GI u g) (hC : CS g S) (hM : MS u g (MVSt v)) (a b : Int32) : ∃ rc x th, f_X8_positionWith (hs, S) a b = some rc ∧ f_X9_positionWith v a b = some (x, MV_sTh v th) ∧ agr [IOB, IAE, ISE] rc x th := by
  have hJ := hI.1
  unfold f_X8_positionWith f_X9_positionWith f_X9_positionWith_j33
  rw [isJob_ok hM, Option.bind_some, within99, Option.bind_some]
  rcases rng a (n := aJ g) (by omega) with ⟨i, hi, rfl, hr⟩ | ⟨h1, h2⟩
  · have i40 : i < 40 := by omega
    rw [checkJob_in hI hC hi, bndT_l, if_pos hr, if_neg n10, mwaits_ok hI hM hi, Option.bind_some]
    rcases rng b (n := 100) (by decide) with ⟨p, hp, rfl, hpr⟩ | ⟨b1, b2⟩
    · rw [e99] at hpr
      rw [checkPriority_in hp, bndT_l, if_pos hpr, checkWaits_ok hI hC hi]
      unfold f_X9_positionWith_j34 f_X9_check
      by_cases hf : aFt g i = 0
      · rw [if_pos hf, if_pos hf, bndT_l, if_neg n10, if_neg n10, if_neg n10, if_neg n10, bnd2_some, if_neg n10, get_1 i40, Option.bind_some, set_1 i40, bnd2_some, show f_X7_jobsAhead (LsS (hs, S)) (nI i) (nI p) = _ from jobsAhead_ok hI hC hi hf hp, Option.bind_some]
        obtain ⟨pr, hpr2, hag⟩ := hM.pr hI
        have hpos : f_X9_positionIn (MV_sSt (MV_sTh v 0) (upd (MVSt (MV_sTh v 0)) (140 + 9 * i + 1) (nI p))) (nI i) = some (gPos (uf (aPr g) i p) g i) := by
          rw [positionIn_ok (pr := uf pr i p) hI ?_ ?_ ?_ hi hf]
          · exact congrArg some (gPos_pr hI (fun k hk => by
              by_cases e : k = i
              · subst e; rw [uf_eq, uf_eq]
              · rw [uf_ne e, uf_ne e, hag k hk]) hi)
          · show upd (MVSt v) (140 + 9 * i + 1) (nI p) 2 = _
            rw [upd_ne (by omega)]
            exact hM.1.2.2
          · intro k hk
            show jf (upd (MVSt v) (140 + 9 * i + 1) (nI p)) 1 k = _ ∧ _
            rw [jf_same]
            by_cases e : k = i
            · subst e; rw [upd_eq, uf_eq]; exact ⟨rfl, by omega⟩
            · rw [upd_ne e, uf_ne e]; exact hpr2 k hk
          · intro k hk
            show jf (upd (MVSt v) (140 + 9 * i + 1) (nI p)) 3 k = _ ∧ (_ → jf (upd (MVSt v) (140 + 9 * i + 1) (nI p)) 4 k = _)
            rw [jf_ne (by omega) (by omega) (by omega), jf_ne (by omega) (by omega) (by omega)]
            exact ⟨(hM.2.1 k hk).2.2.2.1, (hM.2.1 k hk).2.2.2.2.1⟩
        rw [hpos, Option.bind_some, set_1 i40, bnd2_some]
        refine ⟨_, gPos (uf (aPr g) i p) g i, 0, rfl, ?_, agr_v⟩
        have hup : upd (upd (MVSt v) (140 + 9 * i + 1) (nI p)) (140 + 9 * i + 1) (jf (MVSt v) 1 i) = MVSt v := by
          rw [upd_twice]
          exact upd_same rfl
        show some (_, MV_sSt (MV_sTh v 0) (upd (upd (MVSt v) (140 + 9 * i + 1) (nI p)) (140 + 9 * i + 1) (jf (MVSt v) 1 i))) = _
        rw [hup]
        rfl
      · rw [if_neg hf, if_neg hf, bndT_r, if_pos rfl, if_neg n10, if_neg n10, if_pos rfl, bnd2_some, if_pos rfl]
        exact ⟨_, _, _, rfl, rfl, agr_3⟩
    · rw [e99] at b2
      rw [checkPriority_out b2, bndT_r, if_neg b2]
      refine ⟨_, 0, 2, rfl, ?_, agr_2⟩
      unfold f_X9_positionWith_j34 f_X9_check
      by_cases hf : aFt g i = 0
      · rw [if_pos hf, if_neg n10, if_neg n10, if_pos rfl, bnd2_some, if_pos rfl]
      · rw [if_neg hf, if_pos rfl, if_neg n10, if_pos rfl, bnd2_some, if_pos rfl]
  · rw [checkJob_out hC h1, bndT_r, if_neg h2, if_pos rfl]
    unfold f_X9_positionWith_j34 f_X9_check
    rw [if_pos rfl, bnd2_some, if_pos rfl]
    exact ⟨_, _, _, rfl, rfl, agr_1⟩
/-! the job at a place -/
theorem jobIn_neg (hI : GI u g) (hM : MS u g (MVSt v)) {q : Nat} {b : Int32} (hq : q < 6) (hb : b < 0) : f_X9_jobIn v (nI q) b = some (-1) := by
  have hJ := hI.1
  have hFU := FUbig hI
  refine loop_acc (L := fun n _ k => f_X9_jobIn_h2 n (nI q) b k v) (A := fun _ => 0) (J := aJ g) (fun n k hk => ?_) (fun n => ?_) (aJ g - 0) FU 0 rfl (by omega) (Nat.zero_le _)
  · show f_X9_jobIn_h2 (n + 1) (nI q) b (nI k) v = f_X9_jobIn_h2 n (nI q) b (nI (k + 1)) v
    rw [f_X9_jobIn_h2]
    simp only [if_neg o2, cl2]
    rw [hM.1.2.2, if_neg (nI_ge hk (by omega)), isIn_w hI hM hk hq, Option.bind_some, nI_1]
    unfold w1
    by_cases c : wIn g q k
    · have hl : posN g (aQu g k) k ≤ aJ g := @cnt_n (pB g (aQu g k) k) (aJ g)
      have hne : ¬ nI (posN g (aQu g k) k) = b := fun e => nI_pos (n := posN g (aQu g k) k) (by omega) (by rw [e]; exact hb)
      rw [if_pos c, if_neg n10, mpositionIn_ok hI hM hk c.1, Option.bind_some, gPos_n, if_neg hne]
    · rw [if_neg c, if_pos rfl]
  · show f_X9_jobIn_h2 (n + 1) (nI q) b (nI (aJ g)) v = some (-1)
    rw [f_X9_jobIn_h2]
    simp only [if_neg o2, cl2]
    rw [hM.1.2.2, if_pos (nI_le (Nat.le_refl _) (by omega))]
theorem jobAt_loop (hI : GI u g) (hC : CS g S) {q d : Nat} (hq : q < 6) (hd : d < sizN g q) (hd2 : d < 2 ^ 31) : ∀ (m n k : Nat), d - k = m → m < n → k ≤ d → f_X8_jobAt_h36 n (nI q) (nI d) (oI (nth g q k)) (nI k) (hs, S, U) = some (.inl (oI (nth g q d))) := by
  intro m
  induction m with
  | zero =>
    intro n k hm hn hk
    obtain ⟨n, rfl⟩ : ∃ m, n = m + 1 := ⟨n - 1, by omega⟩
    have e : k = d := by omega
    subst e
    rw [f_X8_jobAt_h36, if_pos (nI_le (Nat.le_refl _) hd2)]
  | succ m ih =>
    intro n k hm hn hk
    obtain ⟨n, rfl⟩ : ∃ m, n = m + 1 := ⟨n - 1, by omega⟩
    rw [f_X8_jobAt_h36, if_neg (nI_ge (by omega) hd2)]
    have hk2 := ih n (k + 1) (by omega) (by omega) (by omega)
    cases e : nth g q k with
    | none => have := nth_none e; omega
    | some p =>
      have e2 : nth g q (k + 1) = nxt g q (some p) := by rw [nth, e]
      rw [show f_X7_firstAfter (LsuS (hs, S, U)) (nI q) (oI (some p)) = _ from firstAfter_ok hI hC hq (fun m hm => by cases hm; exact nth_lt (u := u) e), Option.bind_some, nI_1, ← e2]
      exact hk2
theorem sizN_le {g : GS} {q : Nat} : sizN g q ≤ aJ g := @cnt_n (wB g q) (aJ g)
theorem Q_jobAt (hI : GI u g) (hC : CS g S) (hM : MS u g (MVSt v)) (hu : NVCt (UVQs U) = nI (uQ u)) (a b : Int32) : ∃ rc x th, f_X8_jobAt (hs, S, U) a b = some rc ∧ f_X9_jobAt v a b = some (x, MV_sTh v th) ∧ agr [IOB] rc x th := by
  have hQ := hI.2.1.2
  have hJ := hI.1
  unfold f_X8_jobAt f_X9_jobAt
  rcases rng a (n := uQ u) (by omega) with ⟨i, hi, rfl, hr⟩ | ⟨h1, h2⟩
  · have i6 : i < 6 := by omega
    have hsz := @sizN_le g i
    rw [show f_X8_checkQueue (LsuHs (hs, S, U), LsuU (hs, S, U)) (nI i) = some (.inl ()) from checkQueue_in (hs := hs) hu hQ hi, mcheckQueue_in hM hr, bnd2_some, if_neg n10, bndT_l]
    by_cases hb : b < 0
    · rw [if_pos hb, jobIn_neg (v := MV_sTh v 0) hI hM i6 hb, Option.bind_some]
      exact ⟨_, _, _, rfl, rfl, agr_v⟩
    · obtain ⟨d, hd, rfl⟩ := nI_of hb
      rw [if_neg hb, show f_X7_jobsIn (LsuS (hs, S, U)) (nI i) = _ from jobsIn_ok hI hC i6, Option.bind_some, gSz_n, jobIn_ok (v := MV_sTh v 0) hI hM i6 hd, Option.bind_some]
      by_cases c : d < sizN g i
      · rw [if_pos (nI_lt c (by omega)), show f_X7_firstAfter (LsuS (hs, S, U)) (nI i) (-1) = _ from firstAfter_ok (p := none) hI hC i6 (fun m hm => by cases hm), Option.bind_some]
        have := jobAt_loop (hs := hs) (U := U) hI hC i6 c hd d FU 0 rfl (by have : FU = 5000 := rfl; omega) (Nat.zero_le _)
        rw [show f_X8_jobAt_h36 FU (nI i) (nI d) (oI (nxt g i none)) 0 (hs, S, U) = _ from this]
        exact ⟨_, _, _, rfl, rfl, agr_v⟩
      · rw [if_neg (nI_nlt (by omega) hd)]
        refine ⟨_, _, _, rfl, rfl, agr_e ?_⟩
        cases e : nth g i d with
        | none => rfl
        | some m =>
          obtain ⟨k1, k2, k3⟩ := nth_some e
          have := pos_lt k1 k2
          omega
  · rw [show f_X8_checkQueue (LsuHs (hs, S, U), LsuU (hs, S, U)) a = some (.inr IOB) from checkQueue_out (hs := hs) hu h1, mcheckQueue_out hM h2, bnd2_some, if_pos rfl, bndT_r]
    exact ⟨_, _, _, rfl, rfl, agr_1⟩
end Q2
