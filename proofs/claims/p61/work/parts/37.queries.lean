/-! ===== 37: questions about one job or one queue (gen37.py) ===== -/
theorem bndT_l {α γ : Type} {a : α} {k : α → Option γ} {kx : String → Option γ} : bndT (some (.inl a)) k kx = k a := rfl
theorem bndT_r {α γ : Type} {e : String} {k : α → Option γ} {kx : String → Option γ} : bndT (some (.inr e : α ⊕ String)) k kx = kx e := rfl
theorem agr_e {L : List String} {x b : Int32} (h : x = b) : agr L (.inl x) b 0 := Or.inl ⟨by rw [h], rfl⟩
theorem node_at {G : HG} {t : Tr} {i : Nat} (hs : sub G t) (hu : upK G t (-1)) (hi : i ∈ nds t) : gL G i = hv (zp i t []).2.1 ∧ gR G i = hv (zp i t []).2.2 ∧ gU G i = top (zp i t []).1 ∧ gK G i = nI (1 + rkT (zp i t []).2.2) := by
  have e := zp_pl (K := []) hi
  have et : plT (zp i t []).1 (.branch i (zp i t []).2.1 (zp i t []).2.2) = t := e
  obtain ⟨h1, h2, -⟩ := sub_pl (G := G) (K := (zp i t []).1) (t := .branch i (zp i t []).2.1 (zp i t []).2.2) (by rw [et]; exact hs) (by rw [et]; exact hu)
  exact ⟨h1.2.1, h1.2.2.1, h2, h1.2.2.2.1⟩
/-- the links of a job are alike -/
theorem links {u : GU} {g : GS} {S : SV} {st : Nat → Int32} (hI : GI u g) (hC : CS g S) (hM : MS u g st) {i : Nat} (hi : i < aJ g) : HVLf (SVH S) i = jf st 5 i ∧ HVRt (SVH S) i = jf st 6 i ∧ HVUp (SVH S) i = jf st 7 i ∧ HVRk (SVH S) i = jf st 8 i := by
  by_cases hf : aFt g i = 0
  · have hin := hI.inn hi hf
    have hA := hC.2.2.2.2.1 (aQu g i)
    have hB := hM.2.2.2.2.1 (aQu g i)
    obtain ⟨a1, a2, a3, a4⟩ := node_at hA.1 hA.2 hin
    obtain ⟨b1, b2, b3, b4⟩ := node_at hB.1 hB.2 hin
    exact ⟨a1.trans b1.symm, a2.trans b2.symm, a3.trans b3.symm, a4.trans b4.symm⟩
  · obtain ⟨a1, a2, a3, a4⟩ := (hC.2.1 i hi).2.2.2.2.2 hf
    obtain ⟨b1, b2, b3, b4⟩ := (hM.2.1 i hi).2.2.2.2.2 hf
    exact ⟨a1.trans b1.symm, a2.trans b2.symm, a3.trans b3.symm, a4.trans b4.symm⟩
section ONE
variable {u : GU} {g : GS} {hs : Int32} {S : SV} {U : UV} {v : MV}
theorem Q_ownerOf (hI : GI u g) (hC : CS g S) (hM : MS u g (MVSt v)) (a : Int32) : ∃ rc b th, f_X8_ownerOf (hs, S) a = some rc ∧ f_X9_ownerOf v a = some (b, MV_sTh v th) ∧ agr [IOB] rc b th := by
  have hJ := hI.1
  unfold f_X8_ownerOf f_X9_ownerOf
  rcases rng a (n := aJ g) (by omega) with ⟨i, hi, rfl, hr⟩ | ⟨h1, h2⟩
  · have i40 : i < 40 := by omega
    rw [checkJob_in hI hC hi, mcheckJob_in hM hr, bnd2_some, if_neg n10, bndT_l]
    rw [if_neg (o40 i40), c40 i40, get_0 i40, Option.bind_some]
    exact ⟨_, _, _, rfl, rfl, agr_e ((hC.2.1 i hi).2.1.trans (hM.2.1 i hi).1.symm)⟩
  · rw [checkJob_out hC h1, mcheckJob_out hM h2, bnd2_some, if_pos rfl, bndT_r]
    exact ⟨_, _, _, rfl, rfl, agr_1⟩
theorem Q_priority (hI : GI u g) (hC : CS g S) (hM : MS u g (MVSt v)) (a : Int32) : ∃ rc b th, f_X8_priority (hs, S) a = some rc ∧ f_X9_priority v a = some (b, MV_sTh v th) ∧ agr [IOB] rc b th := by
  have hJ := hI.1
  unfold f_X8_priority f_X9_priority
  rcases rng a (n := aJ g) (by omega) with ⟨i, hi, rfl, hr⟩ | ⟨h1, h2⟩
  · have i40 : i < 40 := by omega
    rw [checkJob_in hI hC hi, mcheckJob_in hM hr, bnd2_some, if_neg n10, bndT_l]
    rw [if_neg (o40 i40), c40 i40, get_1 i40, Option.bind_some]
    exact ⟨_, _, _, rfl, rfl, agr_e ((hC.2.1 i hi).1.trans (hM.2.1 i hi).2.1.symm)⟩
  · rw [checkJob_out hC h1, mcheckJob_out hM h2, bnd2_some, if_pos rfl, bndT_r]
    exact ⟨_, _, _, rfl, rfl, agr_1⟩
theorem Q_pages (hI : GI u g) (hC : CS g S) (hM : MS u g (MVSt v)) (a : Int32) : ∃ rc b th, f_X8_pages (hs, S) a = some rc ∧ f_X9_pages v a = some (b, MV_sTh v th) ∧ agr [IOB] rc b th := by
  have hJ := hI.1
  unfold f_X8_pages f_X9_pages
  rcases rng a (n := aJ g) (by omega) with ⟨i, hi, rfl, hr⟩ | ⟨h1, h2⟩
  · have i40 : i < 40 := by omega
    rw [checkJob_in hI hC hi, mcheckJob_in hM hr, bnd2_some, if_neg n10, bndT_l]
    rw [if_neg (o40 i40), c40 i40, get_2 i40, Option.bind_some]
    exact ⟨_, _, _, rfl, rfl, agr_e ((hC.2.1 i hi).2.2.1.trans (hM.2.1 i hi).2.2.1.symm)⟩
  · rw [checkJob_out hC h1, mcheckJob_out hM h2, bnd2_some, if_pos rfl, bndT_r]
    exact ⟨_, _, _, rfl, rfl, agr_1⟩
theorem Q_leftChild (hI : GI u g) (hC : CS g S) (hM : MS u g (MVSt v)) (a : Int32) : ∃ rc b th, f_X8_leftChild (hs, S) a = some rc ∧ f_X9_leftChild v a = some (b, MV_sTh v th) ∧ agr [IOB] rc b th := by
  have hJ := hI.1
  unfold f_X8_leftChild f_X9_leftChild
  rcases rng a (n := aJ g) (by omega) with ⟨i, hi, rfl, hr⟩ | ⟨h1, h2⟩
  · have i40 : i < 40 := by omega
    rw [checkJob_in hI hC hi, mcheckJob_in hM hr, bnd2_some, if_neg n10, bndT_l]
    rw [if_neg (o40 i40), c40 i40, get_5 i40, Option.bind_some]
    exact ⟨_, _, _, rfl, rfl, agr_e ((links hI hC hM hi).1)⟩
  · rw [checkJob_out hC h1, mcheckJob_out hM h2, bnd2_some, if_pos rfl, bndT_r]
    exact ⟨_, _, _, rfl, rfl, agr_1⟩
theorem Q_rightChild (hI : GI u g) (hC : CS g S) (hM : MS u g (MVSt v)) (a : Int32) : ∃ rc b th, f_X8_rightChild (hs, S) a = some rc ∧ f_X9_rightChild v a = some (b, MV_sTh v th) ∧ agr [IOB] rc b th := by
  have hJ := hI.1
  unfold f_X8_rightChild f_X9_rightChild
  rcases rng a (n := aJ g) (by omega) with ⟨i, hi, rfl, hr⟩ | ⟨h1, h2⟩
  · have i40 : i < 40 := by omega
    rw [checkJob_in hI hC hi, mcheckJob_in hM hr, bnd2_some, if_neg n10, bndT_l]
    rw [if_neg (o40 i40), c40 i40, get_6 i40, Option.bind_some]
    exact ⟨_, _, _, rfl, rfl, agr_e ((links hI hC hM hi).2.1)⟩
  · rw [checkJob_out hC h1, mcheckJob_out hM h2, bnd2_some, if_pos rfl, bndT_r]
    exact ⟨_, _, _, rfl, rfl, agr_1⟩
theorem Q_parent (hI : GI u g) (hC : CS g S) (hM : MS u g (MVSt v)) (a : Int32) : ∃ rc b th, f_X8_parent (hs, S) a = some rc ∧ f_X9_parent v a = some (b, MV_sTh v th) ∧ agr [IOB] rc b th := by
  have hJ := hI.1
  unfold f_X8_parent f_X9_parent
  rcases rng a (n := aJ g) (by omega) with ⟨i, hi, rfl, hr⟩ | ⟨h1, h2⟩
  · have i40 : i < 40 := by omega
    rw [checkJob_in hI hC hi, mcheckJob_in hM hr, bnd2_some, if_neg n10, bndT_l]
    rw [if_neg (o40 i40), c40 i40, get_7 i40, Option.bind_some]
    exact ⟨_, _, _, rfl, rfl, agr_e ((links hI hC hM hi).2.2.1)⟩
  · rw [checkJob_out hC h1, mcheckJob_out hM h2, bnd2_some, if_pos rfl, bndT_r]
    exact ⟨_, _, _, rfl, rfl, agr_1⟩
theorem Q_rank (hI : GI u g) (hC : CS g S) (hM : MS u g (MVSt v)) (a : Int32) : ∃ rc b th, f_X8_rank (hs, S) a = some rc ∧ f_X9_rank v a = some (b, MV_sTh v th) ∧ agr [IOB] rc b th := by
  have hJ := hI.1
  unfold f_X8_rank f_X9_rank
  rcases rng a (n := aJ g) (by omega) with ⟨i, hi, rfl, hr⟩ | ⟨h1, h2⟩
  · have i40 : i < 40 := by omega
    rw [checkJob_in hI hC hi, mcheckJob_in hM hr, bnd2_some, if_neg n10, bndT_l]
    rw [show f_X0_rankOf (SVH (LsS (hs, S))) (nI i) = _ from rankOf_n i40, Option.bind_some, get_8 i40, Option.bind_some]
    exact ⟨_, _, _, rfl, rfl, agr_e (links hI hC hM hi).2.2.2⟩
  · rw [checkJob_out hC h1, mcheckJob_out hM h2, bnd2_some, if_pos rfl, bndT_r]
    exact ⟨_, _, _, rfl, rfl, agr_1⟩
theorem Q_isWaiting (hI : GI u g) (hC : CS g S) (hM : MS u g (MVSt v)) (a : Int32) : ∃ rc b th, f_X8_isWaiting (hs, S) a = some rc ∧ f_X9_isWaiting v a = some (b, MV_sTh v th) ∧ agr [IOB] rc b th := by
  have hJ := hI.1
  unfold f_X8_isWaiting f_X9_isWaiting
  rcases rng a (n := aJ g) (by omega) with ⟨i, hi, rfl, hr⟩ | ⟨h1, h2⟩
  · have i40 : i < 40 := by omega
    rw [checkJob_in hI hC hi, mcheckJob_in hM hr, bnd2_some, if_neg n10, bndT_l]
    rw [if_neg (o40 i40), c40 i40, get_3 i40, Option.bind_some, show SVFt (LsS (hs, S)) i = nI (aFt g i) from (hC.2.1 i hi).2.2.2.1, show jf (MVSt (MV_sTh v 0)) 3 i = nI (aFt g i) from (hM.2.1 i hi).2.2.2.1]
    by_cases c : nI (aFt g i) = 0
    · rw [if_pos c, if_pos c]; exact ⟨_, _, _, rfl, rfl, agr_v⟩
    · rw [if_neg c, if_neg c]; exact ⟨_, _, _, rfl, rfl, agr_v⟩
  · rw [checkJob_out hC h1, mcheckJob_out hM h2, bnd2_some, if_pos rfl, bndT_r]
    exact ⟨_, _, _, rfl, rfl, agr_1⟩
theorem Q_isPrinted (hI : GI u g) (hC : CS g S) (hM : MS u g (MVSt v)) (a : Int32) : ∃ rc b th, f_X8_isPrinted (hs, S) a = some rc ∧ f_X9_isPrinted v a = some (b, MV_sTh v th) ∧ agr [IOB] rc b th := by
  have hJ := hI.1
  unfold f_X8_isPrinted f_X9_isPrinted
  rcases rng a (n := aJ g) (by omega) with ⟨i, hi, rfl, hr⟩ | ⟨h1, h2⟩
  · have i40 : i < 40 := by omega
    rw [checkJob_in hI hC hi, mcheckJob_in hM hr, bnd2_some, if_neg n10, bndT_l]
    rw [if_neg (o40 i40), c40 i40, get_3 i40, Option.bind_some, show SVFt (LsS (hs, S)) i = nI (aFt g i) from (hC.2.1 i hi).2.2.2.1, show jf (MVSt (MV_sTh v 0)) 3 i = nI (aFt g i) from (hM.2.1 i hi).2.2.2.1]
    by_cases c : nI (aFt g i) = 1
    · rw [if_pos c, if_pos c]; exact ⟨_, _, _, rfl, rfl, agr_v⟩
    · rw [if_neg c, if_neg c]; exact ⟨_, _, _, rfl, rfl, agr_v⟩
  · rw [checkJob_out hC h1, mcheckJob_out hM h2, bnd2_some, if_pos rfl, bndT_r]
    exact ⟨_, _, _, rfl, rfl, agr_1⟩
theorem Q_isCancelled (hI : GI u g) (hC : CS g S) (hM : MS u g (MVSt v)) (a : Int32) : ∃ rc b th, f_X8_isCancelled (hs, S) a = some rc ∧ f_X9_isCancelled v a = some (b, MV_sTh v th) ∧ agr [IOB] rc b th := by
  have hJ := hI.1
  unfold f_X8_isCancelled f_X9_isCancelled
  rcases rng a (n := aJ g) (by omega) with ⟨i, hi, rfl, hr⟩ | ⟨h1, h2⟩
  · have i40 : i < 40 := by omega
    rw [checkJob_in hI hC hi, mcheckJob_in hM hr, bnd2_some, if_neg n10, bndT_l]
    rw [if_neg (o40 i40), c40 i40, get_3 i40, Option.bind_some, show SVFt (LsS (hs, S)) i = nI (aFt g i) from (hC.2.1 i hi).2.2.2.1, show jf (MVSt (MV_sTh v 0)) 3 i = nI (aFt g i) from (hM.2.1 i hi).2.2.2.1]
    by_cases c : nI (aFt g i) = 2
    · rw [if_pos c, if_pos c]; exact ⟨_, _, _, rfl, rfl, agr_v⟩
    · rw [if_neg c, if_neg c]; exact ⟨_, _, _, rfl, rfl, agr_v⟩
  · rw [checkJob_out hC h1, mcheckJob_out hM h2, bnd2_some, if_pos rfl, bndT_r]
    exact ⟨_, _, _, rfl, rfl, agr_1⟩
theorem Q_queueOf (hI : GI u g) (hC : CS g S) (hM : MS u g (MVSt v)) (a : Int32) : ∃ rc b th, f_X8_queueOf (hs, S) a = some rc ∧ f_X9_queueOf v a = some (b, MV_sTh v th) ∧ agr [IOB] rc b th := by
  have hJ := hI.1
  unfold f_X8_queueOf f_X9_queueOf
  rcases rng a (n := aJ g) (by omega) with ⟨i, hi, rfl, hr⟩ | ⟨h1, h2⟩
  · have i40 : i < 40 := by omega
    rw [checkJob_in hI hC hi, mcheckJob_in hM hr, bnd2_some, if_neg n10, bndT_l]
    rw [if_neg (o40 i40), c40 i40, mwaits_ok (v := MV_sTh v 0) hI hM hi, Option.bind_some, show SVQu (LsS (hs, S)) i = _ from (hC.2.1 i hi).2.2.2.2.1]
    by_cases c : aFt g i = 0
    · rw [if_pos c, if_pos c, if_neg n10, get_4 i40, Option.bind_some]; exact ⟨_, _, _, rfl, rfl, agr_e ((hM.2.1 i hi).2.2.2.2.1 c).symm⟩
    · rw [if_neg c, if_neg c, if_pos rfl]; exact ⟨_, _, _, rfl, rfl, agr_v⟩
  · rw [checkJob_out hC h1, mcheckJob_out hM h2, bnd2_some, if_pos rfl, bndT_r]
    exact ⟨_, _, _, rfl, rfl, agr_1⟩
theorem Q_root (hI : GI u g) (hC : CS g S) (hM : MS u g (MVSt v)) (hu : NVCt (UVQs U) = nI (uQ u)) (a : Int32) : ∃ rc b th, f_X8_root (hs, S, U) a = some rc ∧ f_X9_root v a = some (b, MV_sTh v th) ∧ agr [IOB] rc b th := by
  have hQ := hI.2.1.2
  unfold f_X8_root f_X9_root
  rcases rng a (n := uQ u) (by omega) with ⟨i, hi, rfl, hr⟩ | ⟨h1, h2⟩
  · have i6 : i < 6 := by omega
    rw [show f_X8_checkQueue (LsuHs (hs, S, U), LsuU (hs, S, U)) (nI i) = some (.inl ()) from checkQueue_in (hs := hs) hu hQ hi, mcheckQueue_in hM hr, bnd2_some, if_neg n10, bndT_l]
    rw [if_neg (o6 i6), c6 i6, rootOf_ok i6, Option.bind_some]
    exact ⟨_, _, _, rfl, rfl, agr_e ((hC.2.2.2.1 i i6).1.trans (hM.2.2.2.1 i hi).1.symm)⟩
  · rw [show f_X8_checkQueue (LsuHs (hs, S, U), LsuU (hs, S, U)) a = some (.inr IOB) from checkQueue_out (hs := hs) hu h1, mcheckQueue_out hM h2, bnd2_some, if_pos rfl, bndT_r]
    exact ⟨_, _, _, rfl, rfl, agr_1⟩
theorem Q_size (hI : GI u g) (hC : CS g S) (hM : MS u g (MVSt v)) (hu : NVCt (UVQs U) = nI (uQ u)) (a : Int32) : ∃ rc b th, f_X8_size (hs, S, U) a = some rc ∧ f_X9_size v a = some (b, MV_sTh v th) ∧ agr [IOB] rc b th := by
  have hQ := hI.2.1.2
  unfold f_X8_size f_X9_size
  rcases rng a (n := uQ u) (by omega) with ⟨i, hi, rfl, hr⟩ | ⟨h1, h2⟩
  · have i6 : i < 6 := by omega
    rw [show f_X8_checkQueue (LsuHs (hs, S, U), LsuU (hs, S, U)) (nI i) = some (.inl ()) from checkQueue_in (hs := hs) hu hQ hi, mcheckQueue_in hM hr, bnd2_some, if_neg n10, bndT_l]
    rw [show f_X7_jobsIn (LsuS (hs, S, U)) (nI i) = _ from jobsIn_ok hI hC i6, Option.bind_some, sizeOf_ok (v := MV_sTh v 0) hI hM i6, Option.bind_some]
    exact ⟨_, _, _, rfl, rfl, agr_v⟩
  · rw [show f_X8_checkQueue (LsuHs (hs, S, U), LsuU (hs, S, U)) a = some (.inr IOB) from checkQueue_out (hs := hs) hu h1, mcheckQueue_out hM h2, bnd2_some, if_pos rfl, bndT_r]
    exact ⟨_, _, _, rfl, rfl, agr_1⟩
theorem Q_waitingPages (hI : GI u g) (hC : CS g S) (hM : MS u g (MVSt v)) (hu : NVCt (UVQs U) = nI (uQ u)) (a : Int32) : ∃ rc b th, f_X8_waitingPages (hs, S, U) a = some rc ∧ f_X9_waitingPages v a = some (b, MV_sTh v th) ∧ agr [IOB] rc b th := by
  have hQ := hI.2.1.2
  unfold f_X8_waitingPages f_X9_waitingPages
  rcases rng a (n := uQ u) (by omega) with ⟨i, hi, rfl, hr⟩ | ⟨h1, h2⟩
  · have i6 : i < 6 := by omega
    rw [show f_X8_checkQueue (LsuHs (hs, S, U), LsuU (hs, S, U)) (nI i) = some (.inl ()) from checkQueue_in (hs := hs) hu hQ hi, mcheckQueue_in hM hr, bnd2_some, if_neg n10, bndT_l]
    rw [show f_X7_pagesIn (LsuS (hs, S, U)) (nI i) = _ from pagesIn_ok hI hC i6, Option.bind_some, mpagesIn_ok (v := MV_sTh v 0) hI hM i6, Option.bind_some]
    exact ⟨_, _, _, rfl, rfl, agr_v⟩
  · rw [show f_X8_checkQueue (LsuHs (hs, S, U), LsuU (hs, S, U)) a = some (.inr IOB) from checkQueue_out (hs := hs) hu h1, mcheckQueue_out hM h2, bnd2_some, if_pos rfl, bndT_r]
    exact ⟨_, _, _, rfl, rfl, agr_1⟩
theorem Q_height (hI : GI u g) (hC : CS g S) (hM : MS u g (MVSt v)) (hu : NVCt (UVQs U) = nI (uQ u)) (a : Int32) : ∃ rc b th, f_X8_height (hs, S, U) a = some rc ∧ f_X9_height v a = some (b, MV_sTh v th) ∧ agr [IOB] rc b th := by
  have hQ := hI.2.1.2
  unfold f_X8_height f_X9_height
  rcases rng a (n := uQ u) (by omega) with ⟨i, hi, rfl, hr⟩ | ⟨h1, h2⟩
  · have i6 : i < 6 := by omega
    rw [show f_X8_checkQueue (LsuHs (hs, S, U), LsuU (hs, S, U)) (nI i) = some (.inl ()) from checkQueue_in (hs := hs) hu hQ hi, mcheckQueue_in hM hr, bnd2_some, if_neg n10, bndT_l]
    have hF := hM.2.2.2.2.1 i
    have hl := @ht_len (aF g i)
    have hl2 := len40 hF.1 (hI.2.2.1 i).1
    rw [show f_X7_longestPath (LsuS (hs, S, U)) (nI i) = _ from longestPath_ok hI hC i6, Option.bind_some, rootOf_ok i6, Option.bind_some, show MVSt (MV_sTh v 0) (10 + 11 * i + 9) = hv (aF g i) from (hM.2.2.2.1 i hi).1, heightFrom_ok (v := MV_sTh v 0) hF.1 (by omega) (by omega), Option.bind_some]
    exact ⟨_, _, _, rfl, rfl, agr_v⟩
  · rw [show f_X8_checkQueue (LsuHs (hs, S, U), LsuU (hs, S, U)) a = some (.inr IOB) from checkQueue_out (hs := hs) hu h1, mcheckQueue_out hM h2, bnd2_some, if_pos rfl, bndT_r]
    exact ⟨_, _, _, rfl, rfl, agr_1⟩
theorem Q_printedPages (hI : GI u g) (hC : CS g S) (hM : MS u g (MVSt v)) (hu : NVCt (UVQs U) = nI (uQ u)) (a : Int32) : ∃ rc b th, f_X8_printedPages (hs, S, U) a = some rc ∧ f_X9_printedPages v a = some (b, MV_sTh v th) ∧ agr [IOB] rc b th := by
  have hQ := hI.2.1.2
  unfold f_X8_printedPages f_X9_printedPages
  rcases rng a (n := uQ u) (by omega) with ⟨i, hi, rfl, hr⟩ | ⟨h1, h2⟩
  · have i6 : i < 6 := by omega
    rw [show f_X8_checkQueue (LsuHs (hs, S, U), LsuU (hs, S, U)) (nI i) = some (.inl ()) from checkQueue_in (hs := hs) hu hQ hi, mcheckQueue_in hM hr, bnd2_some, if_neg n10, bndT_l]
    unfold f_X9_q
    rw [if_neg (o6 i6), c6 i6, Option.bind_some, qadr, show nI (10 + 11 * i) + (10 : Int32) = nI (10 + 11 * i + 10) from nI_add _ 10, if_neg (o500 (by omega)), c500 (by omega)]
    exact ⟨_, _, _, rfl, rfl, agr_e ((hC.2.2.2.1 i i6).2.1.trans (hM.2.2.2.1 i hi).2.1.symm)⟩
  · rw [show f_X8_checkQueue (LsuHs (hs, S, U), LsuU (hs, S, U)) a = some (.inr IOB) from checkQueue_out (hs := hs) hu h1, mcheckQueue_out hM h2, bnd2_some, if_pos rfl, bndT_r]
    exact ⟨_, _, _, rfl, rfl, agr_1⟩
theorem Q_speed (hI : GI u g) (hC : CS g S) (hM : MS u g (MVSt v)) (hu : NVCt (UVQs U) = nI (uQ u)) (hS : US u (MVSt v)) (hp : ∀ q, q < uQ u → UVSp U q = nI (uS u q)) (a : Int32) : ∃ rc b th, f_X8_speed (hs, U) a = some rc ∧ f_X9_speed v a = some (b, MV_sTh v th) ∧ agr [IOB] rc b th := by
  have hQ := hI.2.1.2
  unfold f_X8_speed f_X9_speed
  rcases rng a (n := uQ u) (by omega) with ⟨i, hi, rfl, hr⟩ | ⟨h1, h2⟩
  · have i6 : i < 6 := by omega
    rw [show f_X8_checkQueue (hs, U) (nI i) = some (.inl ()) from checkQueue_in (hs := hs) hu hQ hi, mcheckQueue_in hM hr, bnd2_some, if_neg n10, bndT_l]
    unfold f_X9_q
    rw [if_neg (o6 i6), c6 i6, Option.bind_some, qadr, show nI (10 + 11 * i) + (7 : Int32) = nI (10 + 11 * i + 7) from nI_add _ 7, if_neg (o500 (by omega)), c500 (by omega)]
    exact ⟨_, _, _, rfl, rfl, agr_e ((hp i hi).trans (hS.1 i hi).2.2.2.symm)⟩
  · rw [show f_X8_checkQueue (hs, U) a = some (.inr IOB) from checkQueue_out (hs := hs) hu h1, mcheckQueue_out hM h2, bnd2_some, if_pos rfl, bndT_r]
    exact ⟨_, _, _, rfl, rfl, agr_1⟩
theorem Q_isPaused (hI : GI u g) (hC : CS g S) (hM : MS u g (MVSt v)) (hu : NVCt (UVQs U) = nI (uQ u)) (a : Int32) : ∃ rc b th, f_X8_isPaused (hs, S, U) a = some rc ∧ f_X9_isPaused v a = some (b, MV_sTh v th) ∧ agr [IOB] rc b th := by
  have hQ := hI.2.1.2
  unfold f_X8_isPaused f_X9_isPaused
  rcases rng a (n := uQ u) (by omega) with ⟨i, hi, rfl, hr⟩ | ⟨h1, h2⟩
  · have i6 : i < 6 := by omega
    rw [show f_X8_checkQueue (LsuHs (hs, S, U), LsuU (hs, S, U)) (nI i) = some (.inl ()) from checkQueue_in (hs := hs) hu hQ hi, mcheckQueue_in hM hr, bnd2_some, if_neg n10, bndT_l]
    unfold f_X9_q
    rw [if_neg (o6 i6), c6 i6, Option.bind_some, qadr, show nI (10 + 11 * i) + (8 : Int32) = nI (10 + 11 * i + 8) from nI_add _ 8, if_neg (o500 (by omega)), c500 (by omega), show SVPs (LsuS (hs, S, U)) i = b2i (aPs g i) from (hC.2.2.2.1 i i6).2.2, show MVSt (MV_sTh v 0) (10 + 11 * i + 8) = b2i (aPs g i) from (hM.2.2.2.1 i hi).2.2]
    cases aPs g i
    · rw [if_neg (by decide), if_neg (by decide)]; exact ⟨_, _, _, rfl, rfl, agr_v⟩
    · rw [if_neg (by decide), if_pos (by decide)]; exact ⟨_, _, _, rfl, rfl, agr_v⟩
  · rw [show f_X8_checkQueue (LsuHs (hs, S, U), LsuU (hs, S, U)) a = some (.inr IOB) from checkQueue_out (hs := hs) hu h1, mcheckQueue_out hM h2, bnd2_some, if_pos rfl, bndT_r]
    exact ⟨_, _, _, rfl, rfl, agr_1⟩
end ONE
