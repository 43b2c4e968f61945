/-! ===== 58: every question and change, with all that the two have in common (gen58.py) ===== -/
theorem NMc_ct {f : Nat → List Nat} {n : Nat} {N : NV} (h : NMc f n N) : NVCt N = nI n := h.1
theorem ALL'_w {hs : Int32} {R : RV} {O : OV} {Y : YV} {S C K : SV} {U : UV} {v w : MV} (hA : ALL' hs R O Y S C K U v) (h1 : ∀ n, n < 500 → MVSt w n = MVSt v n) (h2 : MVSv w = MVSv v) (h3 : MVPt w = MVPt v) (h4 : MVPc w = MVPc v) (h5 : MVIs w = MVIs v) (h6 : MVBf w = MVBf v) (h7 : MVLn w = MVLn v) (h8 : MVEc w = MVEc v) (h9 : MVEo w = MVEo v) (h10 : MVOu w = MVOu v) (h11 : MVOl w = MVOl v) : ALL' hs R O Y S C K U w := by
  obtain ⟨u, g, H, k, T, hUB, ⟨hUI, hI, hC, hM, hH⟩, hCU, hK, hSC, hIN, hER, hO⟩ := hA
  refine ⟨u, g, H, k, T, hUB, ⟨hUI, hI, hC, MSU_congr hUI hI h1 hM, by rw [h3, h4]; exact hH⟩, hCU, by rw [h5, h2]; exact hK, hSC, ?_, ?_, ?_⟩
  · unfold IN
    rw [h6, h7]
    exact hIN
  · unfold ERR
    rw [h8, h9]
    exact hER
  · unfold OR
    rw [h10, h11]
    exact hO
theorem ALL'_th {hs : Int32} {R : RV} {O : OV} {Y : YV} {S C K : SV} {U : UV} {v : MV} (hA : ALL' hs R O Y S C K U v) (th : Int32) : ALL' hs R O Y S C K U (MV_sTh v th) :=
  ALL'_w hA (fun _ _ => rfl) rfl rfl rfl rfl rfl rfl rfl rfl rfl rfl
theorem ALL'_as {hs : Int32} {R : RV} {O : OV} {Y : YV} {S C K : SV} {U : UV} {v : MV} (hA : ALL' hs R O Y S C K U v) (th : Int32) (A st : Nat → Int32) (h : ∀ n, n < 500 → st n = MVSt v n) : ALL' hs R O Y S C K U (MV_sSt (MV_sAs (MV_sTh v th) A) st) :=
  ALL'_w hA h rfl rfl rfl rfl rfl rfl rfl rfl rfl rfl
theorem ALL'_or {hs : Int32} {R : RV} {O : OV} {Y : YV} {S C K : SV} {U : UV} {v : MV} (hA : ALL' hs R O Y S C K U v) (th : Int32) (A B st : Nat → Int32) (h : ∀ n, n < 500 → st n = MVSt v n) : ALL' hs R O Y S C K U (MV_sSt (MV_sAs (MV_sOr (MV_sTh v th) B) A) st) :=
  ALL'_w hA h rfl rfl rfl rfl rfl rfl rfl rfl rfl rfl
/-- a change: the reference's new history and state -/
theorem ALL'_mvc {hs : Int32} {R : RV} {O : OV} {Y' : YV} {S' C K : SV} {U : UV} {v : MV} {u : GU} {k : Option GS} {T : List Nat} (hUB : UB u) (hCU : CU u U) (hK : KR u k hs K (MVIs v) (MVSv v)) (hSC : SCR C) (hIN : IN T R v) (hER : ERR R v) (hO : OR O v) {st P : Nat → Int32} {c th : Int32} (hR : ∃ g' H', RT u g' H' Y' S' (mvc v st P c th)) : ALL' hs R O Y' S' C K U (mvc v st P c th) := by
  obtain ⟨g', H', h⟩ := hR
  exact ⟨u, g', H', k, T, hUB, h, hCU, hK, hSC, hIN, hER, hO⟩
theorem NMq_of {u : GU} {g : GS} {st : Nat → Int32} (hM : MSU u g st) (q : Nat) (hq : q < uQ u) : NMa st (10 + 11 * q) (uN u q) := ⟨(hM.2.1 q hq).1, (hM.2.1 q hq).2.2.1⟩
theorem NMo_of {u : GU} {g : GS} {st : Nat → Int32} (hM : MSU u g st) (q : Nat) (hq : q < uO u) : NMa st (80 + 7 * q) (uM u q) := ⟨(hM.2.2 q hq).1, (hM.2.2 q hq).2⟩
theorem Q_queueNameByte {u : GU} {g : GS} {hs : Int32} {U : UV} {v : MV} (hB : UB u) (hM : MSU u g (MVSt v)) (hC : CU u U) (a b : Int32) : ∃ rc x th, f_X8_queueNameByte (hs, U) a b = some rc ∧ f_X9_queueNameByte v a b = some (x, MV_sTh v th) ∧ agr [IOB] rc x th := by
  have hQ := hB.1
  unfold f_X8_queueNameByte f_X9_queueNameByte
  rcases rng a (n := uQ u) (by omega) with ⟨i, hi, rfl, hr⟩ | ⟨h1, h2⟩
  · have i6 : i < 6 := by omega
    rw [show f_X8_checkQueue (hs, U) (nI i) = some (.inl ()) from checkQueue_in (hs := hs) hC.1.1 hQ hi, mcheckQueue_in hM.1 hr, bnd2_some, if_neg n10, bndT_l]
    unfold f_X9_q
    rw [Option.bind_some, qadr, show f_X2_letter (UVQs (LuU (hs, U))) (nI i) b = _ from letter_ok hC.1 (by omega) hi (hB.2.2.1 i hi).2 b, Option.bind_some, letterAt_ok (v := MV_sTh v 0) (a := 10 + 11 * i) (f := uN u i) (by omega) (NMq_of hM i hi) (hB.2.2.1 i hi).2 b, Option.bind_some]
    exact ⟨_, _, _, rfl, rfl, agr_v⟩
  · rw [show f_X8_checkQueue (hs, U) a = some (.inr IOB) from checkQueue_out (hs := hs) hC.1.1 h1, mcheckQueue_out hM.1 h2, bnd2_some, if_pos rfl, bndT_r]
    exact ⟨_, _, _, rfl, rfl, agr_1⟩
theorem Q_ownerNameByte {u : GU} {g : GS} {hs : Int32} {U : UV} {v : MV} (hB : UB u) (hM : MSU u g (MVSt v)) (hC : CU u U) (a b : Int32) : ∃ rc x th, f_X8_ownerNameByte (hs, U) a b = some rc ∧ f_X9_ownerNameByte v a b = some (x, MV_sTh v th) ∧ agr [IOB] rc x th := by
  have hO := hB.2.1
  unfold f_X8_ownerNameByte f_X9_ownerNameByte f_X9_check
  rw [isO_ok hM.1, Option.bind_some]
  rcases rng a (n := uO u) (by omega) with ⟨i, hi, rfl, hr⟩ | ⟨h1, h2⟩
  · have i8 : i < 8 := by omega
    rw [show f_X8_checkOwner (hs, U) (nI i) = some (.inl ()) from checkOwner_in (hs := hs) hC.2.1.1 hO hi, bndT_l, if_pos hr, if_neg n10, if_neg n10, if_neg n10, bnd2_some, if_neg n10]
    unfold f_X9_o
    rw [Option.bind_some, oadr, show f_X2_letter (UVOs (LuU (hs, U))) (nI i) b = _ from letter_ok hC.2.1 (by omega) hi (hB.2.2.2 i hi) b, Option.bind_some, letterAt_ok (v := MV_sTh v 0) (a := 80 + 7 * i) (f := uM u i) (by omega) (NMo_of hM i hi) (hB.2.2.2 i hi) b, Option.bind_some]
    exact ⟨_, _, _, rfl, rfl, agr_v⟩
  · rw [show f_X8_checkOwner (hs, U) a = some (.inr IOB) from checkOwner_out (hs := hs) hC.2.1.1 h1, bndT_r, if_neg h2, if_pos rfl, bnd2_some, if_pos rfl]
    exact ⟨_, _, _, rfl, rfl, agr_1⟩
section ALLS
variable {hs : Int32} {R : RV} {O : OV} {Y : YV} {S C K : SV} {U : UV} {v : MV} {TS : TV} {D : UV}
theorem A_queueOf (hA : ALL' hs R O Y S C K U v) (a : Int32) : ∃ rc x w, f_X8_queueOf (hs, S) a = some rc ∧ f_X9_queueOf v a = some (x, w) ∧ agr [IOB] rc x (MVTh w) ∧ ALL' hs R O Y S C K U w := by
  obtain ⟨u, g, H, k, T, hUB, ⟨hUI, hI, hC, hM, hH⟩, hCU, hK, hSC, hIN, hER, hO⟩ := id hA
  obtain ⟨rc, x, th, h1, h2, h3⟩ := Q_queueOf (hs := hs) hI hC hM.1 a
  exact ⟨rc, x, _, h1, h2, h3, ALL'_th hA th⟩
theorem A_ownerOf (hA : ALL' hs R O Y S C K U v) (a : Int32) : ∃ rc x w, f_X8_ownerOf (hs, S) a = some rc ∧ f_X9_ownerOf v a = some (x, w) ∧ agr [IOB] rc x (MVTh w) ∧ ALL' hs R O Y S C K U w := by
  obtain ⟨u, g, H, k, T, hUB, ⟨hUI, hI, hC, hM, hH⟩, hCU, hK, hSC, hIN, hER, hO⟩ := id hA
  obtain ⟨rc, x, th, h1, h2, h3⟩ := Q_ownerOf (hs := hs) hI hC hM.1 a
  exact ⟨rc, x, _, h1, h2, h3, ALL'_th hA th⟩
theorem A_priority (hA : ALL' hs R O Y S C K U v) (a : Int32) : ∃ rc x w, f_X8_priority (hs, S) a = some rc ∧ f_X9_priority v a = some (x, w) ∧ agr [IOB] rc x (MVTh w) ∧ ALL' hs R O Y S C K U w := by
  obtain ⟨u, g, H, k, T, hUB, ⟨hUI, hI, hC, hM, hH⟩, hCU, hK, hSC, hIN, hER, hO⟩ := id hA
  obtain ⟨rc, x, th, h1, h2, h3⟩ := Q_priority (hs := hs) hI hC hM.1 a
  exact ⟨rc, x, _, h1, h2, h3, ALL'_th hA th⟩
theorem A_pages (hA : ALL' hs R O Y S C K U v) (a : Int32) : ∃ rc x w, f_X8_pages (hs, S) a = some rc ∧ f_X9_pages v a = some (x, w) ∧ agr [IOB] rc x (MVTh w) ∧ ALL' hs R O Y S C K U w := by
  obtain ⟨u, g, H, k, T, hUB, ⟨hUI, hI, hC, hM, hH⟩, hCU, hK, hSC, hIN, hER, hO⟩ := id hA
  obtain ⟨rc, x, th, h1, h2, h3⟩ := Q_pages (hs := hs) hI hC hM.1 a
  exact ⟨rc, x, _, h1, h2, h3, ALL'_th hA th⟩
theorem A_isWaiting (hA : ALL' hs R O Y S C K U v) (a : Int32) : ∃ rc x w, f_X8_isWaiting (hs, S) a = some rc ∧ f_X9_isWaiting v a = some (x, w) ∧ agr [IOB] rc x (MVTh w) ∧ ALL' hs R O Y S C K U w := by
  obtain ⟨u, g, H, k, T, hUB, ⟨hUI, hI, hC, hM, hH⟩, hCU, hK, hSC, hIN, hER, hO⟩ := id hA
  obtain ⟨rc, x, th, h1, h2, h3⟩ := Q_isWaiting (hs := hs) hI hC hM.1 a
  exact ⟨rc, x, _, h1, h2, h3, ALL'_th hA th⟩
theorem A_isPrinted (hA : ALL' hs R O Y S C K U v) (a : Int32) : ∃ rc x w, f_X8_isPrinted (hs, S) a = some rc ∧ f_X9_isPrinted v a = some (x, w) ∧ agr [IOB] rc x (MVTh w) ∧ ALL' hs R O Y S C K U w := by
  obtain ⟨u, g, H, k, T, hUB, ⟨hUI, hI, hC, hM, hH⟩, hCU, hK, hSC, hIN, hER, hO⟩ := id hA
  obtain ⟨rc, x, th, h1, h2, h3⟩ := Q_isPrinted (hs := hs) hI hC hM.1 a
  exact ⟨rc, x, _, h1, h2, h3, ALL'_th hA th⟩
theorem A_isCancelled (hA : ALL' hs R O Y S C K U v) (a : Int32) : ∃ rc x w, f_X8_isCancelled (hs, S) a = some rc ∧ f_X9_isCancelled v a = some (x, w) ∧ agr [IOB] rc x (MVTh w) ∧ ALL' hs R O Y S C K U w := by
  obtain ⟨u, g, H, k, T, hUB, ⟨hUI, hI, hC, hM, hH⟩, hCU, hK, hSC, hIN, hER, hO⟩ := id hA
  obtain ⟨rc, x, th, h1, h2, h3⟩ := Q_isCancelled (hs := hs) hI hC hM.1 a
  exact ⟨rc, x, _, h1, h2, h3, ALL'_th hA th⟩
theorem A_leftChild (hA : ALL' hs R O Y S C K U v) (a : Int32) : ∃ rc x w, f_X8_leftChild (hs, S) a = some rc ∧ f_X9_leftChild v a = some (x, w) ∧ agr [IOB] rc x (MVTh w) ∧ ALL' hs R O Y S C K U w := by
  obtain ⟨u, g, H, k, T, hUB, ⟨hUI, hI, hC, hM, hH⟩, hCU, hK, hSC, hIN, hER, hO⟩ := id hA
  obtain ⟨rc, x, th, h1, h2, h3⟩ := Q_leftChild (hs := hs) hI hC hM.1 a
  exact ⟨rc, x, _, h1, h2, h3, ALL'_th hA th⟩
theorem A_rightChild (hA : ALL' hs R O Y S C K U v) (a : Int32) : ∃ rc x w, f_X8_rightChild (hs, S) a = some rc ∧ f_X9_rightChild v a = some (x, w) ∧ agr [IOB] rc x (MVTh w) ∧ ALL' hs R O Y S C K U w := by
  obtain ⟨u, g, H, k, T, hUB, ⟨hUI, hI, hC, hM, hH⟩, hCU, hK, hSC, hIN, hER, hO⟩ := id hA
  obtain ⟨rc, x, th, h1, h2, h3⟩ := Q_rightChild (hs := hs) hI hC hM.1 a
  exact ⟨rc, x, _, h1, h2, h3, ALL'_th hA th⟩
theorem A_parent (hA : ALL' hs R O Y S C K U v) (a : Int32) : ∃ rc x w, f_X8_parent (hs, S) a = some rc ∧ f_X9_parent v a = some (x, w) ∧ agr [IOB] rc x (MVTh w) ∧ ALL' hs R O Y S C K U w := by
  obtain ⟨u, g, H, k, T, hUB, ⟨hUI, hI, hC, hM, hH⟩, hCU, hK, hSC, hIN, hER, hO⟩ := id hA
  obtain ⟨rc, x, th, h1, h2, h3⟩ := Q_parent (hs := hs) hI hC hM.1 a
  exact ⟨rc, x, _, h1, h2, h3, ALL'_th hA th⟩
theorem A_rank (hA : ALL' hs R O Y S C K U v) (a : Int32) : ∃ rc x w, f_X8_rank (hs, S) a = some rc ∧ f_X9_rank v a = some (x, w) ∧ agr [IOB] rc x (MVTh w) ∧ ALL' hs R O Y S C K U w := by
  obtain ⟨u, g, H, k, T, hUB, ⟨hUI, hI, hC, hM, hH⟩, hCU, hK, hSC, hIN, hER, hO⟩ := id hA
  obtain ⟨rc, x, th, h1, h2, h3⟩ := Q_rank (hs := hs) hI hC hM.1 a
  exact ⟨rc, x, _, h1, h2, h3, ALL'_th hA th⟩
theorem A_depth (hA : ALL' hs R O Y S C K U v) (a : Int32) : ∃ rc x w, f_X8_depth (hs, S) a = some rc ∧ f_X9_depth v a = some (x, w) ∧ agr [IOB, ISE] rc x (MVTh w) ∧ ALL' hs R O Y S C K U w := by
  obtain ⟨u, g, H, k, T, hUB, ⟨hUI, hI, hC, hM, hH⟩, hCU, hK, hSC, hIN, hER, hO⟩ := id hA
  obtain ⟨rc, x, th, h1, h2, h3⟩ := Q_depth (hs := hs) hI hC hM.1 a
  exact ⟨rc, x, _, h1, h2, h3, ALL'_th hA th⟩
theorem A_positionOf (hA : ALL' hs R O Y S C K U v) (a : Int32) : ∃ rc x w, f_X8_positionOf (hs, S) a = some rc ∧ f_X9_positionOf v a = some (x, w) ∧ agr [IOB, ISE] rc x (MVTh w) ∧ ALL' hs R O Y S C K U w := by
  obtain ⟨u, g, H, k, T, hUB, ⟨hUI, hI, hC, hM, hH⟩, hCU, hK, hSC, hIN, hER, hO⟩ := id hA
  obtain ⟨rc, x, th, h1, h2, h3⟩ := Q_positionOf (hs := hs) hI hC hM.1 a
  exact ⟨rc, x, _, h1, h2, h3, ALL'_th hA th⟩
theorem A_pagesBefore (hA : ALL' hs R O Y S C K U v) (a : Int32) : ∃ rc x w, f_X8_pagesBefore (hs, S) a = some rc ∧ f_X9_pagesBefore v a = some (x, w) ∧ agr [IOB, ISE] rc x (MVTh w) ∧ ALL' hs R O Y S C K U w := by
  obtain ⟨u, g, H, k, T, hUB, ⟨hUI, hI, hC, hM, hH⟩, hCU, hK, hSC, hIN, hER, hO⟩ := id hA
  obtain ⟨rc, x, th, h1, h2, h3⟩ := Q_pagesBefore (hs := hs) hI hC hM.1 a
  exact ⟨rc, x, _, h1, h2, h3, ALL'_th hA th⟩
theorem A_root (hA : ALL' hs R O Y S C K U v) (a : Int32) : ∃ rc x w, f_X8_root (hs, S, U) a = some rc ∧ f_X9_root v a = some (x, w) ∧ agr [IOB] rc x (MVTh w) ∧ ALL' hs R O Y S C K U w := by
  obtain ⟨u, g, H, k, T, hUB, ⟨hUI, hI, hC, hM, hH⟩, hCU, hK, hSC, hIN, hER, hO⟩ := id hA
  obtain ⟨rc, x, th, h1, h2, h3⟩ := Q_root (hs := hs) (U := U) hI hC hM.1 hCU.1.1 a
  exact ⟨rc, x, _, h1, h2, h3, ALL'_th hA th⟩
theorem A_size (hA : ALL' hs R O Y S C K U v) (a : Int32) : ∃ rc x w, f_X8_size (hs, S, U) a = some rc ∧ f_X9_size v a = some (x, w) ∧ agr [IOB] rc x (MVTh w) ∧ ALL' hs R O Y S C K U w := by
  obtain ⟨u, g, H, k, T, hUB, ⟨hUI, hI, hC, hM, hH⟩, hCU, hK, hSC, hIN, hER, hO⟩ := id hA
  obtain ⟨rc, x, th, h1, h2, h3⟩ := Q_size (hs := hs) (U := U) hI hC hM.1 hCU.1.1 a
  exact ⟨rc, x, _, h1, h2, h3, ALL'_th hA th⟩
theorem A_waitingPages (hA : ALL' hs R O Y S C K U v) (a : Int32) : ∃ rc x w, f_X8_waitingPages (hs, S, U) a = some rc ∧ f_X9_waitingPages v a = some (x, w) ∧ agr [IOB] rc x (MVTh w) ∧ ALL' hs R O Y S C K U w := by
  obtain ⟨u, g, H, k, T, hUB, ⟨hUI, hI, hC, hM, hH⟩, hCU, hK, hSC, hIN, hER, hO⟩ := id hA
  obtain ⟨rc, x, th, h1, h2, h3⟩ := Q_waitingPages (hs := hs) (U := U) hI hC hM.1 hCU.1.1 a
  exact ⟨rc, x, _, h1, h2, h3, ALL'_th hA th⟩
theorem A_height (hA : ALL' hs R O Y S C K U v) (a : Int32) : ∃ rc x w, f_X8_height (hs, S, U) a = some rc ∧ f_X9_height v a = some (x, w) ∧ agr [IOB] rc x (MVTh w) ∧ ALL' hs R O Y S C K U w := by
  obtain ⟨u, g, H, k, T, hUB, ⟨hUI, hI, hC, hM, hH⟩, hCU, hK, hSC, hIN, hER, hO⟩ := id hA
  obtain ⟨rc, x, th, h1, h2, h3⟩ := Q_height (hs := hs) (U := U) hI hC hM.1 hCU.1.1 a
  exact ⟨rc, x, _, h1, h2, h3, ALL'_th hA th⟩
theorem A_printedPages (hA : ALL' hs R O Y S C K U v) (a : Int32) : ∃ rc x w, f_X8_printedPages (hs, S, U) a = some rc ∧ f_X9_printedPages v a = some (x, w) ∧ agr [IOB] rc x (MVTh w) ∧ ALL' hs R O Y S C K U w := by
  obtain ⟨u, g, H, k, T, hUB, ⟨hUI, hI, hC, hM, hH⟩, hCU, hK, hSC, hIN, hER, hO⟩ := id hA
  obtain ⟨rc, x, th, h1, h2, h3⟩ := Q_printedPages (hs := hs) (U := U) hI hC hM.1 hCU.1.1 a
  exact ⟨rc, x, _, h1, h2, h3, ALL'_th hA th⟩
theorem A_isPaused (hA : ALL' hs R O Y S C K U v) (a : Int32) : ∃ rc x w, f_X8_isPaused (hs, S, U) a = some rc ∧ f_X9_isPaused v a = some (x, w) ∧ agr [IOB] rc x (MVTh w) ∧ ALL' hs R O Y S C K U w := by
  obtain ⟨u, g, H, k, T, hUB, ⟨hUI, hI, hC, hM, hH⟩, hCU, hK, hSC, hIN, hER, hO⟩ := id hA
  obtain ⟨rc, x, th, h1, h2, h3⟩ := Q_isPaused (hs := hs) (U := U) hI hC hM.1 hCU.1.1 a
  exact ⟨rc, x, _, h1, h2, h3, ALL'_th hA th⟩
theorem A_printingObstacle (hA : ALL' hs R O Y S C K U v) (a : Int32) : ∃ rc x w, f_X8_printingObstacle (hs, S, U) a = some rc ∧ f_X9_printingObstacle v a = some (x, w) ∧ agr [IOB] rc x (MVTh w) ∧ ALL' hs R O Y S C K U w := by
  obtain ⟨u, g, H, k, T, hUB, ⟨hUI, hI, hC, hM, hH⟩, hCU, hK, hSC, hIN, hER, hO⟩ := id hA
  obtain ⟨rc, x, th, h1, h2, h3⟩ := Q_printingObstacle (hs := hs) (U := U) hI hC hM.1 hCU.1.1 a
  exact ⟨rc, x, _, h1, h2, h3, ALL'_th hA th⟩
theorem A_speed (hA : ALL' hs R O Y S C K U v) (a : Int32) : ∃ rc x w, f_X8_speed (hs, U) a = some rc ∧ f_X9_speed v a = some (x, w) ∧ agr [IOB] rc x (MVTh w) ∧ ALL' hs R O Y S C K U w := by
  obtain ⟨u, g, H, k, T, hUB, ⟨hUI, hI, hC, hM, hH⟩, hCU, hK, hSC, hIN, hER, hO⟩ := id hA
  obtain ⟨rc, x, th, h1, h2, h3⟩ := Q_speed (hs := hs) (U := U) hI hC hM.1 hCU.1.1 hM.2 hCU.2.2 a
  exact ⟨rc, x, _, h1, h2, h3, ALL'_th hA th⟩
theorem A_minutesUntilPrinted (hA : ALL' hs R O Y S C K U v) (a : Int32) : ∃ rc x w, f_X8_minutesUntilPrinted (hs, S, U) a = some rc ∧ f_X9_minutesUntilPrinted v a = some (x, w) ∧ agr [IOB, ISE] rc x (MVTh w) ∧ ALL' hs R O Y S C K U w := by
  obtain ⟨u, g, H, k, T, hUB, ⟨hUI, hI, hC, hM, hH⟩, hCU, hK, hSC, hIN, hER, hO⟩ := id hA
  obtain ⟨rc, x, th, h1, h2, h3⟩ := Q_minutesUntilPrinted (hs := hs) (U := U) hUI hI hC hM.1 hM.2 hCU.2.2 a
  exact ⟨rc, x, _, h1, h2, h3, ALL'_th hA th⟩
theorem A_waitingPagesOfOwner (hA : ALL' hs R O Y S C K U v) (a : Int32) : ∃ rc x w, f_X8_waitingPagesOfOwner (hs, S, U) a = some rc ∧ f_X9_waitingPagesOfOwner v a = some (x, w) ∧ agr [IOB] rc x (MVTh w) ∧ ALL' hs R O Y S C K U w := by
  obtain ⟨u, g, H, k, T, hUB, ⟨hUI, hI, hC, hM, hH⟩, hCU, hK, hSC, hIN, hER, hO⟩ := id hA
  obtain ⟨rc, x, th, h1, h2, h3⟩ := Q_waitingPagesOfOwner (hs := hs) (U := U) hUI hI hC hM.1 hCU.2.1.1 a
  exact ⟨rc, x, _, h1, h2, h3, ALL'_th hA th⟩
theorem A_printedPagesOfOwner (hA : ALL' hs R O Y S C K U v) (a : Int32) : ∃ rc x w, f_X8_printedPagesOfOwner (hs, S, U) a = some rc ∧ f_X9_printedPagesOfOwner v a = some (x, w) ∧ agr [IOB] rc x (MVTh w) ∧ ALL' hs R O Y S C K U w := by
  obtain ⟨u, g, H, k, T, hUB, ⟨hUI, hI, hC, hM, hH⟩, hCU, hK, hSC, hIN, hER, hO⟩ := id hA
  obtain ⟨rc, x, th, h1, h2, h3⟩ := Q_printedPagesOfOwner (hs := hs) (U := U) hUI hI hC hM.1 hCU.2.1.1 a
  exact ⟨rc, x, _, h1, h2, h3, ALL'_th hA th⟩
theorem A_jobAt (hA : ALL' hs R O Y S C K U v) (a : Int32) (b : Int32) : ∃ rc x w, f_X8_jobAt (hs, S, U) a b = some rc ∧ f_X9_jobAt v a b = some (x, w) ∧ agr [IOB] rc x (MVTh w) ∧ ALL' hs R O Y S C K U w := by
  obtain ⟨u, g, H, k, T, hUB, ⟨hUI, hI, hC, hM, hH⟩, hCU, hK, hSC, hIN, hER, hO⟩ := id hA
  obtain ⟨rc, x, th, h1, h2, h3⟩ := Q_jobAt (hs := hs) (U := U) hI hC hM.1 hCU.1.1 a b
  exact ⟨rc, x, _, h1, h2, h3, ALL'_th hA th⟩
theorem A_positionWith (hA : ALL' hs R O Y S C K U v) (a : Int32) (b : Int32) : ∃ rc x w, f_X8_positionWith (hs, S) a b = some rc ∧ f_X9_positionWith v a b = some (x, w) ∧ agr [IOB, IAE, ISE] rc x (MVTh w) ∧ ALL' hs R O Y S C K U w := by
  obtain ⟨u, g, H, k, T, hUB, ⟨hUI, hI, hC, hM, hH⟩, hCU, hK, hSC, hIN, hER, hO⟩ := id hA
  obtain ⟨rc, x, th, h1, h2, h3⟩ := Q_positionWith (hs := hs) hI hC hM.1 a b
  exact ⟨rc, x, _, h1, h2, h3, ALL'_th hA th⟩
theorem A_queueNameByte (hA : ALL' hs R O Y S C K U v) (a : Int32) (b : Int32) : ∃ rc x w, f_X8_queueNameByte (hs, U) a b = some rc ∧ f_X9_queueNameByte v a b = some (x, w) ∧ agr [IOB] rc x (MVTh w) ∧ ALL' hs R O Y S C K U w := by
  obtain ⟨u, g, H, k, T, hUB, ⟨hUI, hI, hC, hM, hH⟩, hCU, hK, hSC, hIN, hER, hO⟩ := id hA
  obtain ⟨rc, x, th, h1, h2, h3⟩ := Q_queueNameByte (hs := hs) hUB hM hCU a b
  exact ⟨rc, x, _, h1, h2, h3, ALL'_th hA th⟩
theorem A_ownerNameByte (hA : ALL' hs R O Y S C K U v) (a : Int32) (b : Int32) : ∃ rc x w, f_X8_ownerNameByte (hs, U) a b = some rc ∧ f_X9_ownerNameByte v a b = some (x, w) ∧ agr [IOB] rc x (MVTh w) ∧ ALL' hs R O Y S C K U w := by
  obtain ⟨u, g, H, k, T, hUB, ⟨hUI, hI, hC, hM, hH⟩, hCU, hK, hSC, hIN, hER, hO⟩ := id hA
  obtain ⟨rc, x, th, h1, h2, h3⟩ := Q_ownerNameByte (hs := hs) hUB hM hCU a b
  exact ⟨rc, x, _, h1, h2, h3, ALL'_th hA th⟩
theorem A_mergeCost (hA : ALL' hs R O Y S C K U v) (a : Int32) (b : Int32) : ∃ rc x w, f_X8_mergeCost (hs, S, U) a b = some rc ∧ f_X9_mergeCost v a b = some (x, w) ∧ agr [IOB, IAE] rc x (MVTh w) ∧ ALL' hs R O Y S C K U w := by
  obtain ⟨u, g, H, k, T, hUB, ⟨hUI, hI, hC, hM, hH⟩, hCU, hK, hSC, hIN, hER, hO⟩ := id hA
  obtain ⟨rc, x, st, A, th, h1, h2, h3, h4⟩ := Q_mergeCost (hs := hs) (U := U) hI hC hM.1 hCU.1.1 a b
  exact ⟨rc, x, _, h1, h2, h3, ALL'_as hA th A st h4⟩
theorem A_rankAfterMerge (hA : ALL' hs R O Y S C K U v) (a : Int32) (b : Int32) : ∃ rc S' x w, f_X8_rankAfterMerge (hs, S, U) a b = some (rc, (hs, S', U)) ∧ f_X9_rankAfterMerge v a b = some (x, w) ∧ agr [IOB, IAE] rc x (MVTh w) ∧ ALL' hs R O Y S' C K U w := by
  obtain ⟨u, g, H, k, T, hUB, ⟨hUI, hI, hC, hM, hH⟩, hCU, hK, hSC, hIN, hER, hO⟩ := id hA
  obtain ⟨rc, S', x, st, A, th, h1, h0, h2, h3, h4⟩ := Q_rankAfterMerge (hs := hs) (U := U) hI hC hM.1 hCU.1.1 a b
  have hA2 : ALL' hs R O Y S' C K U v := ⟨u, g, H, k, T, hUB, ⟨hUI, hI, h0, hM, hH⟩, hCU, hK, hSC, hIN, hER, hO⟩
  exact ⟨rc, S', x, _, h1, h2, h3, ALL'_as hA2 th A st h4⟩
theorem A_queueCount (hA : ALL' hs R O Y S C K U v) : ∃ x w, f_X8_queueCount (hs, U) = some x ∧ f_X9_queueCount v = some (x, w) ∧ ALL' hs R O Y S C K U w := by
  obtain ⟨u, g, H, k, T, hUB, ⟨hUI, hI, hC, hM, hH⟩, hCU, hK, hSC, hIN, hER, hO⟩ := id hA
  obtain ⟨h1, h2⟩ := Q_queueCount (hs := hs) hM.1 hCU.1.1
  exact ⟨_, _, h1, h2, ALL'_th hA 0⟩
theorem A_ownerCount (hA : ALL' hs R O Y S C K U v) : ∃ x w, f_X8_ownerCount (hs, U) = some x ∧ f_X9_ownerCount v = some (x, w) ∧ ALL' hs R O Y S C K U w := by
  obtain ⟨u, g, H, k, T, hUB, ⟨hUI, hI, hC, hM, hH⟩, hCU, hK, hSC, hIN, hER, hO⟩ := id hA
  obtain ⟨h1, h2⟩ := Q_ownerCount (hs := hs) hM.1 hCU.2.1.1
  exact ⟨_, _, h1, h2, ALL'_th hA 0⟩
theorem A_jobCount (hA : ALL' hs R O Y S C K U v) : ∃ x w, f_X8_jobCount (hs, S) = some x ∧ f_X9_jobCount v = some (x, w) ∧ ALL' hs R O Y S C K U w := by
  obtain ⟨u, g, H, k, T, hUB, ⟨hUI, hI, hC, hM, hH⟩, hCU, hK, hSC, hIN, hER, hO⟩ := id hA
  obtain ⟨h1, h2⟩ := Q_jobCount (hs := hs) hC hM.1
  exact ⟨_, _, h1, h2, ALL'_th hA 0⟩
theorem A_comparisons (hA : ALL' hs R O Y S C K U v) : ∃ x w, f_X8_comparisons (hs, S) = some x ∧ f_X9_comparisons v = some (x, w) ∧ ALL' hs R O Y S C K U w := by
  obtain ⟨u, g, H, k, T, hUB, ⟨hUI, hI, hC, hM, hH⟩, hCU, hK, hSC, hIN, hER, hO⟩ := id hA
  obtain ⟨h1, h2⟩ := Q_comparisons (hs := hs) hC hM.1
  exact ⟨_, _, h1, h2, ALL'_th hA 0⟩
theorem A_swaps (hA : ALL' hs R O Y S C K U v) : ∃ x w, f_X8_swaps (hs, S) = some x ∧ f_X9_swaps v = some (x, w) ∧ ALL' hs R O Y S C K U w := by
  obtain ⟨u, g, H, k, T, hUB, ⟨hUI, hI, hC, hM, hH⟩, hCU, hK, hSC, hIN, hER, hO⟩ := id hA
  obtain ⟨h1, h2⟩ := Q_swaps (hs := hs) hC hM.1
  exact ⟨_, _, h1, h2, ALL'_th hA 0⟩
theorem A_errorCode (hA : ALL' hs R O Y S C K U v) : ∃ x w, f_X8_errorCode (hs, R) = some x ∧ f_X9_errorCode v = some (x, w) ∧ ALL' hs R O Y S C K U w := by
  obtain ⟨u, g, H, k, T, hUB, ⟨hUI, hI, hC, hM, hH⟩, hCU, hK, hSC, hIN, hER, hO⟩ := id hA
  exact ⟨MVEc v, _, congrArg some hER.1, rfl, ALL'_th hA 0⟩
theorem A_errorOffset (hA : ALL' hs R O Y S C K U v) : ∃ x w, f_X8_errorOffset (hs, R) = some x ∧ f_X9_errorOffset v = some (x, w) ∧ ALL' hs R O Y S C K U w := by
  obtain ⟨u, g, H, k, T, hUB, ⟨hUI, hI, hC, hM, hH⟩, hCU, hK, hSC, hIN, hER, hO⟩ := id hA
  exact ⟨MVEo v, _, congrArg some hER.2, rfl, ALL'_th hA 0⟩
theorem A_leastLoadedQueue (hA : ALL' hs R O Y S C K U v) : ∃ x w, f_X8_leastLoadedQueue (hs, S, U) = some x ∧ f_X9_leastLoadedQueue v = some (x, w) ∧ ALL' hs R O Y S C K U w := by
  obtain ⟨u, g, H, k, T, hUB, ⟨hUI, hI, hC, hM, hH⟩, hCU, hK, hSC, hIN, hER, hO⟩ := id hA
  obtain ⟨r, h1, h2⟩ := Q_leastLoadedQueue (hs := hs) (U := U) hUI hI hC hM.1 hM.2 hCU.1.1 hCU.2.2
  exact ⟨_, _, h1, h2, ALL'_th hA 0⟩
theorem A_outputByte (hA : ALL' hs R O Y S C K U v) (a : Int32) : ∃ x w, f_X8_outputByte (hs, O) a = some x ∧ f_X9_outputByte v a = some (x, w) ∧ ALL' hs R O Y S C K U w := by
  obtain ⟨u, g, H, k, T, hUB, ⟨hUI, hI, hC, hM, hH⟩, hCU, hK, hSC, hIN, hER, hO⟩ := id hA
  obtain ⟨r, h1, h2⟩ := Q_outputByte (hs := hs) hO a
  exact ⟨_, _, h1, h2, ALL'_th hA 0⟩
theorem A_meanRank (hA : ALL' hs R O Y S C K U v) : ∃ x w, f_X8_meanRank (hs, S) = some x ∧ f_X9_meanRank v = some (x, w) ∧ (x &&& 0x7fffffffffffffff ≤ 0x7ff0000000000000) ∧ ALL' hs R O Y S C K U w := by
  obtain ⟨u, g, H, k, T, hUB, ⟨hUI, hI, hC, hM, hH⟩, hCU, hK, hSC, hIN, hER, hO⟩ := id hA
  obtain ⟨r, h1, h2, h3⟩ := Q_meanRank (hs := hs) hI hC hM.1
  exact ⟨_, _, h1, h2, h3, ALL'_th hA 0⟩
theorem A_printedPart (hA : ALL' hs R O Y S C K U v) : ∃ x w, f_X8_printedPart (hs, S) = some x ∧ f_X9_printedPart v = some (x, w) ∧ (x &&& 0x7fffffff ≤ 0x7f800000) ∧ ALL' hs R O Y S C K U w := by
  obtain ⟨u, g, H, k, T, hUB, ⟨hUI, hI, hC, hM, hH⟩, hCU, hK, hSC, hIN, hER, hO⟩ := id hA
  obtain ⟨r, h1, h2, h3⟩ := Q_printedPart (hs := hs) hI hC hM.1
  exact ⟨_, _, h1, h2, h3, ALL'_th hA 0⟩
theorem A_isConsistent (hA : ALL' hs R O Y S C K U v) : ∃ C' w, f_X8_isConsistent (hs, S, C, U) = some (1, (hs, S, C', U)) ∧ f_X9_isConsistent v = some (1, w) ∧ ALL' hs R O Y S C' K U w := by
  obtain ⟨u, g, H, k, T, hUB, ⟨hUI, hI, hC, hM, hH⟩, hCU, hK, hSC, hIN, hER, hO⟩ := id hA
  obtain ⟨C', h1, h0⟩ := isConsistent_ok (v := (hs, S, C, U)) hI hC hCU.1.1
  obtain ⟨st, A, B, h2, h3⟩ := misConsistent_ok (v := v) hI hM.1
  have hA2 : ALL' hs R O Y S C' K U v := ⟨u, g, H, k, T, hUB, ⟨hUI, hI, hC, hM, hH⟩, hCU, hK, h0, hIN, hER, hO⟩
  exact ⟨C', _, h1, h2, ALL'_or hA2 0 A B st h3⟩
theorem A_cancel (hA : ALL' hs R O Y S C K U v) (a : Int32) : ∃ rc Y' S' x w, f_X8_cancel (hs, Y, S) a = some (rc, (hs, Y', S')) ∧ f_X9_cancel v a = some (x, w) ∧ agr [IOB, ISE] rc x (MVTh w) ∧ ALL' hs R O Y' S' C K U w := by
  obtain ⟨u, g, H, k, T, hUB, ⟨hUI, hI, hC, hM, hH⟩, hCU, hK, hSC, hIN, hER, hO⟩ := id hA
  obtain ⟨rc, Y', S', x, st, P, c, th, h1, h2, h3, h4⟩ := O_cancel (hs := hs) (hR := ⟨hUI, hI, hC, hM, hH⟩)  a
  exact ⟨rc, Y', S', x, _, h1, h2, h3, ALL'_mvc hUB hCU hK hSC hIN hER hO h4⟩
theorem A_changePriority (hA : ALL' hs R O Y S C K U v) (a : Int32) (b : Int32) : ∃ rc Y' S' x w, f_X8_changePriority (hs, Y, S) a b = some (rc, (hs, Y', S')) ∧ f_X9_changePriority v a b = some (x, w) ∧ agr [IOB, IAE, ISE] rc x (MVTh w) ∧ ALL' hs R O Y' S' C K U w := by
  obtain ⟨u, g, H, k, T, hUB, ⟨hUI, hI, hC, hM, hH⟩, hCU, hK, hSC, hIN, hER, hO⟩ := id hA
  obtain ⟨rc, Y', S', x, st, P, c, th, h1, h2, h3, h4⟩ := O_changePriority (hs := hs) (hR := ⟨hUI, hI, hC, hM, hH⟩)  a b
  exact ⟨rc, Y', S', x, _, h1, h2, h3, ALL'_mvc hUB hCU hK hSC hIN hER hO h4⟩
theorem A_undo (hA : ALL' hs R O Y S C K U v) : ∃ rc Y' S' x w, f_X8_undo (hs, Y, S) = some (rc, (hs, Y', S')) ∧ f_X9_undo v = some (x, w) ∧ agr [NSE] rc x (MVTh w) ∧ ALL' hs R O Y' S' C K U w := by
  obtain ⟨u, g, H, k, T, hUB, ⟨hUI, hI, hC, hM, hH⟩, hCU, hK, hSC, hIN, hER, hO⟩ := id hA
  obtain ⟨rc, Y', S', x, st, P, c, th, h1, h2, h3, h4⟩ := O_undo (hs := hs) (hR := ⟨hUI, hI, hC, hM, hH⟩) 
  exact ⟨rc, Y', S', x, _, h1, h2, h3, ALL'_mvc hUB hCU hK hSC hIN hER hO h4⟩
theorem A_moveJob (hA : ALL' hs R O Y S C K U v) (a : Int32) (b : Int32) : ∃ rc Y' S' x w, f_X8_moveJob (hs, Y, S, U) a b = some (rc, (hs, Y', S', U)) ∧ f_X9_moveJob v a b = some (x, w) ∧ agr [IOB, ISE] rc x (MVTh w) ∧ ALL' hs R O Y' S' C K U w := by
  obtain ⟨u, g, H, k, T, hUB, ⟨hUI, hI, hC, hM, hH⟩, hCU, hK, hSC, hIN, hER, hO⟩ := id hA
  obtain ⟨rc, Y', S', x, st, P, c, th, h1, h2, h3, h4⟩ := O_moveJob (hs := hs) (U := U) (hR := ⟨hUI, hI, hC, hM, hH⟩) hCU.1.1 a b
  exact ⟨rc, Y', S', x, _, h1, h2, h3, ALL'_mvc hUB hCU hK hSC hIN hER hO h4⟩
theorem A_mergeQueues (hA : ALL' hs R O Y S C K U v) (a : Int32) (b : Int32) : ∃ rc Y' S' x w, f_X8_mergeQueues (hs, Y, S, U) a b = some (rc, (hs, Y', S', U)) ∧ f_X9_mergeQueues v a b = some (x, w) ∧ agr [IOB, IAE] rc x (MVTh w) ∧ ALL' hs R O Y' S' C K U w := by
  obtain ⟨u, g, H, k, T, hUB, ⟨hUI, hI, hC, hM, hH⟩, hCU, hK, hSC, hIN, hER, hO⟩ := id hA
  obtain ⟨rc, Y', S', x, st, P, c, th, h1, h2, h3, h4⟩ := O_mergeQueues (hs := hs) (U := U) (hR := ⟨hUI, hI, hC, hM, hH⟩) hCU.1.1 a b
  exact ⟨rc, Y', S', x, _, h1, h2, h3, ALL'_mvc hUB hCU hK hSC hIN hER hO h4⟩
theorem A_printNext (hA : ALL' hs R O Y S C K U v) (a : Int32) : ∃ rc Y' S' x w, f_X8_printNext (hs, Y, S, U) a = some (rc, (hs, Y', S', U)) ∧ f_X9_printNext v a = some (x, w) ∧ agr [IOB, ISE] rc x (MVTh w) ∧ ALL' hs R O Y' S' C K U w := by
  obtain ⟨u, g, H, k, T, hUB, ⟨hUI, hI, hC, hM, hH⟩, hCU, hK, hSC, hIN, hER, hO⟩ := id hA
  obtain ⟨rc, Y', S', x, st, P, c, th, h1, h2, h3, h4⟩ := O_printNext (hs := hs) (U := U) (hR := ⟨hUI, hI, hC, hM, hH⟩) hCU.1.1 a
  exact ⟨rc, Y', S', x, _, h1, h2, h3, ALL'_mvc hUB hCU hK hSC hIN hER hO h4⟩
theorem A_submit (hA : ALL' hs R O Y S C K U v) (a : Int32) (b : Int32) (c : Int32) (d : Int32) : ∃ rc Y' S' x w, f_X8_submit (hs, Y, S, U) a b c d = some (rc, (hs, Y', S', U)) ∧ f_X9_submit v a b c d = some (x, w) ∧ agr [IOB, IAE, ISE] rc x (MVTh w) ∧ ALL' hs R O Y' S' C K U w := by
  obtain ⟨u, g, H, k, T, hUB, ⟨hUI, hI, hC, hM, hH⟩, hCU, hK, hSC, hIN, hER, hO⟩ := id hA
  obtain ⟨rc, Y', S', x, st, P, c, th, h1, h2, h3, h4⟩ := O_submit (hs := hs) (U := U) (hR := ⟨hUI, hI, hC, hM, hH⟩) hCU.1.1 hCU.2.1.1 a b c d
  exact ⟨rc, Y', S', x, _, h1, h2, h3, ALL'_mvc hUB hCU hK hSC hIN hER hO h4⟩
theorem A_setPaused (hA : ALL' hs R O Y S C K U v) (a : Int32) (b : Bool) : ∃ rc Y' S' x w, f_X8_setPaused (hs, Y, S, U) a (b2i b) = some (rc, (hs, Y', S', U)) ∧ f_X9_setPaused v a (b2i b) = some (x, w) ∧ agr [IOB] rc x (MVTh w) ∧ ALL' hs R O Y' S' C K U w := by
  obtain ⟨u, g, H, k, T, hUB, ⟨hUI, hI, hC, hM, hH⟩, hCU, hK, hSC, hIN, hER, hO⟩ := id hA
  obtain ⟨rc, Y', S', x, st, P, c, th, h1, h2, h3, h4⟩ := O_setPaused (hs := hs) (U := U) (hR := ⟨hUI, hI, hC, hM, hH⟩) hCU.1.1 a b
  exact ⟨rc, Y', S', x, _, h1, h2, h3, ALL'_mvc hUB hCU hK hSC hIN hER hO h4⟩
theorem A_writeHeap (hA : ALL' hs R O Y S C K U v) (a : Int32) : ∃ rc O' x w, f_X8_writeHeap (hs, O, S, U) a = some (rc, (hs, O', S, U)) ∧ f_X9_writeHeap v a = some (x, w) ∧ agr [IOB] rc x (MVTh w) ∧ ALL' hs R O' Y S C K U w := by
  obtain ⟨u, g, H, k, T, hUB, ⟨hUI, hI, hC, hM, hH⟩, hCU, hK, hSC, hIN, hER, hO⟩ := id hA
  obtain ⟨rc, O', x, B, n, th, h1, h2, h3, h4⟩ := O_writeHeap (hs := hs) (U := U) hI hC hM.1 hCU.1.1 hO a
  exact ⟨rc, O', x, _, h1, h2, h3, u, g, H, k, T, hUB, ⟨hUI, hI, hC, hM, hH⟩, hCU, hK, hSC, hIN, hER, h4⟩
theorem A_saveState (hA : ALL' hs R O Y S C K U v) : ∃ r K' w, f_X8_saveState (hs, S, K) = some (r, (1, S, K')) ∧ f_X9_saveState v = some (r, w) ∧ ALL' 1 R O Y S C K' U w := by
  obtain ⟨u, g, H, k, T, hUB, ⟨hUI, hI, hC, hM, hH⟩, hCU, hK, hSC, hIN, hER, hO⟩ := id hA
  obtain ⟨K', sv, h1, h2, h3⟩ := O_saveState (hs := hs) (C := K) (H := H) (Y := Y) (u := u) (g := g) (S := S) (v := v) ⟨hUI, hI, hC, hM, hH⟩
  exact ⟨_, K', _, h1, h2, u, g, H, some g, T, hUB, ⟨hUI, hI, hC, hM, hH⟩, hCU, h3, hSC, hIN, hER, hO⟩
theorem A_restoreState (hA : ALL' hs R O Y S C K U v) : ∃ rc Y' S' K' x w, f_X8_restoreState (hs, Y, S, K) = some (rc, (hs, Y', S', K')) ∧ f_X9_restoreState v = some (x, w) ∧ agr [NSE] rc x (MVTh w) ∧ ALL' hs R O Y' S' C K' U w := by
  obtain ⟨u, g, H, k, T, hUB, ⟨hUI, hI, hC, hM, hH⟩, hCU, hK, hSC, hIN, hER, hO⟩ := id hA
  obtain ⟨rc, Y', S', K', x, st, P, n, th, h1, h2, h3, h4, h5⟩ := O_restoreState (hs := hs) (C := K) (H := H) (Y := Y) (u := u) (g := g) (S := S) (v := v) ⟨hUI, hI, hC, hM, hH⟩ hK
  exact ⟨rc, Y', S', K', x, _, h1, h2, h3, ALL'_mvc hUB hCU h4 hSC hIN hER hO h5⟩
theorem A_appendInput (hA : ALL' hs R O Y S C K U v) (a b c d e : Int32) : ∃ r R' w, f_X8_appendInput (hs, R) a b c d e = some (r, (hs, R')) ∧ f_X9_appendInput v a b c d e = some (r, w) ∧ ALL' hs R' O Y S C K U w := by
  obtain ⟨u, g, H, k, T, hUB, ⟨hUI, hI, hC, hM, hH⟩, hCU, hK, hSC, hIN, hER, hO⟩ := id hA
  obtain ⟨r, X, n, B, m, T', h1, h2, h3⟩ := O_appendInput (hs := hs) hIN a b c d e
  exact ⟨r, _, _, h1, h2, u, g, H, k, T', hUB, ⟨hUI, hI, hC, hM, hH⟩, hCU, hK, hSC, h3, hER, hO⟩
theorem A_truncateInput (hA : ALL' hs R O Y S C K U v) (a : Int32) : ∃ r R' w, f_X8_truncateInput (hs, R) a = some (r, (hs, R')) ∧ f_X9_truncateInput v a = some (r, w) ∧ ALL' hs R' O Y S C K U w := by
  obtain ⟨u, g, H, k, T, hUB, ⟨hUI, hI, hC, hM, hH⟩, hCU, hK, hSC, hIN, hER, hO⟩ := id hA
  obtain ⟨r, X, n, B, m, T', h1, h2, h3⟩ := O_truncateInput (hs := hs) hIN a
  exact ⟨r, _, _, h1, h2, u, g, H, k, T', hUB, ⟨hUI, hI, hC, hM, hH⟩, hCU, hK, hSC, h3, hER, hO⟩
end ALLS
