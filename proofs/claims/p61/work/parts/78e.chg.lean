/-! ===== 78e: what the class's changes do (without a reference) ===== -/
def YI (Y : YV) : Prop := ∃ x, x < 8 ∧ YVNx Y = nI x
theorem keepC {g : GS} {Y : YV} {S : SV} (hJ : aJ g ≤ 40) (hC : CS g S) (hY : YI Y) : ∃ Y', f_X1_keep (Y, S) = some ((), (Y', S)) ∧ YI Y' := by
  obtain ⟨x, hx, h3⟩ := hY
  obtain ⟨A', k1, k2⟩ := copy_ok (A := YVKs Y x) hC hJ
  have hnx : fmod (nI x + 1) 8 = nI ((x + 1) % 8) := by
    rw [nI_1, fm_up (x + 1) (by omega)]
  refine ⟨((updS (YVKs Y) x A'), (if 8 < YVCt Y + 1 then 8 else YVCt Y + 1), nI ((x + 1) % 8)), ?_, (x + 1) % 8, by omega, rfl⟩
  rw [keep_eq hx h3, k1, bnd2_some]
  unfold f_X1_keep_j24
  show some ((), (((updS (YVKs Y) x A'), (if 8 < YVCt Y + 1 then 8 else YVCt Y + 1), fmod (YVNx Y + 1) 8), S)) = _
  rw [h3, hnx]
section CH
variable {u : GU} {g : GS} {v : Lysu}
theorem C_submit (hI : GI u g) (hC : CS g (LysuS v)) (hY : YI (LysuY v)) (hu : NVCt (UVQs (LysuU v)) = nI (uQ u)) (ho : NVCt (UVOs (LysuU v)) = nI (uO u)) (hO : uO u ≤ 8) {q o p n : Nat} (hF : aJ g < 40) (hq : q < uQ u) (hoo : o < uO u) (hp : p < 100) (hn : 1 ≤ n ∧ n ≤ 99) :
    ∃ Y' S', f_X8_submit v (nI q) (nI o) (nI p) (nI n) = some (.inl (nI (aJ g)), (LysuHs v, Y', S', LysuU v)) ∧ CS (addG g q (nI o) p (nI n)) S' ∧ YI Y' := by
  have hQ := hI.2.1.2
  have hq6 : q < 6 := by omega
  obtain ⟨Y', k1, k2⟩ := keepC hI.1 hC hY
  obtain ⟨w, e1, e2⟩ := addJob_ok (q := q) (p := p) (o := nI o) (n := nI n) hI hC hF hq6 hp
  refine ⟨Y', w, ?_, e2, k2⟩
  unfold f_X8_submit
  rw [checkQueue_in hu hQ hq, bndT_l, checkOwner_in ho hO hoo, bndT_l, checkPriority_in hp, bndT_l, if_neg (show ¬ nI n < 1 from nI_nlt (b := 1) hn.1 (by omega)), if_pos (show nI n ≤ 99 from nI_le (b := 99) hn.2 (by decide)), isFull_ok hC hI.1, Option.bind_some, if_pos hF, if_pos rfl, k1, bnd2_some]
  rw [show f_X7_addJob (P_YV_SVB (Y', LysuS v)) (nI q) (nI o) (nI p) (nI n) = _ from e1, bnd2_some]
  rfl
theorem R_submit (hI : GI u g) (hC : CS g (LysuS v)) (hu : NVCt (UVQs (LysuU v)) = nI (uQ u)) (ho : NVCt (UVOs (LysuU v)) = nI (uO u)) (hO : uO u ≤ 8) {q o p n : Nat} (hF : aJ g = 40) (hq : q < uQ u) (hoo : o < uO u) (hp : p < 100) (hn : 1 ≤ n ∧ n ≤ 99) : f_X8_submit v (nI q) (nI o) (nI p) (nI n) = some (.inr "java/lang/IllegalStateException", v) := by
  have hQ := hI.2.1.2
  unfold f_X8_submit
  rw [checkQueue_in hu hQ hq, bndT_l, checkOwner_in ho hO hoo, bndT_l, checkPriority_in hp, bndT_l, if_neg (show ¬ nI n < 1 from nI_nlt (b := 1) hn.1 (by omega)), if_pos (show nI n ≤ 99 from nI_le (b := 99) hn.2 (by decide)), isFull_ok hC hI.1, Option.bind_some, if_neg (show ¬ aJ g < 40 by omega), if_neg n10]
theorem C_printNext (hI : GI u g) (hC : CS g (LysuS v)) (hY : YI (LysuY v)) (hu : NVCt (UVQs (LysuU v)) = nI (uQ u)) {q i : Nat} (hq : q < uQ u) (c : obG g q = 0) (hr : hv (aF g q) = nI i) (hi : i < aJ g) (hf : aFt g i = 0) :
    ∃ Y' S', f_X8_printNext v (nI q) = some (.inl (nI i), (LysuHs v, Y', S', LysuU v)) ∧ CS (endG g i 1) S' ∧ YI Y' := by
  have hQ := hI.2.1.2
  have hq6 : q < 6 := by omega
  obtain ⟨Y', k1, k2⟩ := keepC hI.1 hC hY
  obtain ⟨w, e1, e2⟩ := endJob_ok hI hC hi hf (b := 1) (Or.inl rfl)
  have hro : SVRo (LysuS v) q = nI i := ((hC.2.2.2.1 q hq6).1).trans hr
  refine ⟨Y', w, ?_, e2, k2⟩
  unfold f_X8_printNext
  rw [checkQueue_in hu hQ hq, bndT_l, obstacle_ok hC hq6, Option.bind_some, if_pos c, k1, bnd2_some, if_neg (o6 hq6), c6 hq6, show SVRo (P_YV_SVB (Y', LysuS v)) q = nI i from hro, show f_X7_endJob (P_YV_SVB (Y', LysuS v)) (nI i) 1 = _ from e1, bnd2_some]
  rfl
theorem R_printNext (hI : GI u g) (hC : CS g (LysuS v)) (hu : NVCt (UVQs (LysuU v)) = nI (uQ u)) {q : Nat} (hq : q < uQ u) (c : ¬ obG g q = 0) : f_X8_printNext v (nI q) = some (.inr "java/lang/IllegalStateException", v) := by
  have hQ := hI.2.1.2
  have hq6 : q < 6 := by omega
  unfold f_X8_printNext
  rw [checkQueue_in hu hQ hq, bndT_l, obstacle_ok hC hq6, Option.bind_some, if_neg c]
theorem C_moveJob (hI : GI u g) (hC : CS g (LysuS v)) (hY : YI (LysuY v)) (hu : NVCt (UVQs (LysuU v)) = nI (uQ u)) {i q : Nat} (hi : i < aJ g) (hf : aFt g i = 0) (hq : q < uQ u) (c : aQu g i ≠ q) :
    ∃ Y' S', f_X8_moveJob v (nI i) (nI q) = some (.inl (hv (aF (reG g i q (aPr g i)) q)), (LysuHs v, Y', S', LysuU v)) ∧ CS (reG g i q (aPr g i)) S' ∧ YI Y' := by
  have hQ := hI.2.1.2
  have hJ := hI.1
  have hq6 : q < 6 := by omega
  have i40 : i < 40 := by omega
  have hp := (hI.2.2.2.2.1 i hi).2.1
  obtain ⟨Y', k1, k2⟩ := keepC hI.1 hC hY
  obtain ⟨w, e1, e2⟩ := insertAgain_ok (q := q) (p := aPr g i) hI hC hi hf hq6 hp
  refine ⟨Y', w, ?_, e2, k2⟩
  unfold f_X8_moveJob f_X7_canMove
  rw [checkJob_in hI hC hi, bndT_l, checkQueue_in hu hQ hq, bndT_l, waits_ok hI hC hi, Option.bind_some, if_pos hf, if_neg n10]
  simp only [if_neg (o40 i40), c40 i40]
  rw [if_neg (show ¬ SVQu (LysuS v) i = nI q from fun h => c ((quI hI hC hi hq6).mp h).2), Option.bind_some, if_neg n10, k1, bnd2_some]
  rw [show HVPr (SVH (P_YV_SVB (Y', LysuS v))) i = nI (aPr g i) from (hC.2.1 i hi).1, show f_X7_insertAgain (P_YV_SVB (Y', LysuS v)) (nI i) (nI q) (nI (aPr g i)) = _ from e1, bnd2_some]
  simp only [if_neg (o6 hq6), c6 hq6]
  rw [(e2.2.2.2.1 q hq6).1]
  rfl
theorem R_moveJob (hI : GI u g) (hC : CS g (LysuS v)) (hu : NVCt (UVQs (LysuU v)) = nI (uQ u)) {i q : Nat} (hi : i < aJ g) (hq : q < uQ u) (c : aFt g i ≠ 0 ∨ aQu g i = q) : f_X8_moveJob v (nI i) (nI q) = some (.inr "java/lang/IllegalStateException", v) := by
  have hQ := hI.2.1.2
  have hJ := hI.1
  have hq6 : q < 6 := by omega
  have i40 : i < 40 := by omega
  unfold f_X8_moveJob f_X7_canMove
  rw [checkJob_in hI hC hi, bndT_l, checkQueue_in hu hQ hq, bndT_l, waits_ok hI hC hi, Option.bind_some]
  by_cases hf : aFt g i = 0
  · rw [if_pos hf, if_neg n10]
    simp only [if_neg (o40 i40), c40 i40]
    rw [if_pos (show SVQu (LysuS v) i = nI q from (quI hI hC hi hq6).mpr ⟨hf, c.resolve_left (fun h => h hf)⟩), Option.bind_some, if_pos rfl]
  · rw [if_neg hf, if_pos rfl, Option.bind_some, if_pos rfl]
theorem C_setPaused (hI : GI u g) (hC : CS g (LysuS v)) (hY : YI (LysuY v)) (hu : NVCt (UVQs (LysuU v)) = nI (uQ u)) {q : Nat} (b : Bool) (hq : q < uQ u) :
    ∃ Y' S', f_X8_setPaused v (nI q) (b2i b) = some (.inl (b2i (aPs g q)), (LysuHs v, Y', S', LysuU v)) ∧ CS (paG g q b) S' ∧ YI Y' := by
  have hQ := hI.2.1.2
  have hq6 : q < 6 := by omega
  obtain ⟨Y', k1, k2⟩ := keepC hI.1 hC hY
  obtain ⟨w, e1, e2⟩ := holdQueue_ok (b := b) hC hq6
  have hps : SVPs (LysuS v) q = b2i (aPs g q) := (hC.2.2.2.1 q hq6).2.2
  refine ⟨Y', w, ?_, e2, k2⟩
  unfold f_X8_setPaused
  rw [checkQueue_in hu hQ hq, bndT_l, k1, bnd2_some, if_neg (o6 hq6), show f_X7_holdQueue (P_YV_SVB (Y', LysuS v)) (nI q) (b2i b) = _ from e1, bnd2_some, c6 hq6, show SVPs (P_YV_SVB (Y', LysuS v)) q = b2i (aPs g q) from hps, if_neg b2i_01]
  rfl
theorem C_mergeQueues (hI : GI u g) (hC : CS g (LysuS v)) (hY : YI (LysuY v)) (hu : NVCt (UVQs (LysuU v)) = nI (uQ u)) {p q : Nat} (hp : p < uQ u) (hq : q < uQ u) (hne : p ≠ q) :
    ∃ Y' S', f_X8_mergeQueues v (nI p) (nI q) = some (.inl (gSz (joG g p q) q), (LysuHs v, Y', S', LysuU v)) ∧ CS (joG g p q) S' ∧ YI Y' := by
  have hQ := hI.2.1.2
  have hq6 : q < 6 := by omega
  have hp6 : p < 6 := by omega
  obtain ⟨Y', k1, k2⟩ := keepC hI.1 hC hY
  obtain ⟨w, e1, e2⟩ := joinQueues_ok (a := p) (b := q) hI hC hp6 hq6 hne
  have hI2 : GI u (joG g p q) := hI.jo hq hne
  refine ⟨Y', w, ?_, e2, k2⟩
  unfold f_X8_mergeQueues f_X8_checkTwoQueues
  rw [checkQueue_in hu hQ hp, bndT_l, checkQueue_in hu hQ hq, bndT_l, if_neg (show ¬ nI p = nI q from fun h => hne ((nI_eq (by omega) (by omega)).mp h)), bndT_l, k1, bnd2_some, show f_X7_joinQueues (P_YV_SVB (Y', LysuS v)) (nI p) (nI q) = _ from e1, bnd2_some, jobsIn_ok hI2 e2 hq6, Option.bind_some]
  rfl
end CH
section CH2
variable {u : GU} {g : GS} {hs : Int32} {Y : YV} {S : SV}
theorem C_cancel (hI : GI u g) (hC : CS g S) (hY : YI Y) {i : Nat} (hi : i < aJ g) (hf : aFt g i = 0) :
    ∃ Y' S', f_X8_cancel (hs, Y, S) (nI i) = some (.inl (gSz (endG g i 2) (aQu g i)), (hs, Y', S')) ∧ CS (endG g i 2) S' ∧ YI Y' := by
  have hJ := hI.1
  have i40 : i < 40 := by omega
  have q6' := q6 hI hi hf
  have hqu : SVQu S i = nI (aQu g i) := by rw [(hC.2.1 i hi).2.2.2.2.1, if_pos hf]
  obtain ⟨Y', k1, k2⟩ := keepC hI.1 hC hY
  obtain ⟨w, e1, e2⟩ := endJob_ok hI hC hi hf (b := 2) (Or.inr rfl)
  have hI2 : GI u (endG g i 2) := hI.fin hi hf (Or.inr rfl)
  refine ⟨Y', w, ?_, e2, k2⟩
  unfold f_X8_cancel
  rw [show f_X8_checkJob (LysHs (hs, Y, S), LysS (hs, Y, S)) (nI i) = _ from checkJob_in (hs := hs) hI hC hi, bndT_l, show f_X8_checkWaits (LysHs (hs, Y, S), LysS (hs, Y, S)) (nI i) = _ from checkWaits_ok (hs := hs) hI hC hi, if_pos hf, bndT_l]
  rw [show f_X1_keep (LysY (hs, Y, S), LysS (hs, Y, S)) = _ from k1, bnd2_some, if_neg (o40 i40), c40 i40]
  show bnd2 (f_X7_endJob S (nI i) (nI 2)) (fun r12 w13 => (f_X7_jobsIn w13 (SVQu S i)).bind fun r15 => some ((Sum.inl r15 : Int32 ⊕ String), ((hs, Y', w13) : Lys))) = _
  rw [e1, bnd2_some, hqu, jobsIn_ok hI2 e2 q6', Option.bind_some]
theorem R_cancel (hI : GI u g) (hC : CS g S) {i : Nat} (hi : i < aJ g) (hf : ¬ aFt g i = 0) : f_X8_cancel (hs, Y, S) (nI i) = some (.inr "java/lang/IllegalStateException", (hs, Y, S)) := by
  unfold f_X8_cancel
  rw [show f_X8_checkJob (LysHs (hs, Y, S), LysS (hs, Y, S)) (nI i) = _ from checkJob_in (hs := hs) hI hC hi, bndT_l, show f_X8_checkWaits (LysHs (hs, Y, S), LysS (hs, Y, S)) (nI i) = _ from checkWaits_ok (hs := hs) hI hC hi, if_neg hf, bndT_r]
  rfl
theorem C_changePriority (hI : GI u g) (hC : CS g S) (hY : YI Y) {i p : Nat} (hi : i < aJ g) (hf : aFt g i = 0) (hp : p < 100) :
    ∃ Y' S', f_X8_changePriority (hs, Y, S) (nI i) (nI p) = some (.inl (nI (aPr g i)), (hs, Y', S')) ∧ CS (reG g i (aQu g i) p) S' ∧ YI Y' := by
  have hJ := hI.1
  have i40 : i < 40 := by omega
  have q6' := q6 hI hi hf
  have hqu : SVQu S i = nI (aQu g i) := by rw [(hC.2.1 i hi).2.2.2.2.1, if_pos hf]
  obtain ⟨Y', k1, k2⟩ := keepC hI.1 hC hY
  obtain ⟨w, e1, e2⟩ := insertAgain_ok (q := aQu g i) (p := p) hI hC hi hf q6' hp
  refine ⟨Y', w, ?_, e2, k2⟩
  unfold f_X8_changePriority
  rw [show f_X8_checkJob (LysHs (hs, Y, S), LysS (hs, Y, S)) (nI i) = _ from checkJob_in (hs := hs) hI hC hi, bndT_l, checkPriority_in hp, bndT_l, show f_X8_checkWaits (LysHs (hs, Y, S), LysS (hs, Y, S)) (nI i) = _ from checkWaits_ok (hs := hs) hI hC hi, if_pos hf, bndT_l]
  rw [show f_X1_keep (LysY (hs, Y, S), LysS (hs, Y, S)) = _ from k1, bnd2_some]
  simp only [if_neg (o40 i40), c40 i40]
  show bnd2 (f_X7_insertAgain S (nI i) (SVQu S i) (nI p)) (fun r16 w17 => some ((Sum.inl (HVPr (SVH S) i) : Int32 ⊕ String), ((hs, Y', w17) : Lys))) = _
  rw [hqu, e1, bnd2_some, (hC.2.1 i hi).1]
theorem R_changePriority (hI : GI u g) (hC : CS g S) {i p : Nat} (hi : i < aJ g) (hf : ¬ aFt g i = 0) (hp : p < 100) : f_X8_changePriority (hs, Y, S) (nI i) (nI p) = some (.inr "java/lang/IllegalStateException", (hs, Y, S)) := by
  unfold f_X8_changePriority
  rw [show f_X8_checkJob (LysHs (hs, Y, S), LysS (hs, Y, S)) (nI i) = _ from checkJob_in (hs := hs) hI hC hi, bndT_l, checkPriority_in hp, bndT_l, show f_X8_checkWaits (LysHs (hs, Y, S), LysS (hs, Y, S)) (nI i) = _ from checkWaits_ok (hs := hs) hI hC hi, if_neg hf, bndT_r]
  rfl
end CH2
