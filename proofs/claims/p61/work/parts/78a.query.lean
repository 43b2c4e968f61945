/-! ===== 78a: what the class answers, in terms of the jobs and heaps ===== -/
section KQ
variable {u : GU} {g : GS} {hs : Int32} {S : SV} {U : UV}
theorem K_jobs (hC : CS g S) : f_X8_jobCount (hs, S) = some (nI (aJ g)) := by
  show some (SVJc S) = _
  rw [hC.1]
theorem K_ownerOf (hI : GI u g) (hC : CS g S) {i : Nat} (hi : i < aJ g) : f_X8_ownerOf (hs, S) (nI i) = some (.inl (aOw g i)) := by
  have i40 : i < 40 := by have := hI.1; omega
  unfold f_X8_ownerOf
  rw [checkJob_in hI hC hi, bndT_l, if_neg (o40 i40), c40 i40, show SVOw (LsS (hs, S)) i = aOw g i from (hC.2.1 i hi).2.1]
theorem K_priority (hI : GI u g) (hC : CS g S) {i : Nat} (hi : i < aJ g) : f_X8_priority (hs, S) (nI i) = some (.inl (nI (aPr g i))) := by
  have i40 : i < 40 := by have := hI.1; omega
  unfold f_X8_priority
  rw [checkJob_in hI hC hi, bndT_l, if_neg (o40 i40), c40 i40, show HVPr (SVH (LsS (hs, S))) i = nI (aPr g i) from (hC.2.1 i hi).1]
theorem K_pages (hI : GI u g) (hC : CS g S) {i : Nat} (hi : i < aJ g) : f_X8_pages (hs, S) (nI i) = some (.inl (aPg g i)) := by
  have i40 : i < 40 := by have := hI.1; omega
  unfold f_X8_pages
  rw [checkJob_in hI hC hi, bndT_l, if_neg (o40 i40), c40 i40, show SVPg (LsS (hs, S)) i = aPg g i from (hC.2.1 i hi).2.2.1]
theorem K_isWaiting (hI : GI u g) (hC : CS g S) {i : Nat} (hi : i < aJ g) : f_X8_isWaiting (hs, S) (nI i) = some (.inl (if nI (aFt g i) = 0 then 1 else 0)) := by
  have i40 : i < 40 := by have := hI.1; omega
  unfold f_X8_isWaiting
  rw [checkJob_in hI hC hi, bndT_l, if_neg (o40 i40), c40 i40, show SVFt (LsS (hs, S)) i = nI (aFt g i) from (hC.2.1 i hi).2.2.2.1]
  split <;> rfl
theorem K_isPrinted (hI : GI u g) (hC : CS g S) {i : Nat} (hi : i < aJ g) : f_X8_isPrinted (hs, S) (nI i) = some (.inl (if nI (aFt g i) = 1 then 1 else 0)) := by
  have i40 : i < 40 := by have := hI.1; omega
  unfold f_X8_isPrinted
  rw [checkJob_in hI hC hi, bndT_l, if_neg (o40 i40), c40 i40, show SVFt (LsS (hs, S)) i = nI (aFt g i) from (hC.2.1 i hi).2.2.2.1]
  split <;> rfl
theorem K_isCancelled (hI : GI u g) (hC : CS g S) {i : Nat} (hi : i < aJ g) : f_X8_isCancelled (hs, S) (nI i) = some (.inl (if nI (aFt g i) = 2 then 1 else 0)) := by
  have i40 : i < 40 := by have := hI.1; omega
  unfold f_X8_isCancelled
  rw [checkJob_in hI hC hi, bndT_l, if_neg (o40 i40), c40 i40, show SVFt (LsS (hs, S)) i = nI (aFt g i) from (hC.2.1 i hi).2.2.2.1]
  split <;> rfl
theorem K_queueOf (hI : GI u g) (hC : CS g S) {i : Nat} (hi : i < aJ g) : f_X8_queueOf (hs, S) (nI i) = some (.inl (if aFt g i = 0 then nI (aQu g i) else -1)) := by
  have i40 : i < 40 := by have := hI.1; omega
  unfold f_X8_queueOf
  rw [checkJob_in hI hC hi, bndT_l, if_neg (o40 i40), c40 i40, show SVQu (LsS (hs, S)) i = _ from (hC.2.1 i hi).2.2.2.2.1]
theorem K_leftChild (hI : GI u g) (hC : CS g S) {i : Nat} (hi : i < aJ g) : f_X8_leftChild (hs, S) (nI i) = some (.inl (HVLf (SVH S) i)) := by
  have i40 : i < 40 := by have := hI.1; omega
  unfold f_X8_leftChild
  rw [checkJob_in hI hC hi, bndT_l, if_neg (o40 i40), c40 i40]
  rfl
theorem K_rightChild (hI : GI u g) (hC : CS g S) {i : Nat} (hi : i < aJ g) : f_X8_rightChild (hs, S) (nI i) = some (.inl (HVRt (SVH S) i)) := by
  have i40 : i < 40 := by have := hI.1; omega
  unfold f_X8_rightChild
  rw [checkJob_in hI hC hi, bndT_l, if_neg (o40 i40), c40 i40]
  rfl
theorem K_parent (hI : GI u g) (hC : CS g S) {i : Nat} (hi : i < aJ g) : f_X8_parent (hs, S) (nI i) = some (.inl (HVUp (SVH S) i)) := by
  have i40 : i < 40 := by have := hI.1; omega
  unfold f_X8_parent
  rw [checkJob_in hI hC hi, bndT_l, if_neg (o40 i40), c40 i40]
  rfl
theorem K_rank (hI : GI u g) (hC : CS g S) {i : Nat} (hi : i < aJ g) : f_X8_rank (hs, S) (nI i) = some (.inl (HVRk (SVH S) i)) := by
  have i40 : i < 40 := by have := hI.1; omega
  unfold f_X8_rank
  rw [checkJob_in hI hC hi, bndT_l, show f_X0_rankOf (SVH (LsS (hs, S))) (nI i) = _ from rankOf_n i40, Option.bind_some]
  rfl
theorem K_depth (hI : GI u g) (hC : CS g S) {i : Nat} (hi : i < aJ g) (hf : aFt g i = 0) {K : Ctx} {c : Int32} (hc : cx (gH (SVH S)) K c) (hu : HVUp (SVH S) i = top K) (hK : cxL K < 40) : f_X8_depth (hs, S) (nI i) = some (.inl (nI (cxL K))) := by
  have i40 : i < 40 := by have := hI.1; omega
  have hFU : FU = 5000 := rfl
  unfold f_X8_depth f_X0_ancestors
  rw [checkJob_in hI hC hi, bndT_l, checkWaits_ok hI hC hi, if_pos hf, bndT_l]
  rw [show f_X0_ancestors_h4 FU (nI i) 0 (nI i) (SVH (LsS (hs, S))) = _ from anc_up (d := 0) K hc hu i40 (by omega) (by omega), Option.bind_some, Nat.zero_add]
theorem K_root (hI : GI u g) (hC : CS g S) (hu : NVCt (UVQs U) = nI (uQ u)) {q : Nat} (hq : q < uQ u) : f_X8_root (hs, S, U) (nI q) = some (.inl (hv (aF g q))) := by
  have hQ := hI.2.1.2
  have q6 : q < 6 := by omega
  unfold f_X8_root
  rw [show f_X8_checkQueue (LsuHs (hs, S, U), LsuU (hs, S, U)) (nI q) = some (.inl ()) from checkQueue_in (hs := hs) hu hQ hq, bndT_l, if_neg (o6 q6), c6 q6, show SVRo (LsuS (hs, S, U)) q = _ from (hC.2.2.2.1 q q6).1]
theorem K_size (hI : GI u g) (hC : CS g S) (hu : NVCt (UVQs U) = nI (uQ u)) {q : Nat} (hq : q < uQ u) : f_X8_size (hs, S, U) (nI q) = some (.inl (gSz g q)) := by
  have hQ := hI.2.1.2
  unfold f_X8_size
  rw [show f_X8_checkQueue (LsuHs (hs, S, U), LsuU (hs, S, U)) (nI q) = some (.inl ()) from checkQueue_in (hs := hs) hu hQ hq, bndT_l, show f_X7_jobsIn (LsuS (hs, S, U)) (nI q) = _ from jobsIn_ok hI hC (by omega), Option.bind_some]
theorem K_waitingPages (hI : GI u g) (hC : CS g S) (hu : NVCt (UVQs U) = nI (uQ u)) {q : Nat} (hq : q < uQ u) : f_X8_waitingPages (hs, S, U) (nI q) = some (.inl (gPg g q)) := by
  have hQ := hI.2.1.2
  unfold f_X8_waitingPages
  rw [show f_X8_checkQueue (LsuHs (hs, S, U), LsuU (hs, S, U)) (nI q) = some (.inl ()) from checkQueue_in (hs := hs) hu hQ hq, bndT_l, show f_X7_pagesIn (LsuS (hs, S, U)) (nI q) = _ from pagesIn_ok hI hC (by omega), Option.bind_some]
theorem K_printedPages (hI : GI u g) (hC : CS g S) (hu : NVCt (UVQs U) = nI (uQ u)) {q : Nat} (hq : q < uQ u) : f_X8_printedPages (hs, S, U) (nI q) = some (.inl (aPd g q)) := by
  have hQ := hI.2.1.2
  have q6 : q < 6 := by omega
  unfold f_X8_printedPages
  rw [show f_X8_checkQueue (LsuHs (hs, S, U), LsuU (hs, S, U)) (nI q) = some (.inl ()) from checkQueue_in (hs := hs) hu hQ hq, bndT_l, if_neg (o6 q6), c6 q6, show SVPd (LsuS (hs, S, U)) q = _ from (hC.2.2.2.1 q q6).2.1]
theorem b2i_01 {b : Bool} : ¬ ¬ (b2i b = 0 ∨ b2i b = 1) := by
  cases b
  · exact fun h => h (Or.inl rfl)
  · exact fun h => h (Or.inr rfl)
theorem K_isPaused (hI : GI u g) (hC : CS g S) (hu : NVCt (UVQs U) = nI (uQ u)) {q : Nat} (hq : q < uQ u) : f_X8_isPaused (hs, S, U) (nI q) = some (.inl (b2i (aPs g q))) := by
  have hQ := hI.2.1.2
  have q6 : q < 6 := by omega
  unfold f_X8_isPaused
  rw [show f_X8_checkQueue (LsuHs (hs, S, U), LsuU (hs, S, U)) (nI q) = some (.inl ()) from checkQueue_in (hs := hs) hu hQ hq, bndT_l, if_neg (o6 q6), c6 q6, show SVPs (LsuS (hs, S, U)) q = _ from (hC.2.2.2.1 q q6).2.2, if_neg b2i_01]
theorem K_obstacle (hI : GI u g) (hC : CS g S) (hu : NVCt (UVQs U) = nI (uQ u)) {q : Nat} (hq : q < uQ u) : f_X8_printingObstacle (hs, S, U) (nI q) = some (.inl (obG g q)) := by
  have hQ := hI.2.1.2
  unfold f_X8_printingObstacle
  rw [show f_X8_checkQueue (LsuHs (hs, S, U), LsuU (hs, S, U)) (nI q) = some (.inl ()) from checkQueue_in (hs := hs) hu hQ hq, bndT_l, show f_X7_obstacle (LsuS (hs, S, U)) (nI q) = _ from obstacle_ok hC (by omega), Option.bind_some]
theorem K_positionOf (hI : GI u g) (hC : CS g S) {i : Nat} (hi : i < aJ g) (hf : aFt g i = 0) : f_X8_positionOf (hs, S) (nI i) = some (.inl (gPos (aPr g) g i)) := by
  have i40 : i < 40 := by have := hI.1; omega
  have hp := (hI.2.2.2.2.1 i hi).2.1
  unfold f_X8_positionOf
  rw [checkJob_in hI hC hi, bndT_l, checkWaits_ok hI hC hi, if_pos hf, bndT_l]
  simp only [if_neg (o40 i40), c40 i40]
  rw [show HVPr (SVH (LsS (hs, S))) i = nI (aPr g i) from (hC.2.1 i hi).1, show f_X7_jobsAhead (LsS (hs, S)) (nI i) (nI (aPr g i)) = _ from jobsAhead_ok hI hC hi hf hp, Option.bind_some, gPos_self hI hi rfl]
theorem K_positionWith (hI : GI u g) (hC : CS g S) {i p : Nat} (hi : i < aJ g) (hf : aFt g i = 0) (hp : p < 100) : f_X8_positionWith (hs, S) (nI i) (nI p) = some (.inl (gPos (uf (aPr g) i p) g i)) := by
  unfold f_X8_positionWith
  rw [checkJob_in hI hC hi, bndT_l, checkPriority_in hp, bndT_l, checkWaits_ok hI hC hi, if_pos hf, bndT_l, show f_X7_jobsAhead (LsS (hs, S)) (nI i) (nI p) = _ from jobsAhead_ok hI hC hi hf hp, Option.bind_some]
theorem K_pagesBefore (hI : GI u g) (hC : CS g S) {i : Nat} (hi : i < aJ g) (hf : aFt g i = 0) : f_X8_pagesBefore (hs, S) (nI i) = some (.inl (gBef g i)) := by
  unfold f_X8_pagesBefore
  rw [checkJob_in hI hC hi, bndT_l, checkWaits_ok hI hC hi, if_pos hf, bndT_l, show f_X7_pagesAhead (LsS (hs, S)) (nI i) = _ from pagesAhead_ok hI hC hi hf, Option.bind_some]
theorem K_minutes (hU : UI u) (hI : GI u g) (hC : CS g S) (hp : ∀ q, q < uQ u → UVSp U q = nI (uS u q)) {i : Nat} (hi : i < aJ g) (hf : aFt g i = 0) : f_X8_minutesUntilPrinted (hs, S, U) (nI i) = some (.inl (mnI (uS u (aQu g i)) (gBef g i + aPg g i))) := by
  have i40 : i < 40 := by have := hI.1; omega
  have hq := (hI.2.2.2.2.1 i hi).1 hf
  have hqu : SVQu S i = nI (aQu g i) := by rw [(hC.2.1 i hi).2.2.2.2.1, if_pos hf]
  unfold f_X8_minutesUntilPrinted
  rw [show f_X8_checkJob (LsuHs (hs, S, U), LsuS (hs, S, U)) (nI i) = _ from checkJob_in (hs := hs) hI hC hi, bndT_l, show f_X8_checkWaits (LsuHs (hs, S, U), LsuS (hs, S, U)) (nI i) = _ from checkWaits_ok (hs := hs) hI hC hi, if_pos hf, bndT_l]
  simp only [if_neg (o40 i40), c40 i40]
  rw [show f_X7_pagesAhead (LsuS (hs, S, U)) (nI i) = _ from pagesAhead_ok hI hC hi hf, Option.bind_some, show SVQu (LsuS (hs, S, U)) i = _ from hqu, show SVPg (LsuS (hs, S, U)) i = aPg g i from (hC.2.1 i hi).2.2.1, show f_X6_minutes (LsuU (hs, S, U)) (nI (aQu g i)) (gBef g i + aPg g i) = _ from minutes_ok hU hq (hp _ hq), Option.bind_some]
theorem K_jobAt (hI : GI u g) (hC : CS g S) (hu : NVCt (UVQs U) = nI (uQ u)) {q d : Nat} (hq : q < uQ u) (hd : d < sizN g q) : f_X8_jobAt (hs, S, U) (nI q) (nI d) = some (.inl (oI (nth g q d))) := by
  have hQ := hI.2.1.2
  have hJ := hI.1
  have q6 : q < 6 := by omega
  have hsz := @sizN_le g q
  unfold f_X8_jobAt
  rw [show f_X8_checkQueue (LsuHs (hs, S, U), LsuU (hs, S, U)) (nI q) = some (.inl ()) from checkQueue_in (hs := hs) hu hQ hq, bndT_l]
  rw [if_neg (nI_pos (by omega)), show f_X7_jobsIn (LsuS (hs, S, U)) (nI q) = _ from jobsIn_ok hI hC q6, Option.bind_some, gSz_n]
  rw [if_pos (nI_lt hd (by omega)), show f_X7_firstAfter (LsuS (hs, S, U)) (nI q) (-1) = _ from firstAfter_ok (p := none) hI hC q6 (fun m hm => by cases hm), Option.bind_some]
  have := jobAt_loop (hs := hs) (U := U) hI hC q6 hd (by omega) d FU 0 rfl (by have : FU = 5000 := rfl; omega) (Nat.zero_le _)
  rw [show f_X8_jobAt_h36 FU (nI q) (nI d) (oI (nxt g q none)) 0 (hs, S, U) = _ from this]
end KQ
