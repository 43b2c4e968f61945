/-! ===== 41: more changes: queues paused, queues joined ===== -/
theorem O_setPaused {u : GU} {g : GS} {H : List GS} {hs : Int32} {Y : YV} {S : SV} {U : UV} {v : MV} (hR : RT u g H Y S v) (hu : NVCt (UVQs U) = nI (uQ u)) (a : Int32) (b : Bool) :
    ∃ rc Y' S' x st P c th, f_X8_setPaused (hs, Y, S, U) a (b2i b) = some (rc, (hs, Y', S', U)) ∧ f_X9_setPaused v a (b2i b) = some (x, mvc v st P c th) ∧ agr [IOB] rc x th ∧ ∃ g' H', RT u g' H' Y' S' (mvc v st P c th) := by
  obtain ⟨hU, hI, hC, hM, hH⟩ := hR
  have hQ := hI.2.1.2
  unfold f_X8_setPaused f_X9_setPaused
  rcases rng a (n := uQ u) (by omega) with ⟨q, hq, rfl, hqr⟩ | ⟨b1, b2⟩
  · have hq6 : q < 6 := by omega
    rw [show f_X8_checkQueue (LysuHs (hs, Y, S, U), LysuU (hs, Y, S, U)) (nI q) = _ from checkQueue_in (hs := hs) hu hQ hq, bndT_l, mcheckQueue_in hM.1 hqr, bnd2_some, if_neg n10]
    obtain ⟨Y', P', c', k1, k2, k3⟩ := keep_ok (v := MV_sTh v 0) hU hI hC hM hH
    obtain ⟨w, e1, e2⟩ := holdQueue_ok (b := b) hC hq6
    obtain ⟨st, m1, m2, m3⟩ := pause_ok (v := MV_sPc (MV_sPt (MV_sTh v 0) P') c') (b := b) hI hM.1 hq
    have hps : SVPs S q = b2i (aPs g q) := (hC.2.2.2.1 q hq6).2.2
    have h01 : ∀ z : Bool, ¬ ¬ (b2i z = 0 ∨ b2i z = 1) := fun z => by cases z <;> decide
    refine ⟨.inl (b2i (aPs g q)), Y', w, b2i (aPs g q), st, P', c', 0, ?_, ?_, agr_v, paG g q b, (g :: H).take 8, hU, hI.pa, e2, ⟨m2, US_congr hU m3 hM.2⟩, k3⟩
    · rw [show f_X1_keep (LysuY (hs, Y, S, U), LysuS (hs, Y, S, U)) = _ from k1, bnd2_some]
      simp only [if_neg (o6 hq6), c6 hq6]
      show bnd2 (f_X7_holdQueue S (nI q) (b2i b)) (fun r9 w10 => if ¬ (SVPs S q = 0 ∨ SVPs S q = 1) then none else some ((Sum.inl (SVPs S q) : Int32 ⊕ String), ((hs, Y', w10, U) : Lysu))) = _
      rw [e1, bnd2_some, hps, if_neg (h01 _)]
    · rw [k2, bnd2_some, m1, bnd2_some]
      first | rw [if_neg (h01 _)]; rfl | rfl
  · rw [show f_X8_checkQueue (LysuHs (hs, Y, S, U), LysuU (hs, Y, S, U)) a = _ from checkQueue_out (hs := hs) hu b1, bndT_r, mcheckQueue_out hM.1 b2, bnd2_some, if_pos rfl]
    exact ⟨.inr IOB, Y, S, 0, MVSt v, MVPt v, MVPc v, 1, rfl, rfl, agr_1, g, H, hU, hI, hC, hM, hH⟩
