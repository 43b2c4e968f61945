/-! ===== 43: more changes: undo ===== -/
theorem O_undo {u : GU} {g : GS} {H : List GS} {hs : Int32} {Y : YV} {S : SV} {v : MV} (hR : RT u g H Y S v) :
    ∃ rc Y' S' x st P c th, f_X8_undo (hs, Y, S) = some (rc, (hs, Y', S')) ∧ f_X9_undo v = some (x, mvc v st P c th) ∧ agr [NSE] rc x th ∧ ∃ g' H', RT u g' H' Y' S' (mvc v st P c th) := by
  obtain ⟨hU, hI, hC, hM, hH⟩ := hR
  unfold f_X8_undo
  cases H with
  | nil =>
    have h1 := hH.2.1
    have h2 := hH.2.2.1
    rw [show YVCt (LysY (hs, Y, S)) = nI 0 from h1, if_pos nI_0]
    refine ⟨.inr NSE, Y, S, 0, MVSt v, MVPt v, MVPc v, 1, rfl, ?_, agr_1, g, [], hU, hI, hC, hM, hH⟩
    unfold f_X9_undo f_X9_check
    rw [show MVPc v = nI 0 from h2, if_pos (show nI 0 ≤ 0 by decide), if_pos rfl, bnd2_some, if_pos rfl]
    rw [← show MVPc v = nI 0 from h2]
    rfl
  | cons g1 H =>
    have hl := hH.1
    rw [List.length_cons] at hl
    have h1 := hH.2.1
    rw [List.length_cons] at h1
    obtain ⟨Y', S', st', k1, k2, k3, k4, k5, k6, k7⟩ := undo_ok (S := S) (g0 := g) hU hH
    rw [show YVCt (LysY (hs, Y, S)) = nI (H.length + 1) from h1, if_neg (nI_ne0 (by omega) (by omega))]
    refine ⟨.inl (nI H.length), Y', S', nI H.length, st', MVPt v, nI H.length, 0, ?_, k2, agr_v, g1, H, hU, k4, k5, k6, k3⟩
    rw [show f_X1_takeBack (LysY (hs, Y, S), LysS (hs, Y, S)) = _ from k1, bnd2_some]
    show some ((Sum.inl (YVCt Y') : Int32 ⊕ String), ((hs, Y', S') : Lys)) = _
    rw [k7]
