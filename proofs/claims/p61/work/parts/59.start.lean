/-! ===== 59: the start, on both sides ===== -/
/-- the class's first text -/
def T0 : List Nat := [113, 117, 101, 117, 101, 32, 102, 97, 115, 116, 32, 50, 48, 59, 113, 117, 101, 117, 101, 32, 115, 108, 111, 119, 32, 53, 59, 111, 119, 110, 101, 114, 32, 97, 110, 110, 59, 111, 119, 110, 101, 114, 32, 98, 111, 98, 59, 106, 111, 98, 32, 102, 97, 115, 116, 32, 97, 110, 110, 32, 53, 48, 32, 49, 48, 59, 106, 111, 98, 32, 102, 97, 115, 116, 32, 98, 111, 98, 32, 51, 48, 32, 52, 59, 106, 111, 98, 32, 102, 97, 115, 116, 32, 97, 110, 110, 32, 55, 48, 32, 50, 53, 59, 106, 111, 98, 32, 102, 97, 115, 116, 32, 98, 111, 98, 32, 52, 48, 32, 56, 59, 106, 111, 98, 32, 115, 108, 111, 119, 32, 97, 110, 110, 32, 50, 48, 32, 51, 59, 106, 111, 98, 32, 115, 108, 111, 119, 32, 98, 111, 98, 32, 54, 48, 32, 54, 59]
def bf0 (n : Nat) : Int32 := sB (T0.getD n 0)
def v00 (ln : Int32) (bf : Nat → Int32) : MV := (fun _ => 0, fun _ => 0, fun _ => 0, fun _ => 0, 0, 0, 0, fun _ => 0, 0, bf, ln, 0, -1, 0, 0, 0, 0, 0, 0, fun _ => 0, 0, fun _ => 0, fun _ => 0, 0)
def F1 : Option (Int32 × MV) := bnd2 (f_X9_beginText (v00 (nI T0.length) bf0)) (fun _ w => bnd2 (f_X9_loadSetup_h21 FU w) fun r w => some (r, w))
theorem T0_len : T0.length = 157 := by decide +kernel
theorem T0_lt : ∀ c ∈ T0, c < 256 := by decide +kernel
theorem IN_00 {R : RV} (h1 : RVLn R = nI T0.length) (h2 : TXc T0 (RVTx R)) : IN T0 R (v00 (nI T0.length) bf0) :=
  ⟨by rw [T0_len]; decide, T0_lt, h1, h2, rfl, fun j c hj => by
    show bf0 j = sB c
    unfold bf0
    rw [List.getD_eq_getElem?_getD, hj]
    rfl⟩
theorem IN_0 {R : RV} {v : MV} (h : RVLn R = 0) (h2 : MVLn v = 0) : IN [] R v := ⟨by simp, by simp, h, fun j c hj => by simp at hj, h2, fun j c hj => by simp at hj⟩
theorem start_ok {R : RV} {O : OV} {Y : YV} {S C K : SV} {U D : UV} {w : MV} (h1 : RVLn R = nI T0.length) (h2 : TXc T0 (RVTx R)) (hC : SCR C) (hY : YVNx Y = 0) (hO : OVLn O = 0)
    (hw : ∃ r w1, F1 = some (r, w1) ∧ ¬ r = -1 ∧ ∀ n, n < 500 → MVSt w n = MVSt w1 n) (h4 : MVPc w = 0) (h5 : MVIs w = 0) (h6 : MVLn w = 0) (h7 : MVEc w = 0) (h8 : MVEo w = -1) (h9 : MVOl w = 0) :
    ∃ R' C' D' Y' S', f_X8_readSetup (0, R, C, D) = some (1, (0, R', C', D')) ∧ f_X8_adoptDraft (0, Y, S, C', U, D') = some ((), (0, Y', S', C', D', U)) ∧ RVLn R' = 0 ∧ ALL' 0 R' O Y' S' C' K D' w := by
  have hFU : FU = 5000 := rfl
  have hIN := IN_00 h1 h2
  obtain ⟨C1, c1, c2⟩ := x7clear_ok hC
  obtain ⟨w0, w2, w3, w4, -, -, w5⟩ := begin_ok (w := v00 (nI T0.length) bf0) hIN rfl rfl
  have hB0 : BU u00 g00 (UV_sOs (UV_sQs D (NV_sCt (UVQs D) 0)) (NV_sCt (UVOs D) 0)) C1 (MVSt w0) := by
    rw [w4]
    exact BU00 c2 (fun n hn => rfl) rfl rfl
  have h156 := T0_len
  obtain ⟨R', C', D', v', l1, l2, l3, l4, l5, l6⟩ := setup_loop (hs := 0) (T0.length - 0) 0 0 FU FU (rb R) C1 _ w0 _ _ rfl (by omega) (by omega) (Nat.le_refl _) w5 hB0
  have ec : f_X8_readSetup (0, R, C, D) = f_X8_readSetup_j114 (0, R', C', D') := by
    unfold f_X8_readSetup f_X6_clear
    rw [bnd2_some, show f_X7_clear (LrcdC (0, R, C, D)) = _ from c1, bnd2_some, show f_X4_begin (LrcdR (0, R, C, D)) = _ from begin_c, bnd2_some]
    exact l1
  obtain ⟨r, w1, hF, hr, hst⟩ := hw
  have eF : f_X9_loadSetup_j42 v' = some (r, w1) := by
    rw [← l2]
    unfold F1 at hF
    rw [w2, bnd2_some] at hF
    cases e : f_X9_loadSetup_h21 FU w0 with
    | none => rw [e] at hF; cases hF
    | some p => rw [e] at hF; exact hF
  rcases l6 with ⟨u', g', q, m1, hB⟩ | ⟨kk, o, pe⟩
  · rcases setup_fin (hs := 0) m1 hB with ⟨hq1, ho1, e1, e2⟩ | ⟨pe, e1, e2⟩
    · obtain ⟨bB, bI, bP, bU, bC, bM, bS, bZ⟩ := hB
      obtain ⟨S', k1, k2⟩ := copy_ok (A := S) bC bI.1
      have hUI' : UI u' := bB.ui hq1
      have ew : w1 = wG v' (upd (upd (MVSt v') 3 0) 4 0) := by
        rw [eF] at e2
        exact (Prod.mk.inj (Option.some.inj e2)).2
      have hbI : GI u' (zcG g') := bI
      refine ⟨R', C', D', YV_sCt Y 0, SV_sH S' (HV_sSw (HV_sCm (SVH S') 0) 0), ec.trans e1, ?_, l3.2.1, u', zcG g', [], none, [], bB, ⟨hUI', hbI, CS_zc k2, ?_, ?_⟩, bU, ⟨rfl, h5⟩, l5, IN_0 l3.2.1 h6, ⟨?_, ?_⟩, OR_0 hO h9⟩
      · unfold f_X8_adoptDraft f_X0_clearCounters f_X1_clear
        rw [show f_X7_copyFrom (LyscudS (0, Y, S, C', U, D'), LyscudC (0, Y, S, C', U, D')) = _ from k1, bnd2_some, bnd2_some, bnd2_some]
        rfl
      · refine MSU_congr hUI' hbI hst ?_
        rw [ew]
        exact ⟨MS_zc bB.1 bM, US_zc bB bS⟩
      · rw [h4]
        exact HR_nil (x := 0) (by decide) hY rfl
      · exact m1.2.2.2.2.1.trans h7.symm
      · exact m1.2.2.2.2.2.1.trans h8.symm
    · exact absurd (by rw [eF] at e2; exact (Prod.mk.inj (Option.some.inj e2)).1) hr
  · exact absurd (by have e2 := j42_er pe; rw [eF] at e2; exact (Prod.mk.inj (Option.some.inj e2)).1) hr

def chkF : Bool := match F1 with
  | some (r, _) => r == 6
  | none => false
theorem chkF_ok : chkF = true := by decide +kernel
theorem F1_ok : ∃ w1, F1 = some (6, w1) := by
  have h := chkF_ok
  unfold chkF at h
  cases e : F1 with
  | none => rw [e] at h; cases h
  | some p =>
    obtain ⟨r, w1⟩ := p
    rw [e] at h
    simp only [beq_iff_eq] at h
    exact ⟨w1, by rw [h]⟩
/-- a reference's value that only rides along -/
def mvG (st : Nat → Int32) : MV := (st, fun _ => 0, fun _ => 0, fun _ => 0, 0, 0, 0, fun _ => 0, 0, fun _ => 0, 0, 0, -1, 0, 0, 0, 0, 0, 0, fun _ => 0, 0, fun _ => 0, fun _ => 0, 0)
theorem start_c {R : RV} {O : OV} {Y : YV} {S C K : SV} {U D : UV} (h1 : RVLn R = nI T0.length) (h2 : TXc T0 (RVTx R)) (hC : SCR C) (hY : YVNx Y = 0) (hO : OVLn O = 0) :
    ∃ R' C' D' Y' S' w, f_X8_readSetup (0, R, C, D) = some (1, (0, R', C', D')) ∧ f_X8_adoptDraft (0, Y, S, C', U, D') = some ((), (0, Y', S', C', D', U)) ∧ RVLn R' = 0 ∧ ALL' 0 R' O Y' S' C' K D' w := by
  obtain ⟨w1, e1⟩ := F1_ok
  obtain ⟨R', C', D', Y', S', g⟩ := start_ok (R := R) (O := O) (Y := Y) (S := S) (C := C) (K := K) (U := U) (D := D) (w := mvG (MVSt w1)) h1 h2 hC hY hO ⟨6, w1, e1, by decide, fun n _ => rfl⟩ rfl rfl rfl rfl rfl rfl
  exact ⟨R', C', D', Y', S', _, g⟩
