/-! ===== 34: what a setup laid down in the row; the history on both sides ===== -/
def US (u : GU) (st : Nat → Int32) : Prop :=
  (∀ q, q < uQ u → st (10 + 11 * q) = nI (uN u q).length ∧ (∀ l, l < 6 → st (10 + 11 * q + 1 + l) = st (10 + 11 * q + 1 + l)) ∧ (∀ l c, (uN u q)[l]? = some c → st (10 + 11 * q + 1 + l) = nI c) ∧ st (10 + 11 * q + 7) = nI (uS u q)) ∧
  (∀ k, k < uO u → st (80 + 7 * k) = nI (uM u k).length ∧ ∀ l c, (uM u k)[l]? = some c → st (80 + 7 * k + 1 + l) = nI c)
/-- the bounds of a setup -/
def UI (u : GU) : Prop := (1 ≤ uQ u ∧ uQ u ≤ 6) ∧ uO u ≤ 8 ∧ (∀ q, q < uQ u → (1 ≤ uS u q ∧ uS u q ≤ 99) ∧ (uN u q).length ≤ 6 ∧ ∀ c ∈ uN u q, 97 ≤ c ∧ c ≤ 122) ∧ (∀ k, k < uO u → (uM u k).length ≤ 6 ∧ ∀ c ∈ uM u k, 97 ≤ c ∧ c ≤ 122)
theorem fix_q {q r : Nat} (hq : q < 6) (hr : r < 8) : fix9 (10 + 11 * q + r) := ⟨by omega, by omega, by omega, by omega, fun q' _ => by omega⟩
theorem fix_o {k r : Nat} (hk : k < 8) (hr : r < 7) : fix9 (80 + 7 * k + r) := ⟨by omega, by omega, by omega, by omega, fun q' _ => by omega⟩
theorem US_congr {u : GU} {st st' : Nat → Int32} (hU : UI u) (h : frS st st') (hS : US u st) : US u st' := by
  have hQ := hU.1.2
  have hO := hU.2.1
  refine ⟨fun q hq => ?_, fun k hk => ?_⟩
  · obtain ⟨h1, h2, h3, h4⟩ := hS.1 q hq
    have hn := (hU.2.2.1 q hq).2.1
    refine ⟨?_, fun l _ => rfl, fun l c hc => ?_, ?_⟩
    · rw [h (10 + 11 * q) (fix_q (q := q) (r := 0) (by omega) (by omega))]; exact h1
    · have hl : l < (uN u q).length := (List.getElem?_eq_some_iff.mp hc).1
      rw [show 10 + 11 * q + 1 + l = 10 + 11 * q + (1 + l) by omega, h _ (fix_q (by omega) (by omega)), show 10 + 11 * q + (1 + l) = 10 + 11 * q + 1 + l by omega]
      exact h3 l c hc
    · rw [h _ (fix_q (by omega) (by omega))]; exact h4
  · obtain ⟨h1, h2⟩ := hS.2 k hk
    have hn := (hU.2.2.2 k hk).1
    refine ⟨?_, fun l c hc => ?_⟩
    · rw [h (80 + 7 * k) (fix_o (k := k) (r := 0) (by omega) (by omega))]; exact h1
    · have hl : l < (uM u k).length := (List.getElem?_eq_some_iff.mp hc).1
      rw [show 80 + 7 * k + 1 + l = 80 + 7 * k + (1 + l) by omega, h _ (fix_o (by omega) (by omega)), show 80 + 7 * k + (1 + l) = 80 + 7 * k + 1 + l by omega]
      exact h2 l c hc
/-- a row of the reference -/
def MSU (u : GU) (g : GS) (st : Nat → Int32) : Prop := MS u g st ∧ US u st
theorem MSU_congr {u : GU} {g : GS} {st st' : Nat → Int32} (hU : UI u) (hI : GI u g) (h : ∀ n, n < 500 → st' n = st n) (hM : MSU u g st) : MSU u g st' :=
  ⟨MS_congr hI h hM.1, US_congr hU (fun n hn => h n (by have := hn.1; omega)) hM.2⟩
/-- the history: newest first -/
def HR (u : GU) (H : List GS) (Y : YV) (P : Nat → Int32) (pc : Int32) : Prop :=
  H.length ≤ 8 ∧ YVCt Y = nI H.length ∧ pc = nI H.length ∧ ∃ x, x < 8 ∧ YVNx Y = nI x ∧ ∀ j g, H[j]? = some g → GI u g ∧ CS g (YVKs Y ((x + 7 - j) % 8)) ∧ MSU u g (slot P (H.length - 1 - j))
theorem updS_eq {α : Type} {f : Nat → α} {i : Nat} {x : α} : updS f i x i = x := if_pos rfl
theorem updS_ne {α : Type} {f : Nat → α} {i j : Nat} {x : α} (h : j ≠ i) : updS f i x j = f j := if_neg h
theorem HR_nil {u : GU} {Y : YV} {P : Nat → Int32} {x : Nat} (hx : x < 8) (h : YVNx Y = nI x) (hc : YVCt Y = 0) : HR u [] Y P 0 :=
  ⟨by simp, hc, rfl, x, hx, h, fun j g hg => by simp at hg⟩
theorem take_at {α : Type} {l : List α} {n j : Nat} {a : α} (h : (l.take n)[j]? = some a) : j < n ∧ l[j]? = some a := by
  rw [List.getElem?_take] at h
  by_cases c : j < n
  · rw [if_pos c] at h; exact ⟨c, h⟩
  · rw [if_neg c] at h; cases h
theorem keep_ok {u : GU} {g : GS} {H : List GS} {Y : YV} {S : SV} {v : MV} (hU : UI u) (hI : GI u g) (hC : CS g S) (hM : MSU u g (MVSt v)) (hH : HR u H Y (MVPt v) (MVPc v)) :
    ∃ Y' P' c', f_X1_keep (Y, S) = some ((), (Y', S)) ∧ f_X9_remember v = some ((), MV_sPc (MV_sPt v P') c') ∧ HR u ((g :: H).take 8) Y' P' c' := by
  obtain ⟨hl, h1, h2, x, hx, h3, h4⟩ := hH
  obtain ⟨A', k1, k2⟩ := copy_ok (A := YVKs Y x) hC hI.1
  -- the class
  have hct : (if 8 < nI H.length + 1 then (8 : Int32) else nI H.length + 1) = nI ((g :: H).take 8).length := by
    rw [nI_1, List.length_take, List.length_cons]
    by_cases c : H.length = 8
    · rw [c]; decide
    · rw [if_neg (fun h => by have := (nI_ltI (a := 8) (b := H.length + 1) (by omega) (by omega)).mp h; omega), Nat.min_eq_right (by omega)]
  have hnx : fmod (nI x + 1) 8 = nI ((x + 1) % 8) := by
    rw [nI_1, fm_up (x + 1) (by omega)]
  refine ⟨((updS (YVKs Y) x A'), nI ((g :: H).take 8).length, nI ((x + 1) % 8)), ?_⟩
  have ek : f_X1_keep (Y, S) = some ((), (((updS (YVKs Y) x A'), nI ((g :: H).take 8).length, nI ((x + 1) % 8)), S)) := by
    rw [keep_eq hx h3, k1, bnd2_some]
    unfold f_X1_keep_j24
    show some ((), (((updS (YVKs Y) x A'), (if 8 < YVCt Y + 1 then 8 else YVCt Y + 1), fmod (YVNx Y + 1) 8), S)) = _
    rw [h1, h3, hct, hnx]
  -- what the class's slots hold
  have hcl : ∀ j g', ((g :: H).take 8)[j]? = some g' → GI u g' ∧ CS g' (updS (YVKs Y) x A' (((x + 1) % 8 + 7 - j) % 8)) := by
    intro j g' hg
    obtain ⟨hj, hg⟩ := take_at hg
    cases j with
    | zero =>
      have e : g = g' := by simpa using hg
      subst e
      rw [show ((x + 1) % 8 + 7 - 0) % 8 = x by omega, updS_eq]
      exact ⟨hI, k2⟩
    | succ j =>
      have hg2 : H[j]? = some g' := by simpa using hg
      rw [show ((x + 1) % 8 + 7 - (j + 1)) % 8 = (x + 7 - j) % 8 by omega, updS_ne (by omega)]
      exact ⟨(h4 j g' hg2).1, (h4 j g' hg2).2.1⟩
  have hlen : ((g :: H).take 8).length = min 8 (H.length + 1) := by rw [List.length_take, List.length_cons]
  -- the reference
  unfold f_X9_remember
  by_cases c : H.length = 8
  · rw [h2, c, if_pos (show nI 8 = 8 from rfl)]
    obtain ⟨P1, r1, r2⟩ := rem13 (4000 - 500) FU 500 v rfl (by decide) (by omega) (by omega)
    have r1' : f_X9_remember_h13 FU 500 v = f_X9_remember_h54 FU 0 (MV_sPc (MV_sPt v P1) (MVPc v - 1)) := r1
    have e7 : MVPc v - 1 = nI 7 := by rw [h2, c]; decide
    obtain ⟨P2, s1, s2, s3⟩ := rem54 (c := 7) (by decide) (500 - 0) FU 0 (MV_sPc (MV_sPt v P1) (nI 7)) rfl (by decide) (by omega) rfl
    have s1' : f_X9_remember_h54 FU 0 (MV_sPc (MV_sPt v P1) (nI 7)) = some ((), MV_sPc (MV_sPt v P2) (nI (7 + 1))) := s1
    refine ⟨P2, nI (7 + 1), ek, ?_, by rw [hlen]; omega, rfl, by rw [hlen, c]; rfl, (x + 1) % 8, by omega, rfl, fun j g' hg => ?_⟩
    · rw [r1', e7, s1']
    · refine ⟨(hcl j g' hg).1, (hcl j g' hg).2, ?_⟩
      obtain ⟨hj, hg⟩ := take_at hg
      rw [hlen, c]
      cases j with
      | zero =>
        have e : g = g' := by simpa using hg
        subst e
        refine MSU_congr hU hI (fun n hn => ?_) hM
        show P2 (500 * (min 8 (8 + 1) - 1 - 0) + n) = _
        rw [show 500 * (min 8 (8 + 1) - 1 - 0) + n = 3500 + n by omega, s2 _ (by omega), show 3500 + n - 500 * 7 = n by omega]
        rfl
      | succ j =>
        have hg2 : H[j]? = some g' := by simpa using hg
        refine MSU_congr hU (h4 j g' hg2).1 (fun n hn => ?_) (h4 j g' hg2).2.2
        show P2 (500 * (min 8 (8 + 1) - 1 - (j + 1)) + n) = MVPt v (500 * (H.length - 1 - j) + n)
        rw [c, s3 _ (by omega)]
        show P1 (500 * (min 8 (8 + 1) - 1 - (j + 1)) + n) = _
        rw [r2 _ (by omega), if_pos (by omega), show 500 * (min 8 (8 + 1) - 1 - (j + 1)) + n + 500 = 500 * (8 - 1 - j) + n by omega]
  · rw [if_neg (show ¬ MVPc v = 8 from fun h => c ((nI_eq (b := 8) (by omega) (by omega)).mp (h2.symm.trans h)))]
    obtain ⟨P2, s1, s2, s3⟩ := rem54 (c := H.length) (by omega) (500 - 0) FU 0 v rfl (by decide) (by omega) h2
    have s1' : f_X9_remember_h54 FU 0 v = some ((), MV_sPc (MV_sPt v P2) (nI (H.length + 1))) := s1
    refine ⟨P2, nI (H.length + 1), ek, s1', by rw [hlen]; omega, rfl, by rw [hlen, Nat.min_eq_right (by omega)], (x + 1) % 8, by omega, rfl, fun j g' hg => ?_⟩
    refine ⟨(hcl j g' hg).1, (hcl j g' hg).2, ?_⟩
    obtain ⟨hj, hg⟩ := take_at hg
    rw [hlen, Nat.min_eq_right (by omega)]
    cases j with
    | zero =>
      have e : g = g' := by simpa using hg
      subst e
      refine MSU_congr hU hI (fun n hn => ?_) hM
      show P2 (500 * (H.length + 1 - 1 - 0) + n) = _
      rw [show 500 * (H.length + 1 - 1 - 0) + n = 500 * H.length + n by omega, s2 _ (by omega), show 500 * H.length + n - 500 * H.length = n by omega]
    | succ j =>
      have hg2 : H[j]? = some g' := by simpa using hg
      have hj2 : j < H.length := (List.getElem?_eq_some_iff.mp hg2).1
      refine MSU_congr hU (h4 j g' hg2).1 (fun n hn => ?_) (h4 j g' hg2).2.2
      show P2 (500 * (H.length + 1 - 1 - (j + 1)) + n) = MVPt v (500 * (H.length - 1 - j) + n)
      rw [s3 _ (by omega)]
      congr 1
      omega
theorem undo_ok {u : GU} {g g0 : GS} {H : List GS} {Y : YV} {S : SV} {v : MV} (hU : UI u) (hH : HR u (g :: H) Y (MVPt v) (MVPc v)) :
    ∃ Y' S' st', f_X1_takeBack (Y, S) = some ((), (Y', S')) ∧ f_X9_undo v = some (nI H.length, MV_sSt (MV_sPc (MV_sTh v 0) (nI H.length)) st') ∧ HR u H Y' (MVPt v) (nI H.length) ∧ GI u g ∧ CS g S' ∧ MSU u g st' ∧ YVCt Y' = nI H.length := by
  obtain ⟨hl, h1, h2, x, hx, h3, h4⟩ := hH
  rw [List.length_cons] at hl h1 h2 h4
  obtain ⟨hI, hC, hM⟩ := h4 0 g (by simp)
  have hy : (x + 7 - 0) % 8 = (x + 7) % 8 := by omega
  rw [hy] at hC
  obtain ⟨S', k1, k2⟩ := copy_ok (A := S) hC hI.1
  have e8 : nI (H.length + 1) - 1 = nI H.length := by rw [← nI_1, Int32.add_sub_cancel]
  refine ⟨((updS (YVKs Y) ((x + 7) % 8) (YVKs Y ((x + 7) % 8))), nI H.length, nI ((x + 7) % 8)), S', mix (MVSt v) (slot (MVPt v) H.length) 0, ?_, ?_, ⟨by omega, rfl, rfl, (x + 7) % 8, by omega, rfl, fun j g' hg => ?_⟩, hI, k2, ?_, rfl⟩
  · rw [take_eq hx rfl h3, k1, bnd2_some]
    show some ((), (((updS (YVKs Y) ((x + 7) % 8) (YVKs Y ((x + 7) % 8))), (YVCt Y - 1), nI ((x + 7) % 8)), S')) = _
    rw [h1, e8]
  · unfold f_X9_undo f_X9_check
    rw [h2, if_neg (show ¬ nI (H.length + 1) ≤ 0 from nI_ge (a := 0) (b := H.length + 1) (by omega) (by omega)), if_neg n10, if_neg n10, if_neg n10, bnd2_some, if_neg n10]
    show f_X9_undo_h35 FU 0 (MV_sPc (MV_sTh v 0) (MVPc v - 1)) = _
    rw [h2, e8]
    have := und35 (c := H.length) (by omega) (500 - 0) FU 0 (MV_sPc (MV_sTh v 0) (nI H.length)) rfl (by decide) (by omega) rfl
    exact this
  · have hg2 : (g :: H)[j + 1]? = some g' := by simpa using hg
    have hj2 : j < H.length := (List.getElem?_eq_some_iff.mp hg).1
    obtain ⟨i1, i2, i3⟩ := h4 (j + 1) g' hg2
    refine ⟨i1, ?_, ?_⟩
    · rw [show ((x + 7) % 8 + 7 - j) % 8 = (x + 7 - (j + 1)) % 8 by omega]
      show CS g' (updS (YVKs Y) ((x + 7) % 8) (YVKs Y ((x + 7) % 8)) ((x + 7 - (j + 1)) % 8))
      rw [updS_ne (by omega)]
      exact i2
    · rw [show H.length - 1 - j = H.length + 1 - 1 - (j + 1) by omega]
      exact i3
  · refine MSU_congr hU hI (fun n hn => ?_) hM
    rw [mix_at hn]
    rfl
