/-! ===== 55: a script's statement is executed, on both sides ===== -/
/-- a statement that was read: its parts, in the class's rows and in the reference's -/
def OKs (u : GU) (k a b c d : Int32) (s : Nat → Int32) (i : Nat) : Prop := s (5 * i) = k ∧
  ((k = 0 ∧ ∃ q o p n, a = nI q ∧ q < uQ u ∧ b = nI o ∧ o < uO u ∧ c = nI p ∧ p < 100 ∧ d = nI n ∧ (1 ≤ n ∧ n ≤ 99) ∧ s (5 * i + 1) = a ∧ s (5 * i + 2) = b ∧ s (5 * i + 3) = c ∧ s (5 * i + 4) = d) ∨
   ((k = 1 ∨ k = 6 ∨ k = 7) ∧ ∃ q, a = nI q ∧ q < uQ u ∧ s (5 * i + 1) = a) ∨
   (k = 2 ∧ ∃ j, a = nI j ∧ j < 40 ∧ s (5 * i + 1) = a) ∨
   (k = 3 ∧ ∃ j p, a = nI j ∧ j < 40 ∧ b = nI p ∧ p < 100 ∧ s (5 * i + 1) = a ∧ s (5 * i + 2) = b) ∨
   (k = 4 ∧ ∃ j q, a = nI j ∧ j < 40 ∧ b = nI q ∧ q < uQ u ∧ s (5 * i + 1) = a ∧ s (5 * i + 2) = b) ∨
   (k = 5 ∧ ∃ q r, a = nI q ∧ q < uQ u ∧ b = nI r ∧ r < uQ u ∧ q ≠ r ∧ s (5 * i + 1) = a ∧ s (5 * i + 2) = b))
section EXE
variable {u : GU} {g : GS} {S : SV} {v : MV}
theorem waits_40 (hI : GI u g) (hC : CS g S) {j : Nat} (hj : j < 40) : f_X7_waits S (nI j) = some (if j < aJ g ∧ aFt g j = 0 then 1 else 0) := by
  have hJ := hI.1
  by_cases c : j < aJ g
  · rw [waits_ok hI hC c]
    by_cases hf : aFt g j = 0
    · rw [if_pos hf, if_pos ⟨c, hf⟩]
    · rw [if_neg hf, if_neg (fun h => hf h.2)]
  · unfold f_X7_waits
    rw [if_neg (p40 hj), hC.1, if_pos (nI_le (by omega) (by omega)), if_neg (fun h => c h.1)]
theorem mwaiting_40 (hI : GI u g) (hM : MS u g (MVSt v)) {j : Nat} (hj : j < 40) : f_X9_isWaitingJob v (nI j) = some (if j < aJ g ∧ aFt g j = 0 then 1 else 0) := by
  have hJ := hI.1
  unfold f_X9_isWaitingJob
  rw [isJob_ok hM, Option.bind_some]
  rcases rng (nI j) (n := aJ g) (by omega) with ⟨i, hi, e, hr⟩ | ⟨c1, c2⟩
  · have : j = i := (nI_eq (by omega) (by omega)).mp e
    subst this
    rw [if_pos hr, if_neg n10, mwaits_ok hI hM hi, Option.bind_some]
    by_cases hf : aFt g j = 0
    · rw [if_pos hf, if_neg n10, if_pos ⟨hi, hf⟩]
    · rw [if_neg hf, if_pos rfl, if_neg (fun h => hf h.2)]
  · have hn : ¬ j < aJ g := fun h => by
      rcases c1 with c1 | c1
      · exact nI_pos (by omega) c1
      · exact nI_ge h (by omega) c1
    rw [if_neg c2, if_pos rfl, if_neg (fun h => hn h.1)]
theorem siz_nn {q : Nat} (hI : GI u g) : ¬ gSz g q < 0 := by
  rw [gSz_n]
  have := @sizN_le g q
  have := hI.1
  exact nI_pos (by omega)
/-- what a statement leaves -/
def EXR (u : GU) (g : GS) (S' : SV) (v : MV) (st' : Nat → Int32) : Prop := ∃ g', GI u g' ∧ CS g' S' ∧ MS u g' st' ∧ frS (MVSt v) st'
theorem EXR.id (hI : GI u g) (hC : CS g S) (hM : MS u g (MVSt v)) : EXR u g S v (MVSt v) := ⟨g, hI, hC, hM, frS.rf⟩
theorem o150 {n : Nat} (h : n < 150) : ¬ oob (nI n) 150 := nI_in h (by decide)
theorem c150 {n : Nat} (h : n < 150) : Int32.toNatClampNeg (nI n) = n := nI_clamp (by omega)
theorem sm_5 (i : Nat) : (5 : Int32) * nI i = nI (5 * i) := nI_mul 5 i
theorem o30 {n : Nat} (h : n < 30) : ¬ oob (nI n) 30 := nI_in h (by decide)
theorem c30 {n : Nat} (h : n < 30) : Int32.toNatClampNeg (nI n) = n := nI_clamp (by omega)
theorem execute_ok {hs : Int32} {TS : TV} {i : Nat} (hI : GI u g) (hC : CS g S) (hM : MS u g (MVSt v)) (hi : i < 30) (hO : OKs u (TVK TS i) (TVA TS i) (TVB TS i) (TVC TS i) (TVD TS i) (MVSm v) i) :
    ∃ b S' st', f_X8_execute (hs, TS, S) (nI i) = some (b, (hs, TS, S')) ∧ f_X9_execute v (nI i) = some (b, MV_sSt v st') ∧ EXR u g S' v st' := by
  have hJ := hI.1
  have hQ := hI.2.1.2
  have i1 : 5 * i + 1 < 150 := by omega
  have i2 : 5 * i + 2 < 150 := by omega
  have i3 : 5 * i + 3 < 150 := by omega
  have i4 : 5 * i + 4 < 150 := by omega
  have i0 : 5 * i < 150 := by omega
  obtain ⟨hk, hO⟩ := hO
  unfold f_X8_execute f_X9_execute
  rw [if_neg (nI_pos (by omega)), if_pos (show nI i < 30 from nI_lt (b := 30) hi (by decide)), sm_5, show nI (5 * i) + (1 : Int32) = nI (5 * i + 1) from nI_add _ 1, show nI (5 * i) + (2 : Int32) = nI (5 * i + 2) from nI_add _ 2, show nI (5 * i) + (3 : Int32) = nI (5 * i + 3) from nI_add _ 3, show nI (5 * i) + (4 : Int32) = nI (5 * i + 4) from nI_add _ 4]
  simp only [if_neg (o30 hi), c30 hi, if_neg (o150 i0), if_neg (o150 i1), if_neg (o150 i2), if_neg (o150 i3), if_neg (o150 i4), c150 i0, c150 i1, c150 i2, c150 i3, c150 i4]
  rw [hk, show TVK (LtsT (hs, TS, S)) i = TVK TS i from rfl, show TVA (LtsT (hs, TS, S)) i = TVA TS i from rfl, show TVB (LtsT (hs, TS, S)) i = TVB TS i from rfl, show TVC (LtsT (hs, TS, S)) i = TVC TS i from rfl, show TVD (LtsT (hs, TS, S)) i = TVD TS i from rfl, show LtsS (hs, TS, S) = S from rfl]
  rcases hO with ⟨k0, q, o, p, n, ea, hq, eb, ho, ec, hp, ed, hn, s1, s2, s3, s4⟩ | ⟨k0, q, ea, hq, s1⟩ | ⟨k0, j, ea, hj, s1⟩ | ⟨k0, j, p, ea, hj, eb, hp, s1, s2⟩ | ⟨k0, j, q, ea, hj, eb, hq, s1, s2⟩ | ⟨k0, q, r, ea, hq, eb, hr, hqr, s1, s2⟩
  · -- submit
    have hq6 : q < 6 := by omega
    rw [k0, if_pos rfl, if_pos rfl, s1, s2, s3, s4, ea, eb, ec, ed]
    simp only [if_neg o2, cl2]
    rw [hM.1.2.2]
    by_cases c : aJ g < 40
    · obtain ⟨w, e1, e2⟩ := addJob_ok (q := q) (p := p) (o := nI o) (n := nI n) hI hC c hq6 hp
      obtain ⟨st, m1, m2, m3⟩ := maddJob_ok (v := v) (q := q) (p := p) (o := nI o) (n := nI n) hI hM c hq hp
      rw [e1, bnd2_some, if_neg (nI_m (by omega)), if_neg (show ¬ (40 : Int32) ≤ nI (aJ g) from nI_ge (b := 40) c (by decide)), m1, bnd2_some, if_neg (nI_pos (by omega))]
      exact ⟨1, w, st, rfl, rfl, addG g q (nI o) p (nI n), hI.add c hq hp hn, e2, m2, m3⟩
    · have e1 : f_X7_addJob S (nI q) (nI o) (nI p) (nI n) = some (-1, S) := by
        unfold f_X7_addJob
        rw [isFull_ok hC hJ, Option.bind_some, if_neg c, if_neg n10]
      rw [e1, bnd2_some, if_pos rfl, if_pos (show (40 : Int32) ≤ nI (aJ g) from nI_le (a := 40) (by omega) (by omega))]
      exact ⟨0, S, MVSt v, rfl, rfl, EXR.id hI hC hM⟩
  · have hq6 : q < 6 := by omega
    rcases k0 with k0 | k0 | k0
    · -- print
      simp only [k0, if_neg (show ¬ (1 : Int32) = 0 by decide), eq_self, if_true]
      rw [s1, ea, obstacle_ok hC hq6, Option.bind_some, mobstacle_ok hQ hM hq, Option.bind_some]
      by_cases c : obG g q = 0
      · obtain ⟨j, hr, hj, hf, hqj⟩ := root_job hI (obG_0 c)
        have hro : SVRo S q = nI j := ((hC.2.2.2.1 q hq6).1).trans hr
        obtain ⟨w, e1, e2⟩ := endJob_ok hI hC hj hf (b := 1) (Or.inl rfl)
        obtain ⟨st, m1, m2, m3⟩ := mprintRoot_ok (v := v) hI hM hq hr hj hf hqj
        simp only [if_pos c, if_neg (o6 hq6), c6 hq6]
        rw [hro, show f_X7_endJob S (nI j) 1 = _ from e1, bnd2_some, if_neg n10, m1, bnd2_some, if_neg (nI_pos (by omega))]
        exact ⟨1, w, st, rfl, rfl, endG g j 1, hI.fin hj hf (Or.inl rfl), e2, m2, m3⟩
      · rw [if_neg c, if_neg c]
        exact ⟨0, S, MVSt v, rfl, rfl, EXR.id hI hC hM⟩
    · -- pause
      simp only [k0, if_neg (show ¬ (6 : Int32) = 0 by decide), if_neg (show ¬ (6 : Int32) = 1 by decide), if_neg (show ¬ (6 : Int32) = 2 by decide), if_neg (show ¬ (6 : Int32) = 3 by decide), if_neg (show ¬ (6 : Int32) = 4 by decide), if_neg (show ¬ (6 : Int32) = 5 by decide), eq_self, if_true]
      rw [s1, ea]
      obtain ⟨w, e1, e2⟩ := holdQueue_ok (b := true) hC hq6
      obtain ⟨st, m1, m2, m3⟩ := pause_ok (v := v) (b := true) hI hM hq
      unfold f_X9_executePause
      rw [show f_X7_holdQueue S (nI q) 1 = _ from e1, bnd2_some, if_neg (show ¬ ¬ ((1 : Int32) = 0 ∨ (1 : Int32) = 1) from fun h => h (Or.inr rfl)), show f_X9_pause v (nI q) 1 = _ from m1, bnd2_some, bnd2_some, if_neg (show ¬ ¬ ((1 : Int32) = 0 ∨ (1 : Int32) = 1) from fun h => h (Or.inr rfl))]
      exact ⟨1, w, st, rfl, rfl, paG g q true, hI.pa, e2, m2, m3⟩
    · -- resume
      simp only [k0, if_neg (show ¬ (7 : Int32) = 0 by decide), if_neg (show ¬ (7 : Int32) = 1 by decide), if_neg (show ¬ (7 : Int32) = 2 by decide), if_neg (show ¬ (7 : Int32) = 3 by decide), if_neg (show ¬ (7 : Int32) = 4 by decide), if_neg (show ¬ (7 : Int32) = 5 by decide), if_neg (show ¬ (7 : Int32) = 6 by decide), eq_self, if_true]
      rw [s1, ea]
      obtain ⟨w, e1, e2⟩ := holdQueue_ok (b := false) hC hq6
      obtain ⟨st, m1, m2, m3⟩ := pause_ok (v := v) (b := false) hI hM hq
      unfold f_X9_executePause
      rw [show f_X7_holdQueue S (nI q) 0 = _ from e1, bnd2_some, if_neg (show ¬ ¬ ((1 : Int32) = 0 ∨ (1 : Int32) = 1) from fun h => h (Or.inr rfl)), show f_X9_pause v (nI q) 0 = _ from m1, bnd2_some, bnd2_some, if_neg (show ¬ ¬ ((1 : Int32) = 0 ∨ (1 : Int32) = 1) from fun h => h (Or.inr rfl))]
      exact ⟨1, w, st, rfl, rfl, paG g q false, hI.pa, e2, m2, m3⟩
  · -- cancel
    simp only [k0, if_neg (show ¬ (2 : Int32) = 0 by decide), if_neg (show ¬ (2 : Int32) = 1 by decide), eq_self, if_true]
    rw [s1, ea, mwaiting_40 hI hM hj, Option.bind_some]
    by_cases c : j < aJ g ∧ aFt g j = 0
    · obtain ⟨hja, hf⟩ := c
      obtain ⟨w, e1, e2⟩ := endJob_ok hI hC hja hf (b := 2) (Or.inr rfl)
      have hI2 : GI u (endG g j 2) := hI.fin hja hf (Or.inr rfl)
      obtain ⟨st, m1, m2⟩ := mend_ok (v := v) hI hM hja hf (b := 2) (Or.inr rfl)
      obtain ⟨m3, m4⟩ := m2 (upd st (140 + 9 * j + 3) 2) (by rw [if_neg (by decide)]; rfl)
      rw [show f_X7_endJob S (nI j) 2 = _ from e1, bnd2_some, if_neg (show ¬ ¬ ((1 : Int32) = 0 ∨ (1 : Int32) = 1) from fun h => h (Or.inr rfl)), if_pos (⟨hja, hf⟩ : j < aJ g ∧ aFt g j = 0), if_neg n10]
      unfold f_X9_cancelJob
      rw [get_4 hj, Option.bind_some, show jf (MVSt v) 4 j = nI (aQu g j) from (hM.2.1 j hja).2.2.2.2.1 hf, m1, bnd2_some, set_3 hj, bnd2_some, sS, mSt, sizeOf_ok (v := MV_sSt v (upd st (140 + 9 * j + 3) 2)) hI2 m3 (q6 hI hja hf), Option.bind_some, bnd2_some, if_neg (siz_nn hI2)]
      exact ⟨1, w, _, rfl, rfl, endG g j 2, hI2, e2, m3, m4⟩
    · have e1 : f_X7_endJob S (nI j) 2 = some (0, S) := by
        unfold f_X7_endJob
        rw [waits_40 hI hC hj, if_neg c, Option.bind_some, if_pos rfl]
      rw [e1, bnd2_some, if_neg (show ¬ ¬ ((0 : Int32) = 0 ∨ (0 : Int32) = 1) from fun h => h (Or.inl rfl)), if_neg c, if_pos rfl]
      exact ⟨0, S, MVSt v, rfl, rfl, EXR.id hI hC hM⟩
  · -- priority
    simp only [k0, if_neg (show ¬ (3 : Int32) = 0 by decide), if_neg (show ¬ (3 : Int32) = 1 by decide), if_neg (show ¬ (3 : Int32) = 2 by decide), eq_self, if_true]
    rw [s1, s2, ea, eb, mwaiting_40 hI hM hj, Option.bind_some, waits_40 hI hC hj, Option.bind_some]
    by_cases c : j < aJ g ∧ aFt g j = 0
    · obtain ⟨hja, hf⟩ := c
      have hq := (hI.2.2.2.2.1 j hja).1 hf
      have hqu : SVQu S j = nI (aQu g j) := by rw [(hC.2.1 j hja).2.2.2.2.1, if_pos hf]
      obtain ⟨w, e1, e2⟩ := insertAgain_ok (q := aQu g j) (p := p) hI hC hja hf (q6 hI hja hf) hp
      obtain ⟨st, m1, m2, m3⟩ := setP_ok (v := v) (p := p) hI hM hja hf hp
      have hpr := (hI.2.2.2.2.1 j hja).2.1
      simp only [if_pos (⟨hja, hf⟩ : j < aJ g ∧ aFt g j = 0), if_neg n10, if_neg (o40 hj), c40 hj]
      rw [hqu, e1, bnd2_some, if_neg n10, m1, bnd2_some, if_neg (nI_pos (by omega))]
      exact ⟨1, w, st, rfl, rfl, reG g j (aQu g j) p, hI.re hja hf hq hp, e2, m2, m3⟩
    · rw [if_neg c, if_pos rfl, if_pos rfl]
      exact ⟨0, S, MVSt v, rfl, rfl, EXR.id hI hC hM⟩
  · -- move
    have hq6 : q < 6 := by omega
    simp only [k0, if_neg (show ¬ (4 : Int32) = 0 by decide), if_neg (show ¬ (4 : Int32) = 1 by decide), if_neg (show ¬ (4 : Int32) = 2 by decide), if_neg (show ¬ (4 : Int32) = 3 by decide), eq_self, if_true]
    rw [s1, s2, ea, eb, mwaiting_40 hI hM hj, Option.bind_some]
    unfold f_X7_canMove
    rw [waits_40 hI hC hj, Option.bind_some]
    by_cases c : j < aJ g ∧ aFt g j = 0
    · obtain ⟨hja, hf⟩ := c
      simp only [if_pos (⟨hja, hf⟩ : j < aJ g ∧ aFt g j = 0), if_neg n10, if_neg (o40 hj), c40 hj]
      rw [isIn_w hI hM hja hq6, Option.bind_some]
      unfold w1
      by_cases c2 : aQu g j = q
      · rw [if_pos (show SVQu S j = nI q from (quI hI hC hja hq6).mpr ⟨hf, c2⟩), Option.bind_some, if_pos rfl, if_pos (⟨hf, c2⟩ : wIn g q j), if_neg n10]
        exact ⟨0, S, MVSt v, rfl, rfl, EXR.id hI hC hM⟩
      · rw [if_neg (show ¬ SVQu S j = nI q from fun h => c2 ((quI hI hC hja hq6).mp h).2), Option.bind_some, if_neg n10, if_neg (fun (h : wIn g q j) => c2 h.2), if_pos rfl]
        have hp := (hI.2.2.2.2.1 j hja).2.1
        obtain ⟨w, e1, e2⟩ := insertAgain_ok (q := q) (p := aPr g j) hI hC hja hf hq6 hp
        have hI2 : GI u (reG g j q (aPr g j)) := hI.re hja hf hq hp
        obtain ⟨st, m1, m2, m3⟩ := moveTo_ok (v := v) (q := q) hI hM hja hf hq
        have hin : j ∈ nds (aF (reG g j q (aPr g j)) q) := (hI2.2.2.2.1 q j).mpr ⟨hja, hf, uf_eq⟩
        have hnn : ¬ hv (aF (reG g j q (aPr g j)) q) < 0 := by
          cases e : aF (reG g j q (aPr g j)) q with
          | leaf x => rw [e] at hin; exact absurd hin List.not_mem_nil
          | branch r l rr =>
            have hr : r < aJ g := hI2.lt (k := q) (by rw [e]; exact List.mem_cons_self)
            exact nI_pos (by omega)
        rw [(hC.2.1 j hja).1, e1, bnd2_some, if_neg n10, m1, bnd2_some, if_neg hnn]
        exact ⟨1, w, st, rfl, rfl, _, hI2, e2, m2, m3⟩
    · simp only [if_neg c, if_true, Option.bind_some]
      exact ⟨0, S, MVSt v, rfl, rfl, EXR.id hI hC hM⟩
  · -- merge
    have hq6 : q < 6 := by omega
    have hr6 : r < 6 := by omega
    simp only [k0, if_neg (show ¬ (5 : Int32) = 0 by decide), if_neg (show ¬ (5 : Int32) = 1 by decide), if_neg (show ¬ (5 : Int32) = 2 by decide), if_neg (show ¬ (5 : Int32) = 3 by decide), if_neg (show ¬ (5 : Int32) = 4 by decide), eq_self, if_true]
    rw [s1, s2, ea, eb]
    obtain ⟨w, e1, e2⟩ := joinQueues_ok (a := q) (b := r) hI hC hq6 hr6 hqr
    have hI2 : GI u (joG g q r) := hI.jo hr hqr
    obtain ⟨st, m1, m2, m3⟩ := mergeInto_ok (v := v) hI hM hq hr hqr
    have hsz := sizeOf_ok (v := MV_sSt v st) hI2 m2 hr6
    rw [e1, bnd2_some, if_neg (show ¬ ¬ ((1 : Int32) = 0 ∨ (1 : Int32) = 1) from fun h => h (Or.inr rfl)), m1, hsz, Option.bind_some, bnd2_some, if_neg (siz_nn hI2)]
    exact ⟨1, w, st, rfl, rfl, joG g q r, hI2, e2, m2, m3⟩
/-- all statements, up to the first that can't be executed -/
theorem exe_loop {hs : Int32} {R : RV} {TS : TV} {Y : YV} {U : UV} {c : Nat} (hB : UB u) (hc : c ≤ 30) (hct : TVCt TS = nI c) : ∀ (m n i : Nat) (g : GS) (S : SV) (v : MV), c - i = m → m < n → i ≤ c → GI u g → CS g S → MSU u g (MVSt v) → MVSc v = nI c → (∀ i, i < c → OKs u (TVK TS i) (TVA TS i) (TVB TS i) (TVC TS i) (TVD TS i) (MVSm v) i) →
    ∃ r S' st' g', f_X8_runScript_h22 n (nI i) (hs, R, TS, Y, S, U) = some (r, (hs, R, TS, Y, S', U)) ∧ f_X9_runScript_h54 n (nI i) v = some (r, MV_sSt v st') ∧ GI u g' ∧ CS g' S' ∧ MSU u g' st' := by
  intro m
  induction m with
  | zero =>
    intro n i g S v hm hn hi hI hC hM hsc hO
    obtain ⟨n, rfl⟩ : ∃ m, n = m + 1 := ⟨n - 1, by omega⟩
    have e : i = c := by omega
    subst e
    rw [f_X8_runScript_h22, show TVCt (LrtysuT (hs, R, TS, Y, S, U)) = _ from hct, if_pos (nI_le (Nat.le_refl _) (by omega)), f_X9_runScript_h54, hsc, if_pos (nI_le (Nat.le_refl _) (by omega))]
    exact ⟨nI i, S, MVSt v, g, rfl, rfl, hI, hC, hM⟩
  | succ m ih =>
    intro n i g S v hm hn hi hI hC hM hsc hO
    obtain ⟨n, rfl⟩ : ∃ m, n = m + 1 := ⟨n - 1, by omega⟩
    have hi2 : i < c := by omega
    obtain ⟨b, S1, st1, e1, e2, g1, hI1, hC1, hM1, hF1⟩ := execute_ok (hs := hs) (TS := TS) (i := i) hI hC hM.1 (by omega) (hO i hi2)
    have hM1' : MSU u g1 st1 := ⟨hM1, US_congr0 hB hF1 hM.2⟩
    rw [f_X8_runScript_h22, show TVCt (LrtysuT (hs, R, TS, Y, S, U)) = _ from hct, if_neg (nI_ge hi2 (by omega)), show f_X8_execute (LrtysuHs (hs, R, TS, Y, S, U), LrtysuT (hs, R, TS, Y, S, U), LrtysuS (hs, R, TS, Y, S, U)) (nI i) = _ from e1, bnd2_some, f_X9_runScript_h54, hsc, if_neg (nI_ge hi2 (by omega)), e2, bnd2_some]
    by_cases cb : b = 0
    · rw [if_pos cb, if_pos cb]
      exact ⟨nI i, S1, st1, g1, rfl, rfl, hI1, hC1, hM1'⟩
    · rw [if_neg cb, if_neg cb, nI_1]
      obtain ⟨r, S', st', g', a1, a2, a3, a4, a5⟩ := ih n (i + 1) g1 S1 (MV_sSt v st1) (by omega) (by omega) (by omega) hI1 hC1 hM1' hsc hO
      exact ⟨r, S', st', g', a1, a2, a3, a4, a5⟩
end EXE
