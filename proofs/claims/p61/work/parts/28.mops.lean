/-! ===== 28: changes of the state: the reference ===== -/
theorem gM_hi {st : Nat → Int32} {i k : Nat} {x : Int32} (h : k < 5) : gM (upd st (140 + 9 * i + k) x) = gM st := by
  unfold gM
  rw [jf_ne (by omega) (by omega) (by omega), jf_ne (by omega) (by omega) (by omega), jf_ne (by omega) (by omega) (by omega), jf_ne (by omega) (by omega) (by omega), upd_ne (by omega), upd_ne (by omega)]
theorem cl2 : Int32.toNatClampNeg 2 = 2 := by decide
theorem o2 : ¬ oob 2 500 := by decide
theorem rootOf_ok {v : MV} {q : Nat} (hq : q < 6) : f_X9_rootOf v (nI q) = some (MVSt v (10 + 11 * q + 9)) := by
  unfold f_X9_rootOf f_X9_q
  rw [Option.bind_some, qadr, show nI (10 + 11 * q) + (9 : Int32) = nI (10 + 11 * q + 9) from nI_add _ 9]
  rw [if_neg (o500 (by omega)), c500 (by omega)]
/-- what no change of the state touches: what the setup laid down -/
def fix9 (n : Nat) : Prop := n < 140 ∧ n ≠ 2 ∧ n ≠ 3 ∧ n ≠ 4 ∧ ∀ q, q < 6 → n ≠ 10 + 11 * q + 8 ∧ n ≠ 10 + 11 * q + 9 ∧ n ≠ 10 + 11 * q + 10
def frS (st st' : Nat → Int32) : Prop := ∀ n, fix9 n → st' n = st n
theorem frS.rf {st : Nat → Int32} : frS st st := fun _ _ => rfl
theorem frS.tr {a b c : Nat → Int32} (h : frS a b) (h2 : frS b c) : frS a c := fun n hn => (h2 n hn).trans (h n hn)
theorem frR.S {q : Nat} {a b : Nat → Int32} (h : frR q a b) (hq : q < 6) : frS a b := fun n hn => h.2 n hn.1 hn.2.2.1 hn.2.2.2.1 (hn.2.2.2.2 q hq).2.1
theorem mgroot_ok {v : MV} {pr : Nat → Nat} {q : Nat} {a b : Tr} (sa : sub (gM (MVSt v)) a) (sb : sub (gM (MVSt v)) b) (na : (nds a).Nodup) (nb : (nds b).Nodup) (hab : dsj a b) (hp : mprOK (MVSt v) pr) (hq : q < 6) :
    ∃ st1 st2, f_X9_merge 50 v (hv a) (hv b) = some (hv (mg pr a b).1, MV_sSt v st1) ∧ f_X9_setRoot (MV_sSt v st1) (nI q) (hv (mg pr a b).1) = some ((), MV_sSt v st2) ∧ MSp pr (gM (MVSt v)) (gM st2) a b ∧ upK (gM st2) (mg pr a b).1 (-1) ∧ frR q (MVSt v) st2 ∧ st2 (10 + 11 * q + 9) = hv (mg pr a b).1 := by
  have hlen : (nds a).length + (nds b).length ≤ 40 := by
    have h := nd_len (l := nds a ++ nds b) (List.nodup_append.mpr ⟨na, nb, fun x hx y hy e => hab x hx (e ▸ hy)⟩) (fun j hj => (List.mem_append.mp hj).elim (sub_lt sa j) (sub_lt sb j))
    rwa [List.length_append] at h
  obtain ⟨st1, q1, ⟨q2, q3, q4, q5⟩, q6⟩ := mmerge_ok (pr := pr) 40 (a := a) (b := b) (n := 50) (v := v) hlen (by omega) (by omega) sa sb na nb hab hp
  have nmg : (nds (mg pr a b).1).Nodup := nodup_of_mg na nb hab
  obtain ⟨st2, h1, h2, h3, h4, h5, h6, h7, h8, h9⟩ := setRoot_ok (v := MV_sSt v st1) (q := q) (m := (mg pr a b).1) hq (sub_lt q2)
  have s2 : sub (gM st2) (mg pr a b).1 := sub_congr' (G := gM st1) (fun x _ => ⟨congrFun h4 x, congrFun h5 x, congrFun h7 x⟩) (fun x hx => by rw [h6]; exact setU_tail nmg hx) q2
  have u2 : upK (gM st2) (mg pr a b).1 (-1) := upK_congr (G := setU (gM st1) (mg pr a b).1 (-1)) (fun x _ => by rw [h6]; rfl) setU_up
  refine ⟨st1, st2, q1, h1, ⟨s2, fun x y1 y2 => (q3 x y1 y2).tr ⟨congrFun h4 x, congrFun h5 x, ?_, congrFun h7 x⟩, ?_, ?_⟩, u2, q6.R.tr h2, h3⟩
  · rw [h6]; exact setU_ne (fun h => (mem_mg.mp h).elim y1 y2)
  · rw [h8]; exact q4
  · rw [h9]; exact q5
theorem minsert_ok {v : MV} {pr : Nat → Nat} {i q : Nat} {F : Nat → Tr} (hi : i < 40) (hq : q < 6) (hF : FR (gM (MVSt v)) F) (hds : dsF F) (hout : ∀ k, i ∉ nds (F k)) (hn : (nds (F q)).Nodup) (hp : mprOK (MVSt v) pr) (hroot : MVSt v (10 + 11 * q + 9) = hv (F q)) :
    ∃ st, f_X9_insert v (nI q) (nI i) = some ((), MV_sSt v st) ∧ FR (gM st) (uf F q (mg pr (F q) (nd1 i)).1) ∧ (∀ j, j ≠ i → j ∉ nds (F q) → eqG (gM (MVSt v)) (gM st) j) ∧ gC (gM st) = gC (gM (MVSt v)) + nI (mg pr (F q) (nd1 i)).2.1 ∧ gS (gM st) = gS (gM (MVSt v)) + nI (mg pr (F q) (nd1 i)).2.2 ∧ (∀ k, k < 4 → jf st k = jf (MVSt v) k) ∧ jf st 4 = upd (jf (MVSt v) 4) i (nI q) ∧ (∀ n, n < 140 → n ≠ 3 → n ≠ 4 → n ≠ 10 + 11 * q + 9 → st n = MVSt v n) ∧ st (10 + 11 * q + 9) = hv (mg pr (F q) (nd1 i)).1 := by
  obtain ⟨st1, h1, h2, h3⟩ := single_ok (v := v) hi
  have g1 : gM st1 = pln (gM (MVSt v)) i := h3
  have g2 : gM (upd st1 (140 + 9 * i + 4) (nI q)) = pln (gM (MVSt v)) i := by rw [gM_hi (by decide), g1]
  have hF1 : FR (gM (upd st1 (140 + 9 * i + 4) (nI q))) F := by rw [g2]; exact FR_pln hF hout
  have hn1 : sub (gM (upd st1 (140 + 9 * i + 4) (nI q))) (nd1 i) ∧ upK (gM (upd st1 (140 + 9 * i + 4) (nI q))) (nd1 i) (-1) := by rw [g2]; exact pln_nd hi
  have hk : ∀ k, k < 4 → jf (upd st1 (140 + 9 * i + 4) (nI q)) k = jf (MVSt v) k := fun k hk => by
    rw [jf_ne (by omega) (by omega) (by omega)]; exact h2.1 k (by omega)
  have hp1 : mprOK (upd st1 (140 + 9 * i + 4) (nI q)) pr := fun k hk2 => by
    rw [hk 1 (by decide)]; exact hp k hk2
  have hr1 : (upd st1 (140 + 9 * i + 4) (nI q)) (10 + 11 * q + 9) = hv (F q) := by
    rw [upd_ne (by omega), h2.2 _ (by omega) (by omega) (by omega)]; exact hroot
  obtain ⟨st3, st4, m1, m2, m3, m4, m5, m6⟩ := mgroot_ok (v := MV_sSt v (upd st1 (140 + 9 * i + 4) (nI q))) (pr := pr) (q := q) (a := F q) (b := nd1 i) (hF1 q).1 hn1.1 hn nd1_nodup (dsj_nd1 (hout q)) hp1 hq
  refine ⟨st4, ?_, FR_mg hF1 hds (fun k _ => dsj_nd1 (hout k)) m3 m4, fun j e hj => ?_, ?_, ?_, fun k hk2 => ?_, ?_, fun n e1 e2 e3 e4 => ?_, m6⟩
  · unfold f_X9_insert
    rw [h1, bnd2_some, set_4 hi, bnd2_some, rootOf_ok hq, Option.bind_some, show MVSt (MV_sSt (MV_sSt v st1) (upd (MVSt (MV_sSt v st1)) (140 + 9 * i + 4) (nI q))) (10 + 11 * q + 9) = hv (F q) from hr1]
    have m1' : f_X9_merge 50 (MV_sSt (MV_sSt v st1) (upd (MVSt (MV_sSt v st1)) (140 + 9 * i + 4) (nI q))) (hv (F q)) (nI i) = some (hv (mg pr (F q) (nd1 i)).1, MV_sSt v st3) := m1
    have m2' : f_X9_setRoot (MV_sSt v st3) (nI q) (hv (mg pr (F q) (nd1 i)).1) = some ((), MV_sSt v st4) := m2
    rw [m1', bnd2_some, m2']
    rfl
  · have a2 := m3.2.1 j hj (fun h => e (mem_nd1.mp h))
    rw [show gM (MVSt (MV_sSt v (upd st1 (140 + 9 * i + 4) (nI q)))) = _ from g2] at a2
    exact (pln_eq e).tr a2
  · have a2 := m3.2.2.1
    rw [show gM (MVSt (MV_sSt v (upd st1 (140 + 9 * i + 4) (nI q)))) = _ from g2] at a2
    exact a2
  · have a2 := m3.2.2.2
    rw [show gM (MVSt (MV_sSt v (upd st1 (140 + 9 * i + 4) (nI q)))) = _ from g2] at a2
    exact a2
  · rw [m5.1 k (by omega)]; exact hk k hk2
  · rw [m5.1 4 (by decide)]
    show jf (upd st1 (140 + 9 * i + 4) (nI q)) 4 = _
    rw [jf_same, h2.1 4 (by decide)]
  · rw [m5.2 n e1 e2 e3 e4]
    show upd st1 (140 + 9 * i + 4) (nI q) n = _
    rw [upd_ne (by omega), h2.2 n e1 e2 e3]
theorem MS.pr {g : GS} {st : Nat → Int32} {u : GU} (hI : GI u g) (hM : MS u g st) : ∃ p : Nat → Nat, mprOK st p ∧ ∀ k, k < aJ g → p k = aPr g k :=
  pr_all hM.2.2.1 (fun i hi => ⟨(hM.2.1 i hi).2.1, by have := (hI.2.2.2.2.1 i hi).2.1; omega⟩) hI.1
theorem sS {v : MV} {a b : Nat → Int32} : MV_sSt (MV_sSt v a) b = MV_sSt v b := rfl
theorem mSt {v : MV} {a : Nat → Int32} : MVSt (MV_sSt v a) = a := rfl
theorem maddJob_ok2 {u : GU} {g : GS} {v : MV} {q p : Nat} {o n : Int32} (hI : GI u g) (hM : MS u g (MVSt v)) (hJ : aJ g < 40) (hq : q < uQ u) (hp : p < 100) :
    ∃ st, f_X9_addJob v (nI q) o (nI p) n = some (nI (aJ g), MV_sSt v st) ∧ MS u (addG g q o p n) st ∧ frS (MVSt v) st ∧ ∀ k, k < 140 → k ≠ 2 → k ≠ 3 → k ≠ 4 → k ≠ 10 + 11 * q + 9 → st k = MVSt v k := by
  have hQ := hI.2.1.2
  obtain ⟨pr, hpr, hag⟩ := hM.pr hI
  generalize hS : MVSt v = S at *
  obtain ⟨S2, e2⟩ : ∃ S2, S2 = upd (upd (upd (upd (upd S (140 + 9 * aJ g + 0) o) (140 + 9 * aJ g + 1) (nI p)) (140 + 9 * aJ g + 2) n) (140 + 9 * aJ g + 3) 0) 2 (nI (aJ g + 1)) := ⟨_, rfl⟩
  have gS2 : gM S2 = gM S := by
    rw [e2, gM_lo (by omega) (by omega) (by omega), gM_hi (by decide), gM_hi (by decide), gM_hi (by decide), gM_hi (by decide)]
  have j0 : jf S2 0 = upd (jf S 0) (aJ g) o := by
    rw [e2, jf_lo (by omega), jf_ne (by decide) (by decide) (by decide), jf_ne (by decide) (by decide) (by decide), jf_ne (by decide) (by decide) (by decide), jf_same]
  have j1 : jf S2 1 = upd (jf S 1) (aJ g) (nI p) := by
    rw [e2, jf_lo (by omega), jf_ne (by decide) (by decide) (by decide), jf_ne (by decide) (by decide) (by decide), jf_same, jf_ne (by decide) (by decide) (by decide)]
  have j2 : jf S2 2 = upd (jf S 2) (aJ g) n := by
    rw [e2, jf_lo (by omega), jf_ne (by decide) (by decide) (by decide), jf_same, jf_ne (by decide) (by decide) (by decide), jf_ne (by decide) (by decide) (by decide)]
  have j3 : jf S2 3 = upd (jf S 3) (aJ g) 0 := by
    rw [e2, jf_lo (by omega), jf_same, jf_ne (by decide) (by decide) (by decide), jf_ne (by decide) (by decide) (by decide), jf_ne (by decide) (by decide) (by decide)]
  have j4 : jf S2 4 = jf S 4 := by
    rw [e2, jf_lo (by omega), jf_ne (by decide) (by decide) (by decide), jf_ne (by decide) (by decide) (by decide), jf_ne (by decide) (by decide) (by decide), jf_ne (by decide) (by decide) (by decide)]
  have jlo : ∀ n, n < 140 → n ≠ 2 → S2 n = S n := fun n h1 h2 => by
    rw [e2, upd_ne h2, upd_ne (by omega), upd_ne (by omega), upd_ne (by omega), upd_ne (by omega)]
  have s22 : S2 2 = nI (aJ g + 1) := by rw [e2, upd_eq]
  have hp1 : mprOK S2 (uf pr (aJ g) p) := fun k hk => by
    rw [j1]
    by_cases e : k = aJ g
    · subst e; rw [upd_eq, uf_eq]; exact ⟨rfl, by omega⟩
    · rw [upd_ne e, uf_ne e]; exact hpr k hk
  have hi : ∀ k, aJ g ∉ nds (aF g k) := fun k => hI.out (Nat.le_refl _)
  obtain ⟨st, m1, m2, m3, m4, m5, m6, m7, m8, m9⟩ := minsert_ok (v := MV_sSt v S2) (pr := uf pr (aJ g) p) (i := aJ g) (q := q) (F := aF g) hJ (by omega) (by rw [mSt, gS2]; exact hM.2.2.2.2.1) hI.ds hi (hI.2.2.1 q).1 hp1 (by rw [mSt, jlo _ (by omega) (by omega)]; exact (hM.2.2.2.1 q hq).1)
  have em : mg (uf pr (aJ g) p) (aF g q) (nd1 (aJ g)) = addM g q p := mg_congr (fun k hk => by
    by_cases e : k = aJ g
    · subst e; rw [uf_eq, uf_eq]
    · rw [uf_ne e, uf_ne e]
      exact hag k (hk.elim hI.lt (fun h => absurd (mem_nd1.mp h) e)))
  rw [mSt] at m3 m4 m5 m6 m7 m8
  rw [em] at m2 m4 m5 m9
  rw [gS2] at m3 m4 m5
  refine ⟨st, ?_, ⟨⟨?_, ?_, ?_⟩, fun i hi2 => ?_, fun i hi2 => ?_, fun k hk => ⟨?_, ?_, ?_⟩, m2, ?_, ?_⟩, fun n hn => ?_, fun n h1 h2 h3 h4 h5 => ?_⟩
  · unfold f_X9_addJob
    simp only [if_neg o2, cl2]
    rw [hS, hM.1.2.2, set_0 hJ, bnd2_some, set_1 hJ, bnd2_some, set_2 hJ, bnd2_some, set_3 hJ, bnd2_some]
    simp only [sS, mSt, hS]
    have e9 : upd (upd (upd (upd S (140 + 9 * aJ g + 0) o) (140 + 9 * aJ g + 1) (nI p)) (140 + 9 * aJ g + 2) n) (140 + 9 * aJ g + 3) 0 2 + 1 = nI (aJ g + 1) := by
      rw [upd_ne (by omega), upd_ne (by omega), upd_ne (by omega), upd_ne (by omega), hM.1.2.2, nI_1]
    rw [e9, ← e2, m1]
    rfl
  · rw [m8 0 (by omega) (by omega) (by omega) (by omega), jlo 0 (by omega) (by omega)]; exact hM.1.1
  · rw [m8 1 (by omega) (by omega) (by omega) (by omega), jlo 1 (by omega) (by omega)]; exact hM.1.2.1
  · rw [m8 2 (by omega) (by omega) (by omega) (by omega)]; exact s22
  · have hi3 : i < aJ g + 1 := hi2
    show jf st 0 i = uf (aOw g) (aJ g) o i ∧ jf st 1 i = nI (uf (aPr g) (aJ g) p i) ∧ jf st 2 i = uf (aPg g) (aJ g) n i ∧ jf st 3 i = nI (uf (aFt g) (aJ g) 0 i) ∧ (uf (aFt g) (aJ g) 0 i = 0 → jf st 4 i = nI (uf (aQu g) (aJ g) q i)) ∧ (uf (aFt g) (aJ g) 0 i ≠ 0 → out (gM st) i)
    rw [m6 0 (by omega), m6 1 (by omega), m6 2 (by omega), m6 3 (by omega), m7, j0, j1, j2, j3, j4]
    by_cases e : i = aJ g
    · subst e
      simp only [upd_eq, uf_eq]
      exact ⟨trivial, trivial, trivial, nI_0.symm, fun _ => trivial, fun h => absurd rfl h⟩
    · simp only [upd_ne e, uf_ne e]
      obtain ⟨e1, e2, e3, e4, e5, e6⟩ := hM.2.1 i (by omega)
      exact ⟨e1, e2, e3, e4, e5, fun hf => out_congr (m3 i e (hI.off hf)) (e6 hf)⟩
  · rw [m6 1 (by omega)]
    exact ⟨_, hp1 i hi2⟩
  · show st (10 + 11 * k + 9) = hv (uf (aF g) q (addM g q p).1 k)
    by_cases e : k = q
    · subst e; rw [uf_eq]; exact m9
    · rw [uf_ne e, m8 _ (by omega) (by omega) (by omega) (by omega), jlo _ (by omega) (by omega)]
      exact (hM.2.2.2.1 k hk).1
  · rw [m8 _ (by omega) (by omega) (by omega) (by omega), jlo _ (by omega) (by omega)]
    exact (hM.2.2.2.1 k hk).2.1
  · rw [m8 _ (by omega) (by omega) (by omega) (by omega), jlo _ (by omega) (by omega)]
    exact (hM.2.2.2.1 k hk).2.2
  · show st 3 = aCm g + nI (addM g q p).2.1
    rw [← hM.2.2.2.2.2.1]
    exact m4
  · show st 4 = aSw g + nI (addM g q p).2.2
    rw [← hM.2.2.2.2.2.2]
    exact m5
  · rw [m8 n hn.1 hn.2.2.1 hn.2.2.2.1 (hn.2.2.2.2 q (by omega)).2.1]
    exact jlo n hn.1 hn.2.1
  · rw [m8 n h1 h3 h4 h5]
    exact jlo n h1 h2
theorem maddJob_ok {u : GU} {g : GS} {v : MV} {q p : Nat} {o n : Int32} (hI : GI u g) (hM : MS u g (MVSt v)) (hJ : aJ g < 40) (hq : q < uQ u) (hp : p < 100) :
    ∃ st, f_X9_addJob v (nI q) o (nI p) n = some (nI (aJ g), MV_sSt v st) ∧ MS u (addG g q o p n) st ∧ frS (MVSt v) st := by
  obtain ⟨st, h1, h2, h3, -⟩ := maddJob_ok2 (o := o) (n := n) hI hM hJ hq hp
  exact ⟨st, h1, h2, h3⟩
theorem mtake_ok {u : GU} {g : GS} {v : MV} {i : Nat} (hI : GI u g) (hM : MS u g (MVSt v)) (hi : i < aJ g) (hf : aFt g i = 0) :
    ∃ st, f_X9_remove v (nI i) = some ((), MV_sSt v st) ∧ FR (gM st) (reF g i) ∧ (∀ j, j ∉ nds (aF g (aQu g i)) → eqG (gM (MVSt v)) (gM st) j) ∧ out (gM st) i ∧ st 3 = aCm g + nI (endM g i).2.1 ∧ st 4 = aSw g + nI (endM g i).2.2 ∧ frR (aQu g i) (MVSt v) st ∧ st (10 + 11 * aQu g i + 9) = hv (endM g i).1 := by
  obtain ⟨pr, hpr, hag⟩ := hM.pr hI
  have hin := hI.inn hi hf
  have hF := hM.2.2.2.2.1
  have hq := (hI.2.2.2.2.1 i hi).1 hf
  have hQ := hI.2.1.2
  obtain ⟨st, h1, h2, h3, h4⟩ := remove_ok (v := v) (hF (aQu g i)).1 (hF (aQu g i)).2 (hI.2.2.1 _).1 hin hpr (by omega) ((hM.2.1 i hi).2.2.2.2.1 hf) (hM.2.2.2.1 _ hq).1
  have em : rmT pr i (aF g (aQu g i)) = endM g i := rm_congr hin (fun k hk => hag k (hI.lt hk))
  have hfr := FR_rm hF hI.ds h2
  have hc := h2.2.2.2.2
  rw [em] at h4 hfr hc
  refine ⟨st, h1, hfr, h2.2.2.1, h2.2.2.2.1, ?_, ?_, h3, h4⟩
  · rw [← hM.2.2.2.2.2.1]; exact hc.1
  · rw [← hM.2.2.2.2.2.2]; exact hc.2
/-- the end of a job, on the reference's row: taken out, its fate told -/
theorem mend_ok {u : GU} {g : GS} {v : MV} {i b : Nat} (hI : GI u g) (hM : MS u g (MVSt v)) (hi : i < aJ g) (hf : aFt g i = 0) (hb : b = 1 ∨ b = 2) :
    ∃ st, f_X9_remove v (nI i) = some ((), MV_sSt v st) ∧ ∀ S, (S = (if b = 1 then upd (upd st (140 + 9 * i + 3) (nI b)) (10 + 11 * aQu g i + 10) (aPd g (aQu g i) + aPg g i) else upd st (140 + 9 * i + 3) (nI b))) → MS u (endG g i b) S ∧ frS (MVSt v) S := by
  obtain ⟨st, h1, h2, h3, h4, h5, h6, h7, h8⟩ := mtake_ok hI hM hi hf
  have hq := (hI.2.2.2.2.1 i hi).1 hf
  have hQ := hI.2.1.2
  have hJ := hI.1
  refine ⟨st, h1, fun S hS => ?_⟩
  have gS' : gM S = gM st := by
    rw [hS]
    split
    · rw [gM_lo (by omega) (by omega) (by omega), gM_hi (by decide)]
    · rw [gM_hi (by decide)]
  have jS : ∀ k, k < 5 → k ≠ 3 → jf S k = jf (MVSt v) k := fun k hk h => by
    rw [← h7.1 k hk, hS]
    split
    · rw [jf_lo (by omega), jf_ne (by omega) (by omega) (by omega)]
    · rw [jf_ne (by omega) (by omega) (by omega)]
  have j3 : jf S 3 = upd (jf (MVSt v) 3) i (nI b) := by
    rw [← h7.1 3 (by decide), hS]
    split
    · rw [jf_lo (by omega), jf_same]
    · rw [jf_same]
  have lo : ∀ n, n < 140 → n ≠ 10 + 11 * aQu g i + 10 → S n = st n := fun n h e => by
    rw [hS]
    split
    · rw [upd_ne e, upd_ne (by omega)]
    · rw [upd_ne (by omega)]
  refine ⟨⟨⟨?_, ?_, ?_⟩, fun j hj => ?_, fun j hj => ?_, fun k hk => ⟨?_, ?_, ?_⟩, ?_, ?_, ?_⟩, fun n hn => ?_⟩
  · rw [lo 0 (by omega) (by omega), h7.2 0 (by omega) (by omega) (by omega) (by omega)]; exact hM.1.1
  · rw [lo 1 (by omega) (by omega), h7.2 1 (by omega) (by omega) (by omega) (by omega)]; exact hM.1.2.1
  · rw [lo 2 (by omega) (by omega), h7.2 2 (by omega) (by omega) (by omega) (by omega)]; exact hM.1.2.2
  · show jf S 0 j = aOw g j ∧ jf S 1 j = nI (aPr g j) ∧ jf S 2 j = aPg g j ∧ jf S 3 j = nI (uf (aFt g) i b j) ∧ (uf (aFt g) i b j = 0 → jf S 4 j = nI (aQu g j)) ∧ (uf (aFt g) i b j ≠ 0 → out (gM S) j)
    rw [jS 0 (by omega) (by omega), jS 1 (by omega) (by omega), jS 2 (by omega) (by omega), jS 4 (by omega) (by omega), j3, gS']
    obtain ⟨e1, e2, e3, e4, e5, e6⟩ := hM.2.1 j hj
    by_cases e : j = i
    · subst e
      simp only [upd_eq, uf_eq]
      exact ⟨e1, e2, e3, trivial, fun h => by omega, fun _ => h4⟩
    · simp only [upd_ne e, uf_ne e]
      exact ⟨e1, e2, e3, e4, e5, fun hf2 => out_congr (h3 j (hI.off hf2)) (e6 hf2)⟩
  · rw [jS 1 (by omega) (by omega)]
    exact hM.2.2.1 j hj
  · show S (10 + 11 * k + 9) = hv (uf (aF g) (aQu g i) (endM g i).1 k)
    rw [lo _ (by omega) (by omega)]
    by_cases e : k = aQu g i
    · subst e; rw [uf_eq]; exact h8
    · rw [uf_ne e, h7.2 _ (by omega) (by omega) (by omega) (by omega)]
      exact (hM.2.2.2.1 k hk).1
  · show S (10 + 11 * k + 10) = (if b = 1 then uf (aPd g) (aQu g i) (aPd g (aQu g i) + aPg g i) else aPd g) k
    rw [hS]
    by_cases c : b = 1
    · rw [if_pos c, if_pos c]
      by_cases e : k = aQu g i
      · subst e; rw [upd_eq, uf_eq]
      · rw [upd_ne (by omega), upd_ne (by omega), uf_ne e, h7.2 _ (by omega) (by omega) (by omega) (by omega)]
        exact (hM.2.2.2.1 k hk).2.1
    · rw [if_neg c, if_neg c, upd_ne (by omega), h7.2 _ (by omega) (by omega) (by omega) (by omega)]
      exact (hM.2.2.2.1 k hk).2.1
  · rw [lo _ (by omega) (by omega), h7.2 _ (by omega) (by omega) (by omega) (by omega)]
    exact (hM.2.2.2.1 k hk).2.2
  · show FR (gM S) (reF g i)
    rw [gS']; exact h2
  · rw [lo 3 (by omega) (by omega)]; exact h5
  · rw [lo 4 (by omega) (by omega)]; exact h6
  · rw [lo n hn.1 (hn.2.2.2.2 _ (by omega)).2.2, h7.2 n hn.1 hn.2.2.1 hn.2.2.2.1 (hn.2.2.2.2 _ (by omega)).2.1]
/-- a job taken out and put back: into the queue q, with the priority p (that its row has already, or gets between) -/
theorem mre_ok {u : GU} {g : GS} {v : MV} {i q p : Nat} (hI : GI u g) (hM : MS u g (MVSt v)) (hi : i < aJ g) (hf : aFt g i = 0) (hq : q < uQ u) (hp : p < 100) :
    ∃ st, f_X9_remove v (nI i) = some ((), MV_sSt v st) ∧ ∀ S, (S = upd st (140 + 9 * i + 1) (nI p) ∨ (S = st ∧ p = aPr g i)) → ∃ S', f_X9_insert (MV_sSt v S) (nI q) (nI i) = some ((), MV_sSt v S') ∧ MS u (reG g i q p) S' ∧ frS (MVSt v) S' := by
  obtain ⟨st, h1, h2, h3, h4, h5, h6, h7, h8⟩ := mtake_ok hI hM hi hf
  obtain ⟨pr, hpr, hag⟩ := hM.pr hI
  have hq0 := (hI.2.2.2.2.1 i hi).1 hf
  have hQ := hI.2.1.2
  have hJ := hI.1
  have i40 : i < 40 := by omega
  have hout : ∀ k, i ∉ nds (reF g i k) := fun k h => (((hI.rm hi hf k).2.2.2 i).mp h).2 rfl
  have hds : dsF (reF g i) := fun k k' e j m1 m2 => hI.ds k k' e j (((hI.rm hi hf k).2.2.2 j).mp m1).1 (((hI.rm hi hf k').2.2.2 j).mp m2).1
  refine ⟨st, h1, fun S hS => ?_⟩
  have gS' : gM S = gM st := by
    rcases hS with e | e
    · rw [e, gM_hi (by decide)]
    · rw [e.1]
  have jS : ∀ k, k < 5 → k ≠ 1 → jf S k = jf (MVSt v) k := fun k hk h => by
    rw [← h7.1 k hk]
    rcases hS with e | e
    · rw [e, jf_ne (by omega) (by omega) (by omega)]
    · rw [e.1]
  have lo : ∀ n, n < 140 → S n = st n := fun n h => by
    rcases hS with e | e
    · rw [e, upd_ne (by omega)]
    · rw [e.1]
  have j1 : jf S 1 = upd (jf (MVSt v) 1) i (nI p) := by
    rw [← h7.1 1 (by decide)]
    rcases hS with e | e
    · rw [e, jf_same]
    · rw [e.1, upd_same]
      rw [congrFun (h7.1 1 (by decide)) i, e.2]
      exact (hM.2.1 i hi).2.1
  have hp1 : mprOK S (uf pr i p) := fun k hk => by
    rw [j1]
    by_cases e : k = i
    · subst e; rw [upd_eq, uf_eq]; exact ⟨rfl, by omega⟩
    · rw [upd_ne e, uf_ne e]; exact hpr k hk
  have hro : S (10 + 11 * q + 9) = hv (reF g i q) := by
    rw [lo _ (by omega)]
    unfold reF
    by_cases e : q = aQu g i
    · subst e; rw [uf_eq]; exact h8
    · rw [uf_ne e, h7.2 _ (by omega) (by omega) (by omega) (by omega)]
      exact (hM.2.2.2.1 q hq).1
  obtain ⟨S', m1, m2, m3, m4, m5, m6, m7, m8, m9⟩ := minsert_ok (v := MV_sSt v S) (pr := uf pr i p) (i := i) (q := q) (F := reF g i) i40 (by omega) (by rw [mSt, gS']; exact h2) hds hout (hI.rm hi hf q).1 hp1 hro
  have em : mg (uf pr i p) (reF g i q) (nd1 i) = reM g i q p := mg_congr (fun k hk => by
    by_cases e : k = i
    · subst e; rw [uf_eq, uf_eq]
    · rw [uf_ne e, uf_ne e]
      exact hag k (hk.elim (fun h => hI.lt (((hI.rm hi hf q).2.2.2 k).mp h).1) (fun h => absurd (mem_nd1.mp h) e)))
  rw [mSt] at m3 m4 m5 m6 m7 m8
  rw [em] at m2 m4 m5 m9
  rw [gS'] at m3 m4 m5
  have lo2 : ∀ n, n < 140 → n ≠ 3 → n ≠ 4 → n ≠ 10 + 11 * q + 9 → n ≠ 10 + 11 * aQu g i + 9 → S' n = MVSt v n := fun n e1 e2 e3 e4 e5 => by
    rw [m8 n e1 e2 e3 e4, lo n e1, h7.2 n e1 e2 e3 e5]
  refine ⟨S', m1, ⟨⟨?_, ?_, ?_⟩, fun j hj => ?_, fun j hj => ?_, fun k hk => ⟨?_, ?_, ?_⟩, m2, ?_, ?_⟩, fun n hn => ?_⟩
  · rw [lo2 0 (by omega) (by omega) (by omega) (by omega) (by omega)]; exact hM.1.1
  · rw [lo2 1 (by omega) (by omega) (by omega) (by omega) (by omega)]; exact hM.1.2.1
  · rw [lo2 2 (by omega) (by omega) (by omega) (by omega) (by omega)]; exact hM.1.2.2
  · show jf S' 0 j = aOw g j ∧ jf S' 1 j = nI (uf (aPr g) i p j) ∧ jf S' 2 j = aPg g j ∧ jf S' 3 j = nI (aFt g j) ∧ (aFt g j = 0 → jf S' 4 j = nI (uf (aQu g) i q j)) ∧ (aFt g j ≠ 0 → out (gM S') j)
    rw [m6 0 (by omega), m6 1 (by omega), m6 2 (by omega), m6 3 (by omega), m7, jS 0 (by omega) (by omega), j1, jS 2 (by omega) (by omega), jS 3 (by omega) (by omega), jS 4 (by omega) (by omega)]
    obtain ⟨e1, e2, e3, e4, e5, e6⟩ := hM.2.1 j hj
    by_cases e : j = i
    · subst e
      simp only [upd_eq, uf_eq]
      exact ⟨e1, trivial, e3, e4, fun _ => trivial, fun h => absurd hf h⟩
    · simp only [upd_ne e, uf_ne e]
      refine ⟨e1, e2, e3, e4, e5, fun hf2 => out_congr ((h3 j (hI.off hf2)).tr (m3 j e (fun hm => hI.off hf2 (((hI.rm hi hf q).2.2.2 j).mp hm).1))) (e6 hf2)⟩
  · rw [m6 1 (by omega)]
    exact ⟨_, hp1 j hj⟩
  · show S' (10 + 11 * k + 9) = hv (uf (reF g i) q (reM g i q p).1 k)
    by_cases e : k = q
    · subst e; rw [uf_eq]; exact m9
    · rw [uf_ne e, m8 _ (by omega) (by omega) (by omega) (by omega), lo _ (by omega)]
      unfold reF
      by_cases e : k = aQu g i
      · subst e; rw [uf_eq]; exact h8
      · rw [uf_ne e, h7.2 _ (by omega) (by omega) (by omega) (by omega)]
        exact (hM.2.2.2.1 k hk).1
  · rw [lo2 _ (by omega) (by omega) (by omega) (by omega) (by omega)]
    exact (hM.2.2.2.1 k hk).2.1
  · rw [lo2 _ (by omega) (by omega) (by omega) (by omega) (by omega)]
    exact (hM.2.2.2.1 k hk).2.2
  · show S' 3 = aCm g + nI (endM g i).2.1 + nI (reM g i q p).2.1
    rw [← h5]
    exact m4
  · show S' 4 = aSw g + nI (endM g i).2.2 + nI (reM g i q p).2.2
    rw [← h6]
    exact m5
  · exact lo2 n hn.1 hn.2.2.1 hn.2.2.2.1 (hn.2.2.2.2 q (by omega)).2.1 (hn.2.2.2.2 _ (by omega)).2.1
theorem setP_ok {u : GU} {g : GS} {v : MV} {i p : Nat} (hI : GI u g) (hM : MS u g (MVSt v)) (hi : i < aJ g) (hf : aFt g i = 0) (hp : p < 100) :
    ∃ st, f_X9_setPriority v (nI i) (nI p) = some (nI (aPr g i), MV_sSt v st) ∧ MS u (reG g i (aQu g i) p) st ∧ frS (MVSt v) st := by
  have hJ := hI.1
  have i40 : i < 40 := by omega
  have hq := (hI.2.2.2.2.1 i hi).1 hf
  obtain ⟨st, h1, h2⟩ := mre_ok (q := aQu g i) (p := p) hI hM hi hf hq hp
  obtain ⟨S', k1, k2, k3⟩ := h2 _ (Or.inl rfl)
  refine ⟨S', ?_, k2, k3⟩
  unfold f_X9_setPriority
  rw [get_1 i40, Option.bind_some, get_4 i40, Option.bind_some, h1, bnd2_some, set_1 i40, bnd2_some, (hM.2.1 i hi).2.2.2.2.1 hf, sS, mSt, k1, bnd2_some, (hM.2.1 i hi).2.1]
theorem moveTo_ok {u : GU} {g : GS} {v : MV} {i q : Nat} (hI : GI u g) (hM : MS u g (MVSt v)) (hi : i < aJ g) (hf : aFt g i = 0) (hq : q < uQ u) :
    ∃ st, f_X9_moveTo v (nI i) (nI q) = some (hv (aF (reG g i q (aPr g i)) q), MV_sSt v st) ∧ MS u (reG g i q (aPr g i)) st ∧ frS (MVSt v) st := by
  have hQ := hI.2.1.2
  obtain ⟨st, h1, h2⟩ := mre_ok (q := q) (p := aPr g i) hI hM hi hf hq (hI.2.2.2.2.1 i hi).2.1
  obtain ⟨S', k1, k2, k3⟩ := h2 _ (Or.inr ⟨rfl, rfl⟩)
  refine ⟨S', ?_, k2, k3⟩
  unfold f_X9_moveTo
  rw [h1, bnd2_some, k1, bnd2_some, rootOf_ok (by omega), Option.bind_some, mSt, (k2.2.2.2.1 q hq).1]
theorem isIn_ok {u : GU} {g : GS} {v : MV} {i : Nat} {b : Nat} (hI : GI u g) (hi : i < aJ g) (hb : b < 6) (h3 : jf (MVSt v) 3 i = nI (aFt g i)) {c : Nat} (h4 : aFt g i = 0 → jf (MVSt v) 4 i = nI c) (hc : aFt g i = 0 → c < 6) : f_X9_isIn v (nI i) (nI b) = some (if aFt g i = 0 ∧ c = b then 1 else 0) := by
  have hJ := hI.1
  have i40 : i < 40 := by omega
  have h5 := hI.2.2.2.2.1 i hi
  unfold f_X9_isIn f_X9_waits
  rw [get_3 i40, Option.bind_some, h3]
  by_cases hf : aFt g i = 0
  · rw [hf, if_pos nI_0, Option.bind_some, if_neg n10, get_4 i40, Option.bind_some, h4 hf]
    have := hc hf
    by_cases e : c = b
    · subst e; rw [if_pos rfl, if_pos ⟨rfl, rfl⟩]
    · rw [if_neg (fun h => e ((nI_eq (by omega) (by omega)).mp h)), if_neg (fun h => e h.2)]
  · rw [if_neg (nI_ne0 (by omega) (by omega)), Option.bind_some, if_pos rfl, if_neg (fun h => hf h.1)]
theorem mjoin_h {u : GU} {g : GS} {a b : Nat} (hI : GI u g) (ha : a < 6) (hb : b < 6) (hab : a ≠ b) : ∀ (m n k : Nat) (v : MV), aJ g - k = m → m < n → k ≤ aJ g → MVSt v 2 = nI (aJ g) → (∀ i, i < aJ g → jf (MVSt v) 3 i = nI (aFt g i) ∧ (aFt g i = 0 → jf (MVSt v) 4 i = nI (if i < k ∧ aQu g i = a then b else aQu g i))) →
    ∃ st, f_X9_mergeInto_h2 n (nI a) (nI b) (nI k) v = f_X9_mergeInto_h2 1 (nI a) (nI b) (nI (aJ g)) (MV_sSt v st) ∧ (∀ i, i < aJ g → aFt g i = 0 → jf st 4 i = nI (if aQu g i = a then b else aQu g i)) ∧ (∀ k, k < 9 → k ≠ 4 → jf st k = jf (MVSt v) k) ∧ (∀ n, n < 140 → st n = MVSt v n) := by
  intro m
  have hJ := hI.1
  have hQ := hI.2.1.2
  induction m with
  | zero =>
    intro n k v hm hn hk hj hQ
    obtain ⟨n, rfl⟩ : ∃ m, n = m + 1 := ⟨n - 1, by omega⟩
    have : k = aJ g := by omega
    subst this
    refine ⟨MVSt v, ?_, fun i hi hf => ?_, fun _ _ _ => rfl, fun _ _ => rfl⟩
    · have e2 : f_X9_mergeInto_h2 1 (nI a) (nI b) (nI (aJ g)) v = f_X9_mergeInto_h2 (n + 1) (nI a) (nI b) (nI (aJ g)) v := by
        show f_X9_mergeInto_h2 (0 + 1) (nI a) (nI b) (nI (aJ g)) v = f_X9_mergeInto_h2 (n + 1) (nI a) (nI b) (nI (aJ g)) v
        unfold f_X9_mergeInto_h2
        simp only [cl2, if_neg o2, hj, if_pos (nI_le (a := aJ g) (b := aJ g) (Nat.le_refl _) (by omega))]
      exact e2.symm
    · rw [(hQ i hi).2 hf]
      simp only [hi, true_and]
  | succ m ih =>
    intro n k v hm hn hk hj hQ2
    obtain ⟨n, rfl⟩ : ∃ m, n = m + 1 := ⟨n - 1, by omega⟩
    have hk2 : k < aJ g := by omega
    have k40 : k < 40 := by omega
    have h5 := hI.2.2.2.2.1 k hk2
    have key : f_X9_isIn v (nI k) (nI a) = some (if aFt g k = 0 ∧ aQu g k = a then 1 else 0) := by
      refine isIn_ok hI hk2 ha (hQ2 k hk2).1 (fun hf => ?_) (fun hf => by have := h5.1 hf; omega)
      rw [(hQ2 k hk2).2 hf, if_neg (fun h => Nat.lt_irrefl _ h.1)]
    rw [f_X9_mergeInto_h2]
    simp only [cl2]
    rw [hj]
    simp only [if_neg o2]
    rw [if_neg (nI_ge hk2 (by omega)), key, Option.bind_some, nI_1]
    by_cases c : aFt g k = 0 ∧ aQu g k = a
    · rw [if_pos c, if_neg n10, set_4 k40, bnd2_some]
      obtain ⟨st, h1, h2, h3, h4⟩ := ih n (k + 1) (MV_sSt v (upd (MVSt v) (140 + 9 * k + 4) (nI b))) (by omega) (by omega) hk2 (by rw [mSt, upd_ne (by omega)]; exact hj) (fun i hi => by
        rw [mSt, jf_ne (by decide) (by decide) (by decide), jf_same]
        refine ⟨(hQ2 i hi).1, fun hf => ?_⟩
        by_cases e : i = k
        · subst e
          rw [upd_eq, if_pos ⟨Nat.lt_succ_self _, c.2⟩]
        · rw [upd_ne e, (hQ2 i hi).2 hf]
          have : (i < k ∧ aQu g i = a) ↔ (i < k + 1 ∧ aQu g i = a) := ⟨fun h => ⟨by omega, h.2⟩, fun h => ⟨by omega, h.2⟩⟩
          simp only [this])
      refine ⟨st, h1, h2, fun x hx hx4 => ?_, fun x hx => ?_⟩
      · rw [h3 x hx hx4, mSt, jf_ne (by omega) (by omega) (by omega)]
      · rw [h4 x hx, mSt, upd_ne (by omega)]
    · rw [if_neg c, if_pos rfl]
      exact ih n (k + 1) v (by omega) (by omega) hk2 hj (fun i hi => by
        refine ⟨(hQ2 i hi).1, fun hf => ?_⟩
        rw [(hQ2 i hi).2 hf]
        by_cases e : i = k
        · subst e
          rw [if_neg (fun h => Nat.lt_irrefl _ h.1), if_neg (fun h => c ⟨hf, h.2⟩)]
        · have : (i < k ∧ aQu g i = a) ↔ (i < k + 1 ∧ aQu g i = a) := ⟨fun h => ⟨by omega, h.2⟩, fun h => ⟨by omega, h.2⟩⟩
          simp only [this])
theorem mergeInto_ok {u : GU} {g : GS} {v : MV} {a b : Nat} (hI : GI u g) (hM : MS u g (MVSt v)) (ha : a < uQ u) (hb : b < uQ u) (hab : a ≠ b) :
    ∃ st, f_X9_mergeInto v (nI a) (nI b) = (f_X9_sizeOf (MV_sSt v st) (nI b)).bind (fun r => some (r, MV_sSt v st)) ∧ MS u (joG g a b) st ∧ frS (MVSt v) st := by
  have hQ := hI.2.1.2
  have hJ := hI.1
  obtain ⟨st1, h1, h2, h3, h4⟩ := mjoin_h hI (a := a) (b := b) (by omega) (by omega) hab (aJ g - 0) FU 0 v rfl (by have : FU = 5000 := rfl; omega) (Nat.zero_le _) hM.1.2.2 (fun i hi => ⟨(hM.2.1 i hi).2.2.2.1, fun hf => by
    rw [(hM.2.1 i hi).2.2.2.2.1 hf, if_neg (show ¬ (i < 0 ∧ aQu g i = a) from fun h => Nat.not_lt_zero _ h.1)]⟩)
  have g1 : gM st1 = gM (MVSt v) := by
    unfold gM
    rw [h3 5 (by decide) (by decide), h3 6 (by decide) (by decide), h3 7 (by decide) (by decide), h3 8 (by decide) (by decide), h4 3 (by decide), h4 4 (by decide)]
  obtain ⟨pr, hpr, hag⟩ := hM.pr hI
  have hF := hM.2.2.2.2.1
  have hp1 : mprOK st1 pr := fun k hk => by rw [h3 1 (by decide) (by decide)]; exact hpr k hk
  obtain ⟨st2, st3, m1, m2, m3, m4, m5, m6⟩ := mgroot_ok (v := MV_sSt v st1) (pr := pr) (q := b) (a := aF g b) (b := aF g a) (by rw [mSt, g1]; exact (hF b).1) (by rw [mSt, g1]; exact (hF a).1) (hI.2.2.1 b).1 (hI.2.2.1 a).1 (hI.ds b a (fun e => hab e.symm)) hp1 (by omega)
  have em : mg pr (aF g b) (aF g a) = joM g a b := by
    rw [mg_comm (hI.ds b a (fun e => hab e.symm))]
    exact mg_pr hI hag
  obtain ⟨st4, q1, q2, q3, q4, q5, q6, q7, q8, q9⟩ := setRoot_ok (v := MV_sSt v st3) (q := a) (m := .leaf ()) (by omega) (fun j hj => by simp [nds] at hj)
  rw [em] at m1 m2 m4 m6
  have c3 := m3.2.2
  have s3 := m3.1
  have e3 := m3.2.1
  rw [mSt] at m5 e3 c3 q2 q4 q5 q6 q7 q8 q9
  rw [em, g1] at c3
  rw [em] at s3
  rw [g1] at e3
  have g4 : gM st4 = gM st3 := by
    show (gL (gM st4), gR (gM st4), gU (gM st4), gK (gM st4), gC (gM st4), gS (gM st4)) = _
    rw [q4, q5, q6, q7, q8, q9]
    rfl
  have jS : ∀ k, k < 5 → k ≠ 4 → jf st4 k = jf (MVSt v) k := fun k hk h => by rw [q2.1 k hk, m5.1 k hk, h3 k (by omega) h]
  have j4 : jf st4 4 = jf st1 4 := by rw [q2.1 4 (by decide), m5.1 4 (by decide)]
  have lo : ∀ n, n < 140 → n ≠ 3 → n ≠ 4 → n ≠ 10 + 11 * a + 9 → n ≠ 10 + 11 * b + 9 → st4 n = MVSt v n := fun n e1 e2 e3 e4 e5 => by
    rw [q2.2 n e1 e2 e3 e4, m5.2 n e1 e2 e3 e5, h4 n e1]
  refine ⟨st4, ?_, ⟨⟨?_, ?_, ?_⟩, fun j hj => ?_, fun j hj => ?_, fun k hk => ⟨?_, ?_, ?_⟩, fun k => ?_, ?_, ?_⟩, fun n hn => ?_⟩
  · show f_X9_mergeInto_h2 FU (nI a) (nI b) 0 v = _
    have r1 : st1 (10 + 11 * b + 9) = hv (aF g b) := by rw [h4 _ (by omega)]; exact (hM.2.2.2.1 b hb).1
    have r2 : st1 (10 + 11 * a + 9) = hv (aF g a) := by rw [h4 _ (by omega)]; exact (hM.2.2.2.1 a ha).1
    rw [show (0 : Int32) = nI 0 from rfl, h1, f_X9_mergeInto_h2]
    simp only [cl2, if_neg o2]
    rw [mSt, h4 2 (by decide), hM.1.2.2, if_pos (nI_le (Nat.le_refl _) (by omega)), rootOf_ok (by omega), Option.bind_some, rootOf_ok (by omega), Option.bind_some, mSt, r1, r2, m1, bnd2_some, m2, bnd2_some, show (-1 : Int32) = hv (.leaf ()) from rfl]
    have q1' : f_X9_setRoot (MV_sSt (MV_sSt v st1) st3) (nI a) (hv (.leaf ())) = some ((), MV_sSt v st4) := q1
    rw [q1', bnd2_some]
  · rw [lo 0 (by omega) (by omega) (by omega) (by omega) (by omega)]; exact hM.1.1
  · rw [lo 1 (by omega) (by omega) (by omega) (by omega) (by omega)]; exact hM.1.2.1
  · rw [lo 2 (by omega) (by omega) (by omega) (by omega) (by omega)]; exact hM.1.2.2
  · show jf st4 0 j = aOw g j ∧ jf st4 1 j = nI (aPr g j) ∧ jf st4 2 j = aPg g j ∧ jf st4 3 j = nI (aFt g j) ∧ (aFt g j = 0 → jf st4 4 j = nI (if aFt g j = 0 ∧ aQu g j = a then b else aQu g j)) ∧ (aFt g j ≠ 0 → out (gM st4) j)
    rw [jS 0 (by omega) (by omega), jS 1 (by omega) (by omega), jS 2 (by omega) (by omega), jS 3 (by omega) (by omega), j4, g4]
    obtain ⟨e1, e2, e3', e4, e5, e6⟩ := hM.2.1 j hj
    refine ⟨e1, e2, e3', e4, fun hf => ?_, fun hf => out_congr (e3 j (hI.off hf) (hI.off hf)) (e6 hf)⟩
    rw [h2 j hj hf]
    simp only [hf, true_and]
  · rw [jS 1 (by omega) (by omega)]
    exact hM.2.2.1 j hj
  · show st4 (10 + 11 * k + 9) = hv (uf (uf (aF g) b (joM g a b).1) a (.leaf ()) k)
    by_cases e : k = a
    · subst e; rw [uf_eq]; exact q3
    · rw [uf_ne e, q2.2 _ (by omega) (by omega) (by omega) (by omega)]
      by_cases e2 : k = b
      · subst e2; rw [uf_eq]; exact m6
      · rw [uf_ne e2, m5.2 _ (by omega) (by omega) (by omega) (by omega), h4 _ (by omega)]
        exact (hM.2.2.2.1 k hk).1
  · rw [lo _ (by omega) (by omega) (by omega) (by omega) (by omega)]
    exact (hM.2.2.2.1 k hk).2.1
  · rw [lo _ (by omega) (by omega) (by omega) (by omega) (by omega)]
    exact (hM.2.2.2.1 k hk).2.2
  · show sub (gM st4) (uf (uf (aF g) b (joM g a b).1) a (.leaf ()) k) ∧ upK (gM st4) (uf (uf (aF g) b (joM g a b).1) a (.leaf ()) k) (-1)
    rw [g4]
    by_cases e : k = a
    · subst e
      rw [uf_eq]
      exact ⟨True.intro, True.intro⟩
    · rw [uf_ne e]
      by_cases e2 : k = b
      · subst e2
        rw [uf_eq]
        exact ⟨s3, m4⟩
      · rw [uf_ne e2]
        exact FR_keep (fun j hj => e3 j (fun h => hI.ds k b e2 j hj h) (fun h => hI.ds k a e j hj h)) (hF k)
  · show st4 3 = aCm g + nI (joM g a b).2.1
    rw [← hM.2.2.2.2.2.1]
    exact (congrArg gC g4).trans c3.1
  · show st4 4 = aSw g + nI (joM g a b).2.2
    rw [← hM.2.2.2.2.2.2]
    exact (congrArg gS g4).trans c3.2
  · exact lo n hn.1 hn.2.2.1 hn.2.2.2.1 (hn.2.2.2.2 a (by omega)).2.1 (hn.2.2.2.2 b (by omega)).2.1
theorem pause_ok {u : GU} {g : GS} {v : MV} {q : Nat} {b : Bool} (hI : GI u g) (hM : MS u g (MVSt v)) (hq : q < uQ u) :
    ∃ st, f_X9_pause v (nI q) (b2i b) = some (b2i (aPs g q), MV_sSt v st) ∧ MS u (paG g q b) st ∧ frS (MVSt v) st := by
  have hQ := hI.2.1.2
  have hone : f_X9_one (b2i b) = some (b2i b) := by cases b <;> rfl
  refine ⟨upd (MVSt v) (10 + 11 * q + 8) (b2i b), ?_, ⟨⟨?_, ?_, ?_⟩, fun j hj => ?_, fun j hj => ?_, fun k hk => ⟨?_, ?_, ?_⟩, ?_, ?_, ?_⟩, fun n hn => ?_⟩
  · unfold f_X9_pause f_X9_q
    have hx : 10 + 11 * q + 8 < 500 := by omega
    simp only [Option.bind_some, qadr, show nI (10 + 11 * q) + (8 : Int32) = nI (10 + 11 * q + 8) from nI_add _ 8, if_neg (o500 hx), c500 hx, hone, (hM.2.2.2.1 q hq).2.2]
    cases aPs g q
    · rw [if_neg (by decide)]; rfl
    · rw [if_pos (show b2i true = 1 from rfl)]; rfl
  · rw [upd_ne (by omega)]; exact hM.1.1
  · rw [upd_ne (by omega)]; exact hM.1.2.1
  · rw [upd_ne (by omega)]; exact hM.1.2.2
  · rw [jf_lo (by omega), jf_lo (by omega), jf_lo (by omega), jf_lo (by omega), jf_lo (by omega), gM_lo (by omega) (by omega) (by omega)]
    exact hM.2.1 j hj
  · rw [jf_lo (by omega)]
    exact hM.2.2.1 j hj
  · rw [upd_ne (by omega)]; exact (hM.2.2.2.1 k hk).1
  · rw [upd_ne (by omega)]; exact (hM.2.2.2.1 k hk).2.1
  · show upd (MVSt v) (10 + 11 * q + 8) (b2i b) (10 + 11 * k + 8) = b2i (uf (aPs g) q b k)
    by_cases e : k = q
    · subst e; rw [upd_eq, uf_eq]
    · rw [upd_ne (by omega), uf_ne e]; exact (hM.2.2.2.1 k hk).2.2
  · rw [gM_lo (by omega) (by omega) (by omega)]; exact hM.2.2.2.2.1
  · rw [upd_ne (by omega)]; exact hM.2.2.2.2.2.1
  · rw [upd_ne (by omega)]; exact hM.2.2.2.2.2.2
  · rw [upd_ne (hn.2.2.2.2 q (by omega)).1]
