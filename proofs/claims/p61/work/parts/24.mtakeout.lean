/-! ===== 24: the reference takes a job out ===== -/
theorem mclimb_ok : ∀ (K : Ctx) {t : Tr} {n : Nat} {v : MV} {l1 : Int32}, cx (gM (MVSt v)) K (hv t) → sub (gM (MVSt v)) t → upK (gM (MVSt v)) t (top K) → (nds t ++ cNds K).Nodup → cxL K < n →
    ∃ st, f_X9_repairUpwards_h2 n l1 (top K) v = some ((), MV_sSt v st) ∧ sub (gM st) (fixC K t).1 ∧ upK (gM st) (fixC K t).1 (-1) ∧ (∀ j, j ∉ nds t → j ∉ cNds K → eqG (gM (MVSt v)) (gM st) j) ∧ gC (gM st) = gC (gM (MVSt v)) ∧ gS (gM st) = gS (gM (MVSt v)) + nI (fixC K t).2 ∧ frM (MVSt v) st := by
  intro K
  induction K with
  | nil =>
    intro t n v l1 hc hs hu hn h1
    obtain ⟨n, rfl⟩ : ∃ m, n = m + 1 := ⟨n - 1, by omega⟩
    rw [f_X9_repairUpwards_h2, if_pos (show top [] = -1 from rfl)]
    exact ⟨MVSt v, rfl, hs, hu, fun _ _ _ => eqG.rf, rfl, (Int32.add_zero _).symm, frM.rf⟩
  | cons f K ih =>
    obtain ⟨b, j, s⟩ := f
    intro t n v l1 hc hs hu hn h1
    obtain ⟨n, rfl⟩ : ∃ m, n = m + 1 := ⟨n - 1, by omega⟩
    have hlt : ∀ x ∈ nds t ++ cNds ((b, j, s) :: K), x < 40 := fun x hx => (List.mem_append.mp hx).elim (sub_lt hs x) (cx_lt hc x)
    have hlen := nd_len hn hlt
    simp only [cNds, List.length_append, List.length_cons] at hlen
    obtain ⟨g1, g2, g3, g4, g5, g6, g7⟩ := hc
    simp only [cxL] at h1
    rw [f_X9_repairUpwards_h2, show top ((b, j, s) :: K) = nI j from rfl, if_neg (nI_m g1)]
    have main : ∀ (l m : Tr), jf (MVSt v) 5 j = hv l → jf (MVSt v) 6 j = hv m → upK (gM (MVSt v)) l (nI j) → upK (gM (MVSt v)) m (nI j) → sub (gM (MVSt v)) l → sub (gM (MVSt v)) m → (j :: (nds l ++ nds m) ++ cNds K).Nodup → (nds l).length + (nds m).length ≤ 40 → (∀ x, x ∉ nds t → x ∉ cNds ((b, j, s) :: K) → x ≠ j ∧ x ∉ nds l ∧ x ∉ nds m ∧ x ∉ cNds K) → fixC ((b, j, s) :: K) t = ((fixC K (fixT j l m)).1, swT l m + (fixC K (fixT j l m)).2) →
        ∃ st, (bnd2 (f_X9_repair v (nI j)) fun r3 w4 => (f_X9_get w4 (nI j) 7).bind fun r6 => f_X9_repairUpwards_h2 n l1 r6 w4) = some ((), MV_sSt v st) ∧ sub (gM st) (fixC ((b, j, s) :: K) t).1 ∧ upK (gM st) (fixC ((b, j, s) :: K) t).1 (-1) ∧ (∀ x, x ∉ nds t → x ∉ cNds ((b, j, s) :: K) → eqG (gM (MVSt v)) (gM st) x) ∧ gC (gM st) = gC (gM (MVSt v)) ∧ gS (gM st) = gS (gM (MVSt v)) + nI (fixC ((b, j, s) :: K) t).2 ∧ frM (MVSt v) st := by
      intro l m hl hm ul um sl sm hnn hll hxx hfx
      have b1 := @rk_len l
      have b2 := @rk_len m
      obtain ⟨st1, k1, k2, k3⟩ := repair_ok (v := v) (l := l) (m := m) g1 hl hm (fun w hw => mrank_k sl hw) (fun w hw => mrank_k sm hw) (by omega) (by omega)
      obtain ⟨q1, q2, q3, q4, q5⟩ := cx_step (K := K) g1 ul um sl sm g6 g7 hnn
      have eG : gM st1 = stp (gM (MVSt v)) j l m := by
        rw [k3]
        show (_, _, gU (gM (MVSt v)), _, _, _) = (_, _, gU (stp (gM (MVSt v)) j l m), _, _, _)
        rw [q5]
        rfl
      have hu1 : jf st1 7 j = top K := by
        have : jf st1 7 = gU (gM st1) := rfl
        rw [this, eG, q5, g6]
      rw [k1, bnd2_some, get_7 g1, Option.bind_some, show jf (MVSt (MV_sSt v st1)) 7 j = top K from hu1]
      obtain ⟨st, p1, p2, p3, p4, p5, p6, p7⟩ := @ih (fixT j l m) n (MV_sSt v st1) l1 (by show cx (gM st1) K _; rw [eG]; exact q3) (by show sub (gM st1) _; rw [eG]; exact q1) (by show upK (gM st1) _ _; rw [eG]; exact q2) q4 (by omega)
      refine ⟨st, p1, by rw [hfx]; exact p2, by rw [hfx]; exact p3, fun x k1 k2 => ?_, ?_, ?_, k2.tr p7⟩
      · obtain ⟨z1, z2, z3, z4⟩ := hxx x k1 k2
        have h9 : eqG (gM st1) (gM st) x := p4 x (fun h => by
          have := nds_fix.mem_iff.mp h
          simp only [List.mem_cons, List.mem_append] at this
          rcases this with h | h | h
          · exact z1 h
          · exact z2 h
          · exact z3 h) z4
        rw [eG] at h9
        exact (show eqG (gM (MVSt v)) (stp (gM (MVSt v)) j l m) x from ⟨upd_ne z1, upd_ne z1, by rw [q5], upd_ne z1⟩).tr h9
      · rw [p5]
        show gC (gM st1) = _
        rw [eG]; rfl
      · rw [p6, hfx]
        show gS (gM st1) + _ = _
        rw [eG]
        show gS (gM (MVSt v)) + nI _ + nI _ = gS (gM (MVSt v)) + nI (_ + _)
        rw [Int32.add_assoc, nI_add]
    cases b with
    | true =>
      rw [if_pos rfl] at g2 g3
      refine main t s g2 g3 hu g5 hs g4 ?_ ?_ ?_ rfl
      · refine List.Perm.nodup_iff ?_ |>.mp hn
        show (nds t ++ j :: (nds s ++ cNds K)).Perm _
        rw [List.cons_append, List.append_assoc]
        exact List.perm_middle
      · omega
      · intro x k1 k2
        simp only [cNds, List.mem_cons, List.mem_append, not_or] at k2
        exact ⟨k2.1, k1, k2.2.1, k2.2.2⟩
    | false =>
      rw [if_neg Bool.false_ne_true] at g2 g3
      refine main s t g2 g3 g5 hu g4 hs ?_ ?_ ?_ rfl
      · refine List.Perm.nodup_iff ?_ |>.mp hn
        show (nds t ++ j :: (nds s ++ cNds K)).Perm _
        rw [List.cons_append, List.append_assoc]
        refine List.perm_middle.trans (List.Perm.cons _ ?_)
        rw [← List.append_assoc, ← List.append_assoc]
        exact List.Perm.append_right _ List.perm_append_comm
      · omega
      · intro x k1 k2
        simp only [cNds, List.mem_cons, List.mem_append, not_or] at k2
        exact ⟨k2.1, k2.2.1, k1, k2.2.2⟩
/-- the rest of the row, but for one queue's root -/
def frR (q : Nat) (st st' : Nat → Int32) : Prop := (∀ k, k < 5 → jf st' k = jf st k) ∧ ∀ n, n < 140 → n ≠ 3 → n ≠ 4 → n ≠ 10 + 11 * q + 9 → st' n = st n
theorem frM.R {q : Nat} {a b : Nat → Int32} (h : frM a b) : frR q a b := ⟨h.1, fun n h1 h2 h3 _ => h.2 n h1 h2 h3⟩
theorem frR.tr {q : Nat} {a b c : Nat → Int32} (h : frR q a b) (h2 : frR q b c) : frR q a c := ⟨fun k hk => (h2.1 k hk).trans (h.1 k hk), fun n h3 h4 h5 h6 => (h2.2 n h3 h4 h5 h6).trans (h.2 n h3 h4 h5 h6)⟩
/-- single, and the rank -/
theorem single_ok {v : MV} {i : Nat} (hi : i < 40) : ∃ st, f_X9_single v (nI i) = some ((), MV_sSt v st) ∧ frM (MVSt v) st ∧ gM st = (upd (jf (MVSt v) 5) i (-1), upd (jf (MVSt v) 6) i (-1), upd (jf (MVSt v) 7) i (-1), upd (jf (MVSt v) 8) i 1, MVSt v 3, MVSt v 4) := by
  unfold f_X9_single
  rw [set_5 hi, bnd2_some, set_6 hi, bnd2_some, set_7 hi, bnd2_some, set_8 hi, bnd2_some]
  refine ⟨_, rfl, ((frM.job (i := i) (k := 5) (x := -1) (by decide) (by decide)).tr (frM.job (i := i) (k := 6) (x := -1) (by decide) (by decide))).tr ((frM.job (i := i) (k := 7) (x := -1) (by decide) (by decide)).tr (frM.job (i := i) (k := 8) (x := 1) (by decide) (by decide))), ?_⟩
  show gM (upd (upd (upd (upd (MVSt v) (140 + 9 * i + 5) (-1)) (140 + 9 * i + 6) (-1)) (140 + 9 * i + 7) (-1)) (140 + 9 * i + 8) 1) = _
  unfold gM
  simp only [Prod.mk.injEq]
  refine ⟨?_, ?_, ?_, ?_, ?_, ?_⟩
  · rw [jf_ne (by decide) (by decide) (by decide), jf_ne (by decide) (by decide) (by decide), jf_ne (by decide) (by decide) (by decide), jf_same]
  · rw [jf_ne (by decide) (by decide) (by decide), jf_ne (by decide) (by decide) (by decide), jf_same, jf_ne (by decide) (by decide) (by decide)]
  · rw [jf_ne (by decide) (by decide) (by decide), jf_same, jf_ne (by decide) (by decide) (by decide), jf_ne (by decide) (by decide) (by decide)]
  · rw [jf_same, jf_ne (by decide) (by decide) (by decide), jf_ne (by decide) (by decide) (by decide), jf_ne (by decide) (by decide) (by decide)]
  · rw [upd_ne (show 3 ≠ 140 + 9 * i + 8 by omega), upd_ne (show 3 ≠ 140 + 9 * i + 7 by omega), upd_ne (show 3 ≠ 140 + 9 * i + 6 by omega), upd_ne (show 3 ≠ 140 + 9 * i + 5 by omega)]
  · rw [upd_ne (show 4 ≠ 140 + 9 * i + 8 by omega), upd_ne (show 4 ≠ 140 + 9 * i + 7 by omega), upd_ne (show 4 ≠ 140 + 9 * i + 6 by omega), upd_ne (show 4 ≠ 140 + 9 * i + 5 by omega)]
theorem gM_8 {st : Nat → Int32} {i : Nat} {x : Int32} : gM (upd st (140 + 9 * i + 8) x) = (jf st 5, jf st 6, jf st 7, upd (jf st 8) i x, st 3, st 4) := by
  unfold gM
  rw [jf_ne (by decide) (by decide) (by decide), jf_ne (by decide) (by decide) (by decide), jf_ne (by decide) (by decide) (by decide), jf_same, upd_ne (show 3 ≠ 140 + 9 * i + 8 by omega), upd_ne (show 4 ≠ 140 + 9 * i + 8 by omega)]
theorem gM_7 {st : Nat → Int32} {i : Nat} {x : Int32} : gM (upd st (140 + 9 * i + 7) x) = (jf st 5, jf st 6, upd (jf st 7) i x, jf st 8, st 3, st 4) := by
  unfold gM
  rw [jf_ne (by decide) (by decide) (by decide), jf_ne (by decide) (by decide) (by decide), jf_same, jf_ne (by decide) (by decide) (by decide), upd_ne (show 3 ≠ 140 + 9 * i + 7 by omega), upd_ne (show 4 ≠ 140 + 9 * i + 7 by omega)]
theorem gM_6 {st : Nat → Int32} {i : Nat} {x : Int32} : gM (upd st (140 + 9 * i + 6) x) = (jf st 5, upd (jf st 6) i x, jf st 7, jf st 8, st 3, st 4) := by
  unfold gM
  rw [jf_ne (by decide) (by decide) (by decide), jf_same, jf_ne (by decide) (by decide) (by decide), jf_ne (by decide) (by decide) (by decide), upd_ne (show 3 ≠ 140 + 9 * i + 6 by omega), upd_ne (show 4 ≠ 140 + 9 * i + 6 by omega)]
theorem gM_5 {st : Nat → Int32} {i : Nat} {x : Int32} : gM (upd st (140 + 9 * i + 5) x) = (upd (jf st 5) i x, jf st 6, jf st 7, jf st 8, st 3, st 4) := by
  unfold gM
  rw [jf_same, jf_ne (by decide) (by decide) (by decide), jf_ne (by decide) (by decide) (by decide), jf_ne (by decide) (by decide) (by decide), upd_ne (show 3 ≠ 140 + 9 * i + 5 by omega), upd_ne (show 4 ≠ 140 + 9 * i + 5 by omega)]
theorem gM_lo {st : Nat → Int32} {n : Nat} {x : Int32} (h : n < 140) (h3 : n ≠ 3) (h4 : n ≠ 4) : gM (upd st n x) = gM st := by
  unfold gM
  rw [jf_lo h, jf_lo h, jf_lo h, jf_lo h, upd_ne (Ne.symm h3), upd_ne (Ne.symm h4)]
/-- the parent of a root set -/
theorem par_ok {v : MV} {m : Tr} {p : Int32} {S : Nat → Int32} (hm : ∀ j ∈ nds m, j < 40) :
    ∃ st, (if hv m = -1 then some ((), MV_sSt v S) else bnd2 (f_X9_set (MV_sSt v S) (hv m) 7 p) fun _ w => some ((), w)) = some ((), MV_sSt v st) ∧ frM S st ∧ gL (gM st) = gL (gM S) ∧ gR (gM st) = gR (gM S) ∧ gU (gM st) = gU (setU (gM S) m p) ∧ gK (gM st) = gK (gM S) ∧ gC (gM st) = gC (gM S) ∧ gS (gM st) = gS (gM S) := by
  cases m with
  | leaf u =>
    rw [if_pos hvl]
    exact ⟨S, rfl, frM.rf, rfl, rfl, rfl, rfl, rfl, rfl⟩
  | branch j a b =>
    have hj : j < 40 := hm j (by simp [nds])
    rw [show hv (.branch j a b) = nI j from rfl, if_neg (nI_m hj), set_7 hj, bnd2_some]
    refine ⟨upd S (140 + 9 * j + 7) p, rfl, frM.job (by decide) (by decide), ?_⟩
    rw [gM_7]
    exact ⟨rfl, rfl, rfl, rfl, rfl, rfl⟩
theorem setRoot_ok {v : MV} {q : Nat} {m : Tr} (hq : q < 6) (hm : ∀ j ∈ nds m, j < 40) :
    ∃ st, f_X9_setRoot v (nI q) (hv m) = some ((), MV_sSt v st) ∧ frR q (MVSt v) st ∧ st (10 + 11 * q + 9) = hv m ∧ gL (gM st) = gL (gM (MVSt v)) ∧ gR (gM st) = gR (gM (MVSt v)) ∧ gU (gM st) = gU (setU (gM (MVSt v)) m (-1)) ∧ gK (gM st) = gK (gM (MVSt v)) ∧ gC (gM st) = gC (gM (MVSt v)) ∧ gS (gM st) = gS (gM (MVSt v)) := by
  unfold f_X9_setRoot f_X9_q
  rw [Option.bind_some, qadr, show nI (10 + 11 * q) + (9 : Int32) = nI (10 + 11 * q + 9) from nI_add _ 9, if_neg (o500 (by omega)), c500 (by omega)]
  obtain ⟨st, h1, h2, h3⟩ := par_ok (v := v) (m := m) (p := -1) (S := upd (MVSt v) (10 + 11 * q + 9) (hv m)) hm
  have e0 : gM (upd (MVSt v) (10 + 11 * q + 9) (hv m)) = gM (MVSt v) := gM_lo (by omega) (by omega) (by omega)
  rw [e0] at h3
  have f0 : frR q (MVSt v) (upd (MVSt v) (10 + 11 * q + 9) (hv m)) := ⟨fun k hk => jf_lo (by omega), fun n _ _ _ h => upd_ne h⟩
  refine ⟨st, h1, f0.tr h2.R, ?_, h3⟩
  rw [h2.2 _ (by omega) (by omega) (by omega), upd_eq]
/-- what a taking out does to the reference's row -/
theorem remove_ok {v : MV} {pr : Nat → Nat} {i q : Nat} {t : Tr} (hs : sub (gM (MVSt v)) t) (hu : upK (gM (MVSt v)) t (-1)) (hn : (nds t).Nodup) (hi : i ∈ nds t) (hp : mprOK (MVSt v) pr) (hq : q < 6) (hqi : jf (MVSt v) 4 i = nI q) (hroot : MVSt v (10 + 11 * q + 9) = hv t) :
    ∃ st, f_X9_remove v (nI i) = some ((), MV_sSt v st) ∧ RSp pr (gM (MVSt v)) (gM st) i t ∧ frR q (MVSt v) st ∧ st (10 + 11 * q + 9) = hv (rmT pr i t).1 := by
  have i40 := sub_lt hs i hi
  have e := zp_pl (K := []) hi
  have hpp := @pl_perm (zp i t []).1 (.branch i (zp i t []).2.1 (zp i t []).2.2)
  unfold RSp rmT
  generalize hK : (zp i t []).1 = K at *
  generalize hl : (zp i t []).2.1 = l at *
  generalize hr : (zp i t []).2.2 = r at *
  have et : plT K (.branch i l r) = t := e
  rw [et] at hpp
  obtain ⟨⟨g1, g2, g3, g4, g5, g6, g7, g8⟩, k2, k3⟩ := sub_pl (G := gM (MVSt v)) (K := K) (t := .branch i l r) (by rw [et]; exact hs) (by rw [et]; exact hu)
  have hn2 : (nds (.branch i l r) ++ cNds K).Nodup := hpp.nodup_iff.mp hn
  have hn3 := List.nodup_append.mp hn2
  obtain ⟨m1', m2', m3', m4', m5'⟩ := nd_br hn3.1
  have hiK : i ∉ cNds K := fun h => hn3.2.2 i (by simp [nds]) i h rfl
  have hlK : ∀ x, x ∈ nds l → x ∉ cNds K := fun x h1 h2 => hn3.2.2 x (by simp [nds, h1]) x h2 rfl
  have hrK : ∀ x, x ∈ nds r → x ∉ cNds K := fun x h1 h2 => hn3.2.2 x (by simp [nds, h1]) x h2 rfl
  have hlr : (nds l).length + (nds r).length ≤ 40 := by
    have h := nd_len (l := nds l ++ nds r) (List.nodup_append.mpr ⟨m4', m5', fun x hx y hy e => m3' x hx (e ▸ hy)⟩) (fun j hj => (List.mem_append.mp hj).elim (sub_lt g7 j) (sub_lt g8 j))
    rwa [List.length_append] at h
  obtain ⟨st1, q1, ⟨q2, q3, q4, q5⟩, q6⟩ := mmerge_ok (pr := pr) 40 (a := l) (b := r) (n := 50) (v := v) hlr (by omega) (by omega) g7 g8 m4' m5' m3' hp
  unfold f_X9_remove
  rw [get_7 i40, Option.bind_some, get_5 i40, Option.bind_some, get_6 i40, Option.bind_some, show jf (MVSt v) 5 i = hv l from g2, show jf (MVSt v) 6 i = hv r from g3, q1, bnd2_some, show jf (MVSt v) 7 i = top K from k2]
  have him : i ∉ nds (mg pr l r).1 := fun h => (mem_mg.mp h).elim m1' m2'
  have nmg : (nds (mg pr l r).1).Nodup := nodup_of_mg m4' m5' m3'
  have hnt : ∀ x, x ∉ nds t → x ≠ i ∧ x ∉ nds l ∧ x ∉ nds r ∧ x ∉ cNds K := by
    intro x hx
    rw [hpp.mem_iff] at hx
    simp only [nds, List.mem_append, List.mem_cons, not_or] at hx
    exact ⟨hx.1.1, hx.1.2.1, hx.1.2.2, hx.2⟩
  -- the end: the job alone, rank 0
  have fin : ∀ (st2 : Nat → Int32), ∃ st, f_X9_remove_j76 (nI i) (MV_sSt v st2) = some ((), MV_sSt v st) ∧ frM st2 st ∧ (∀ x, x ≠ i → eqG (gM st2) (gM st) x) ∧ (gL (gM st) i = -1 ∧ gR (gM st) i = -1 ∧ gU (gM st) i = -1 ∧ gK (gM st) i = 0) ∧ gC (gM st) = gC (gM st2) ∧ gS (gM st) = gS (gM st2) := by
    intro st2
    unfold f_X9_remove_j76
    obtain ⟨st3, h1, h2, h3⟩ := single_ok (v := MV_sSt v st2) i40
    rw [h1, bnd2_some, set_8 i40, bnd2_some]
    refine ⟨upd st3 (140 + 9 * i + 8) 0, rfl, h2.tr (frM.job (by decide) (by decide)), ?_⟩
    rw [gM_8]
    have e5 : jf st3 5 = upd (jf st2 5) i (-1) := congrArg gL h3
    have e6 : jf st3 6 = upd (jf st2 6) i (-1) := congrArg gR h3
    have e7 : jf st3 7 = upd (jf st2 7) i (-1) := congrArg gU h3
    have e8 : jf st3 8 = upd (jf st2 8) i 1 := congrArg gK h3
    have e3 : st3 3 = st2 3 := congrArg gC h3
    have e4 : st3 4 = st2 4 := congrArg gS h3
    rw [e5, e6, e7, e8, e3, e4, upd_twice]
    exact ⟨fun x hx => ⟨upd_ne hx, upd_ne hx, upd_ne hx, upd_ne hx⟩, ⟨upd_eq, upd_eq, upd_eq, upd_eq⟩, rfl, rfl⟩
  cases K with
  | nil =>
    rw [if_pos (show top [] = -1 from rfl), get_4 i40, Option.bind_some, show jf (MVSt (MV_sSt v st1)) 4 i = nI q from (congrFun (q6.1 4 (by decide)) i).trans hqi]
    obtain ⟨st2, h1, h2, h3, h4, h5, h6, h7, h8, h9⟩ := setRoot_ok (v := MV_sSt v st1) (q := q) (m := (mg pr l r).1) hq (sub_lt q2)
    rw [h1, bnd2_some]
    obtain ⟨st, p1, p2, p3, p4, p5, p6⟩ := fin st2
    have hU : ∀ x, x ∉ nds (mg pr l r).1 → gU (gM st2) x = gU (gM st1) x := fun x hx => by rw [h6]; exact setU_ne hx
    have e12 : ∀ x, x ∉ nds (mg pr l r).1 → eqG (gM st1) (gM st2) x := fun x hx => ⟨congrFun h4 x, congrFun h5 x, hU x hx, congrFun h7 x⟩
    have s2 : sub (gM st2) (mg pr l r).1 := sub_congr' (G := gM st1) (fun x _ => ⟨congrFun h4 x, congrFun h5 x, congrFun h7 x⟩) (fun x hx => by rw [h6]; exact setU_tail nmg hx) q2
    have u2 : upK (gM st2) (mg pr l r).1 (-1) := upK_congr (G := setU (gM st1) (mg pr l r).1 (-1)) (fun x _ => by rw [h6]; rfl) setU_up
    refine ⟨st, p1, ⟨sub_congr (fun x hx => p3 x (fun h => him (h ▸ hx))) s2, upK_congr (fun x hx => (p3 x (fun h => him (h ▸ hx))).2.2.1) u2, fun x hx => ?_, p4, ?_, ?_⟩, (q6.R.tr h2).tr p2.R, ?_⟩
    · obtain ⟨z1, z2, z3, z4⟩ := hnt x hx
      exact ((q3 x z2 z3).tr (e12 x (fun h => (mem_mg.mp h).elim z2 z3))).tr (p3 x z1)
    · rw [p5, h8]; exact q4
    · rw [p6, h9]; exact q5
    · rw [p2.2 _ (by omega) (by omega) (by omega), h3]; rfl
  | cons f K =>
    obtain ⟨b, j, s⟩ := f
    obtain ⟨y1, y2, y3, y4, y5, y6, y7⟩ := k3
    have hji : j ≠ i := fun h => hiK (by simp [cNds, h])
    have hjm : j ∉ nds (mg pr l r).1 := fun h => (mem_mg.mp h).elim (fun h => hlK j h (by simp [cNds])) (fun h => hrK j h (by simp [cNds]))
    have hsi : i ∉ nds s := fun h => hiK (by simp [cNds, h])
    have hjs : j ∉ nds s ∧ j ∉ cNds K := by
      have := hn3.2.1
      simp only [cNds, List.nodup_cons, List.mem_append, not_or] at this
      exact this.1
    have hms : ∀ x, x ∈ nds (mg pr l r).1 → x ∉ nds s ∧ x ∉ cNds K := fun x hx => by
      have : x ∉ cNds ((b, j, s) :: K) := (mem_mg.mp hx).elim (hlK x) (hrK x)
      simp only [cNds, List.mem_cons, List.mem_append, not_or] at this
      exact this.2
    have nm : (nds (mg pr l r).1 ++ cNds ((b, j, s) :: K)).Nodup := by
      refine List.nodup_append.mpr ⟨nmg, hn3.2.1, fun x h1 y h2 hxy => ?_⟩
      subst hxy
      exact (mem_mg.mp h1).elim (fun h => hlK x h h2) (fun h => hrK x h h2)
    have hlen : cxL ((b, j, s) :: K) ≤ 40 := Nat.le_trans cxL_le (nd_len hn3.2.1 (fun x hx => by
      refine sub_lt hs x ?_
      rw [hpp.mem_iff]
      exact List.mem_append_right _ hx))
    have hKx : ∀ x ∈ cNds ((b, j, s) :: K), eqG (gM (MVSt v)) (gM st1) x := fun x hx => q3 x (fun h => hlK x h hx) (fun h => hrK x h hx)
    have eL2 : jf st1 5 j = (if b = true then nI i else hv s) := ((hKx j (by simp [cNds])).1).trans y2
    have eR2 : jf st1 6 j = (if b = true then hv s else nI i) := ((hKx j (by simp [cNds])).2.1).trans y3
    have ht : hv (fixC ((b, j, s) :: K) (mg pr l r).1).1 = hv t := by
      rw [← et]
      exact top_fix (by simp)
    rw [show top ((b, j, s) :: K) = nI j from rfl, if_neg (nI_m y1), get_5 y1, Option.bind_some]
    have main : ∀ (S : Nat → Int32) (k : Int32), f_X9_link (MV_sSt v st1) (nI j) k (hv (mg pr l r).1) = (if hv (mg pr l r).1 = -1 then some ((), MV_sSt v S) else bnd2 (f_X9_set (MV_sSt v S) (hv (mg pr l r).1) 7 (nI j)) fun _ w => some ((), w)) → frM st1 S → (∀ x, x ≠ j → eqG (gM st1) (gM S) x) → gU (gM S) = gU (gM st1) → gK (gM S) = gK (gM st1) → gC (gM S) = gC (gM st1) → gS (gM S) = gS (gM st1) → gL (gM S) j = (if b = true then hv (mg pr l r).1 else hv s) → gR (gM S) j = (if b = true then hv s else hv (mg pr l r).1) →
        ∃ st, f_X9_remove_j61 (nI i) (nI j) (hv (mg pr l r).1) k (MV_sSt v st1) = some ((), MV_sSt v st) ∧ (sub (gM st) (fixC ((b, j, s) :: K) (mg pr l r).1).1 ∧ upK (gM st) (fixC ((b, j, s) :: K) (mg pr l r).1).1 (-1) ∧ (∀ x, x ∉ nds t → eqG (gM (MVSt v)) (gM st) x) ∧ (gL (gM st) i = -1 ∧ gR (gM st) i = -1 ∧ gU (gM st) i = -1 ∧ gK (gM st) i = 0) ∧ gC (gM st) = gC (gM (MVSt v)) + nI (mg pr l r).2.1 ∧ gS (gM st) = gS (gM (MVSt v)) + nI ((mg pr l r).2.2 + (fixC ((b, j, s) :: K) (mg pr l r).1).2)) ∧ frR q (MVSt v) st ∧ st (10 + 11 * q + 9) = hv (fixC ((b, j, s) :: K) (mg pr l r).1).1 := by
      intro S k hlink h1 h2 h3 h4 h5 h6 h7 h8
      unfold f_X9_remove_j61
      obtain ⟨st4, z1, z2, z3, z4, z5, z6, z7, z8⟩ := par_ok (v := v) (m := (mg pr l r).1) (p := nI j) (S := S) (sub_lt q2)
      rw [hlink, z1, bnd2_some]
      have nomem : ∀ x, x ≠ j → x ∉ nds (mg pr l r).1 → eqG (gM st1) (gM st4) x := fun x hx hm => (h2 x hx).tr ⟨congrFun z3 x, congrFun z4 x, by rw [z5]; exact setU_ne hm, congrFun z6 x⟩
      have s4 : sub (gM st4) (mg pr l r).1 := by
        refine sub_congr' (G := gM st1) (fun x hx => ?_) (fun x hx => ?_) q2
        · have hxj : x ≠ j := fun h => hjm (h ▸ hx)
          exact ⟨(congrFun z3 x).trans (h2 x hxj).1, (congrFun z4 x).trans (h2 x hxj).2.1, (congrFun z6 x).trans (h2 x hxj).2.2.2⟩
        · rw [z5, setU_tail nmg hx, h3]
      have u4 : upK (gM st4) (mg pr l r).1 (nI j) := upK_congr (G := setU (gM S) (mg pr l r).1 (nI j)) (fun x _ => by rw [z5]) setU_up
      have hKw : ∀ x ∈ cNds K, eqG (gM (MVSt v)) (gM st4) x := fun x hx => (hKx x (by simp [cNds, hx])).tr (nomem x (fun h => hjs.2 (h ▸ hx)) (fun h => (hms x h).2 hx))
      have hSw : ∀ x ∈ nds s, eqG (gM (MVSt v)) (gM st4) x := fun x hx => (hKx x (by simp [cNds, hx])).tr (nomem x (fun h => hjs.1 (h ▸ hx)) (fun h => (hms x h).1 hx))
      have hc4 : cx (gM st4) ((b, j, s) :: K) (hv (mg pr l r).1) := by
        refine ⟨y1, by rw [z3]; exact h7, by rw [z4]; exact h8, sub_congr hSw y4, upK_congr (fun x hx => (hSw x hx).2.2.1) y5, ?_, cx_congr hKw y7⟩
        rw [z5, setU_ne hjm, h3, (hKx j (by simp [cNds])).2.2.1]
        exact y6
      obtain ⟨st5, p1, p2, p3, p4, p5, p6, p7⟩ := mclimb_ok ((b, j, s) :: K) (t := (mg pr l r).1) (n := FU) (v := MV_sSt v st4) (l1 := nI j) hc4 s4 u4 nm (by have : FU = 5000 := rfl; omega)
      have p1' : f_X9_repairUpwards (MV_sSt v st4) (nI j) = some ((), MV_sSt v st5) := p1
      rw [p1', bnd2_some]
      obtain ⟨st, d1, d2, d3, d4, d5, d6⟩ := fin st5
      have hmem : ∀ x ∈ nds (fixC ((b, j, s) :: K) (mg pr l r).1).1, x ≠ i := by
        intro x hx h
        subst h
        rcases List.mem_append.mp (fix_perm.mem_iff.mp hx) with h | h
        · exact him h
        · exact hiK h
      refine ⟨st, d1, ⟨sub_congr (fun x hx => d3 x (hmem x hx)) p2, upK_congr (fun x hx => (d3 x (hmem x hx)).2.2.1) p3, fun x hx => ?_, d4, ?_, ?_⟩, (q6.tr (h1.tr (z2.tr (p7.tr d2)))).R, ?_⟩
      · obtain ⟨w1, w3, w4, w5⟩ := hnt x hx
        have hxm : x ∉ nds (mg pr l r).1 := fun h => (mem_mg.mp h).elim w3 w4
        have hxj : x ≠ j := fun h => w5 (by simp [cNds, h])
        exact (((q3 x w3 w4).tr (nomem x hxj hxm)).tr (p4 x hxm w5)).tr (d3 x w1)
      · rw [d5, p5]
        show gC (gM st4) = _
        rw [z7, h5]; exact q4
      · rw [d6, p6]
        show gS (gM st4) + _ = _
        rw [z8, h6, q5, Int32.add_assoc, nI_add]
      · rw [(q6.tr (h1.tr (z2.tr (p7.tr d2)))).2 _ (by omega) (by omega) (by omega), hroot, ht]
    cases b with
    | true =>
      rw [if_pos rfl] at eL2 eR2
      rw [show jf (MVSt (MV_sSt v st1)) 5 j = nI i from eL2, if_pos rfl]
      refine main (upd st1 (140 + 9 * j + 5) (hv (mg pr l r).1)) 5 (by unfold f_X9_link; rw [set_5 y1, bnd2_some]; rfl) (frM.job (by decide) (by decide)) (fun x hx => by rw [gM_5]; exact ⟨upd_ne hx, rfl, rfl, rfl⟩) (by rw [gM_5]; rfl) (by rw [gM_5]; rfl) (by rw [gM_5]; rfl) (by rw [gM_5]; rfl) (by rw [gM_5, if_pos rfl]; exact upd_eq) (by rw [gM_5, if_pos rfl]; exact eR2)
    | false =>
      rw [if_neg Bool.false_ne_true] at eL2 eR2
      rw [show jf (MVSt (MV_sSt v st1)) 5 j = hv s from eL2, if_neg (fun h => hsi (hv_mem y4 h i40))]
      refine main (upd st1 (140 + 9 * j + 6) (hv (mg pr l r).1)) 6 (by unfold f_X9_link; rw [set_6 y1, bnd2_some]; rfl) (frM.job (by decide) (by decide)) (fun x hx => by rw [gM_6]; exact ⟨rfl, upd_ne hx, rfl, rfl⟩) (by rw [gM_6]; rfl) (by rw [gM_6]; rfl) (by rw [gM_6]; rfl) (by rw [gM_6]; rfl) (by rw [gM_6, if_neg Bool.false_ne_true]; exact eL2) (by rw [gM_6, if_neg Bool.false_ne_true]; exact upd_eq)
