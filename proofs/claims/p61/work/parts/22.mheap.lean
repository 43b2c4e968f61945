/-! ===== 22: the reference's heaps (generated head by wip/pure/gen22.py) ===== -/
def jf (st : Nat → Int32) (k i : Nat) : Int32 := st (140 + 9 * i + k)
def gM (st : Nat → Int32) : HG := (jf st 5, jf st 6, jf st 7, jf st 8, st 3, st 4)
theorem jf_same {st : Nat → Int32} {i k : Nat} {x : Int32} : jf (upd st (140 + 9 * i + k) x) k = upd (jf st k) i x := by
  funext j
  unfold jf upd
  by_cases h : j = i
  · rw [if_pos (by omega), if_pos h]
  · rw [if_neg (by omega), if_neg h]
theorem jf_ne {st : Nat → Int32} {i k k' : Nat} {x : Int32} (h : k ≠ k') (h1 : k < 9) (h2 : k' < 9) : jf (upd st (140 + 9 * i + k) x) k' = jf st k' := by
  funext j
  unfold jf upd
  rw [if_neg (by omega)]
theorem jf_lo {st : Nat → Int32} {n k : Nat} {x : Int32} (h : n < 140) : jf (upd st n x) k = jf st k := by
  funext j
  unfold jf upd
  rw [if_neg (by omega)]
theorem o500 {n : Nat} (h : n < 500) : ¬ oob (nI n) 500 := nI_in h (by decide)
theorem c500 {n : Nat} (h : n < 500) : Int32.toNatClampNeg (nI n) = n := nI_clamp (by omega)
theorem jadr (i : Nat) : (140 : Int32) + 9 * nI i = nI (140 + 9 * i) := by
  rw [show (9 : Int32) * nI i = nI (9 * i) from (Int32.ofNat_mul 9 i).symm]
  exact nI_add 140 (9 * i)
theorem qadr (q : Nat) : (10 : Int32) + 11 * nI q = nI (10 + 11 * q) := by
  rw [show (11 : Int32) * nI q = nI (11 * q) from (Int32.ofNat_mul 11 q).symm]
  exact nI_add 10 (11 * q)
theorem oadr (q : Nat) : (80 : Int32) + 7 * nI q = nI (80 + 7 * q) := by
  rw [show (7 : Int32) * nI q = nI (7 * q) from (Int32.ofNat_mul 7 q).symm]
  exact nI_add 80 (7 * q)
theorem get_0 {v : MV} {i : Nat} (hi : i < 40) : f_X9_get v (nI i) 0 = some (jf (MVSt v) 0 i) := by
  unfold f_X9_get f_X9_j
  rw [Option.bind_some, jadr, show nI (140 + 9 * i) + (0 : Int32) = nI (140 + 9 * i + 0) from nI_add _ 0, if_neg (o500 (by omega)), c500 (by omega)]
  rfl
theorem set_0 {v : MV} {i : Nat} {x : Int32} (hi : i < 40) : f_X9_set v (nI i) 0 x = some ((), MV_sSt v (upd (MVSt v) (140 + 9 * i + 0) x)) := by
  unfold f_X9_set f_X9_j
  rw [Option.bind_some, jadr, show nI (140 + 9 * i) + (0 : Int32) = nI (140 + 9 * i + 0) from nI_add _ 0, if_neg (o500 (by omega)), c500 (by omega)]
theorem get_1 {v : MV} {i : Nat} (hi : i < 40) : f_X9_get v (nI i) 1 = some (jf (MVSt v) 1 i) := by
  unfold f_X9_get f_X9_j
  rw [Option.bind_some, jadr, show nI (140 + 9 * i) + (1 : Int32) = nI (140 + 9 * i + 1) from nI_add _ 1, if_neg (o500 (by omega)), c500 (by omega)]
  rfl
theorem set_1 {v : MV} {i : Nat} {x : Int32} (hi : i < 40) : f_X9_set v (nI i) 1 x = some ((), MV_sSt v (upd (MVSt v) (140 + 9 * i + 1) x)) := by
  unfold f_X9_set f_X9_j
  rw [Option.bind_some, jadr, show nI (140 + 9 * i) + (1 : Int32) = nI (140 + 9 * i + 1) from nI_add _ 1, if_neg (o500 (by omega)), c500 (by omega)]
theorem get_2 {v : MV} {i : Nat} (hi : i < 40) : f_X9_get v (nI i) 2 = some (jf (MVSt v) 2 i) := by
  unfold f_X9_get f_X9_j
  rw [Option.bind_some, jadr, show nI (140 + 9 * i) + (2 : Int32) = nI (140 + 9 * i + 2) from nI_add _ 2, if_neg (o500 (by omega)), c500 (by omega)]
  rfl
theorem set_2 {v : MV} {i : Nat} {x : Int32} (hi : i < 40) : f_X9_set v (nI i) 2 x = some ((), MV_sSt v (upd (MVSt v) (140 + 9 * i + 2) x)) := by
  unfold f_X9_set f_X9_j
  rw [Option.bind_some, jadr, show nI (140 + 9 * i) + (2 : Int32) = nI (140 + 9 * i + 2) from nI_add _ 2, if_neg (o500 (by omega)), c500 (by omega)]
theorem get_3 {v : MV} {i : Nat} (hi : i < 40) : f_X9_get v (nI i) 3 = some (jf (MVSt v) 3 i) := by
  unfold f_X9_get f_X9_j
  rw [Option.bind_some, jadr, show nI (140 + 9 * i) + (3 : Int32) = nI (140 + 9 * i + 3) from nI_add _ 3, if_neg (o500 (by omega)), c500 (by omega)]
  rfl
theorem set_3 {v : MV} {i : Nat} {x : Int32} (hi : i < 40) : f_X9_set v (nI i) 3 x = some ((), MV_sSt v (upd (MVSt v) (140 + 9 * i + 3) x)) := by
  unfold f_X9_set f_X9_j
  rw [Option.bind_some, jadr, show nI (140 + 9 * i) + (3 : Int32) = nI (140 + 9 * i + 3) from nI_add _ 3, if_neg (o500 (by omega)), c500 (by omega)]
theorem get_4 {v : MV} {i : Nat} (hi : i < 40) : f_X9_get v (nI i) 4 = some (jf (MVSt v) 4 i) := by
  unfold f_X9_get f_X9_j
  rw [Option.bind_some, jadr, show nI (140 + 9 * i) + (4 : Int32) = nI (140 + 9 * i + 4) from nI_add _ 4, if_neg (o500 (by omega)), c500 (by omega)]
  rfl
theorem set_4 {v : MV} {i : Nat} {x : Int32} (hi : i < 40) : f_X9_set v (nI i) 4 x = some ((), MV_sSt v (upd (MVSt v) (140 + 9 * i + 4) x)) := by
  unfold f_X9_set f_X9_j
  rw [Option.bind_some, jadr, show nI (140 + 9 * i) + (4 : Int32) = nI (140 + 9 * i + 4) from nI_add _ 4, if_neg (o500 (by omega)), c500 (by omega)]
theorem get_5 {v : MV} {i : Nat} (hi : i < 40) : f_X9_get v (nI i) 5 = some (jf (MVSt v) 5 i) := by
  unfold f_X9_get f_X9_j
  rw [Option.bind_some, jadr, show nI (140 + 9 * i) + (5 : Int32) = nI (140 + 9 * i + 5) from nI_add _ 5, if_neg (o500 (by omega)), c500 (by omega)]
  rfl
theorem set_5 {v : MV} {i : Nat} {x : Int32} (hi : i < 40) : f_X9_set v (nI i) 5 x = some ((), MV_sSt v (upd (MVSt v) (140 + 9 * i + 5) x)) := by
  unfold f_X9_set f_X9_j
  rw [Option.bind_some, jadr, show nI (140 + 9 * i) + (5 : Int32) = nI (140 + 9 * i + 5) from nI_add _ 5, if_neg (o500 (by omega)), c500 (by omega)]
theorem get_6 {v : MV} {i : Nat} (hi : i < 40) : f_X9_get v (nI i) 6 = some (jf (MVSt v) 6 i) := by
  unfold f_X9_get f_X9_j
  rw [Option.bind_some, jadr, show nI (140 + 9 * i) + (6 : Int32) = nI (140 + 9 * i + 6) from nI_add _ 6, if_neg (o500 (by omega)), c500 (by omega)]
  rfl
theorem set_6 {v : MV} {i : Nat} {x : Int32} (hi : i < 40) : f_X9_set v (nI i) 6 x = some ((), MV_sSt v (upd (MVSt v) (140 + 9 * i + 6) x)) := by
  unfold f_X9_set f_X9_j
  rw [Option.bind_some, jadr, show nI (140 + 9 * i) + (6 : Int32) = nI (140 + 9 * i + 6) from nI_add _ 6, if_neg (o500 (by omega)), c500 (by omega)]
theorem get_7 {v : MV} {i : Nat} (hi : i < 40) : f_X9_get v (nI i) 7 = some (jf (MVSt v) 7 i) := by
  unfold f_X9_get f_X9_j
  rw [Option.bind_some, jadr, show nI (140 + 9 * i) + (7 : Int32) = nI (140 + 9 * i + 7) from nI_add _ 7, if_neg (o500 (by omega)), c500 (by omega)]
  rfl
theorem set_7 {v : MV} {i : Nat} {x : Int32} (hi : i < 40) : f_X9_set v (nI i) 7 x = some ((), MV_sSt v (upd (MVSt v) (140 + 9 * i + 7) x)) := by
  unfold f_X9_set f_X9_j
  rw [Option.bind_some, jadr, show nI (140 + 9 * i) + (7 : Int32) = nI (140 + 9 * i + 7) from nI_add _ 7, if_neg (o500 (by omega)), c500 (by omega)]
theorem get_8 {v : MV} {i : Nat} (hi : i < 40) : f_X9_get v (nI i) 8 = some (jf (MVSt v) 8 i) := by
  unfold f_X9_get f_X9_j
  rw [Option.bind_some, jadr, show nI (140 + 9 * i) + (8 : Int32) = nI (140 + 9 * i + 8) from nI_add _ 8, if_neg (o500 (by omega)), c500 (by omega)]
  rfl
theorem set_8 {v : MV} {i : Nat} {x : Int32} (hi : i < 40) : f_X9_set v (nI i) 8 x = some ((), MV_sSt v (upd (MVSt v) (140 + 9 * i + 8) x)) := by
  unfold f_X9_set f_X9_j
  rw [Option.bind_some, jadr, show nI (140 + 9 * i) + (8 : Int32) = nI (140 + 9 * i + 8) from nI_add _ 8, if_neg (o500 (by omega)), c500 (by omega)]
/-- the rest of the reference's row is as it was -/
def frM (st st' : Nat → Int32) : Prop := (∀ k, k < 5 → jf st' k = jf st k) ∧ ∀ n, n < 140 → n ≠ 3 → n ≠ 4 → st' n = st n
theorem frM.rf {st : Nat → Int32} : frM st st := ⟨fun _ _ => rfl, fun _ _ _ _ => rfl⟩
theorem frM.tr {a b c : Nat → Int32} (h : frM a b) (h2 : frM b c) : frM a c := ⟨fun k hk => (h2.1 k hk).trans (h.1 k hk), fun n h3 h4 h5 => (h2.2 n h3 h4 h5).trans (h.2 n h3 h4 h5)⟩
theorem frM.job {st : Nat → Int32} {i k : Nat} {x : Int32} (h : 5 ≤ k) (h2 : k < 9) : frM st (upd st (140 + 9 * i + k) x) :=
  ⟨fun k' hk => jf_ne (by omega) h2 (by omega), fun n h3 _ _ => by unfold upd; rw [if_neg (by omega)]⟩
theorem frM.cnt {st : Nat → Int32} {n : Nat} {x : Int32} (h : n = 3 ∨ n = 4) : frM st (upd st n x) :=
  ⟨fun k' hk => jf_lo (by omega), fun m _ h4 h5 => by unfold upd; rw [if_neg (by omega)]⟩
theorem hvl {u : Unit} : hv (.leaf u) = -1 := rfl
theorem o3 : ¬ oob 3 500 := by decide
theorem o4 : ¬ oob 4 500 := by decide
theorem nI_m {i : Nat} (h : i < 40) : ¬ nI i = -1 := fun e => by
  have h1 := p40 h
  rw [e] at h1
  exact h1 m1
theorem mrank_t {v : MV} {t : Tr} (h : sub (gM (MVSt v)) t) : f_X9_rankOf v (hv t) = some (nI (rkT t)) := by
  unfold f_X9_rankOf
  cases t with
  | leaf u => rw [if_pos hvl]; rfl
  | branch i l r =>
    show (if nI i = -1 then _ else (f_X9_get v (nI i) 8).bind _) = _
    rw [if_neg (nI_m h.1), get_8 h.1, Option.bind_some]
    exact congrArg some h.2.2.2.1
theorem mrank_k {v w : MV} {t : Tr} (h : sub (gM (MVSt v)) t) (hk : jf (MVSt w) 8 = jf (MVSt v) 8) : f_X9_rankOf w (hv t) = some (nI (rkT t)) := by
  unfold f_X9_rankOf
  cases t with
  | leaf u => rw [if_pos hvl]; rfl
  | branch i l r =>
    show (if nI i = -1 then _ else (f_X9_get w (nI i) 8).bind _) = _
    rw [if_neg (nI_m h.1), get_8 h.1, Option.bind_some, hk]
    exact congrArg some h.2.2.2.1
/-- repair: the children are l and m -/
theorem repair_ok {v : MV} {i : Nat} {l m : Tr} (hi : i < 40) (hl : jf (MVSt v) 5 i = hv l) (hm : jf (MVSt v) 6 i = hv m) (kl : ∀ w : MV, jf (MVSt w) 8 = jf (MVSt v) 8 → f_X9_rankOf w (hv l) = some (nI (rkT l))) (km : ∀ w : MV, jf (MVSt w) 8 = jf (MVSt v) 8 → f_X9_rankOf w (hv m) = some (nI (rkT m))) (bl : rkT l ≤ 100) (bm : rkT m ≤ 100) :
    ∃ st, f_X9_repair v (nI i) = some ((), MV_sSt v st) ∧ frM (MVSt v) st ∧ gM st = (upd (jf (MVSt v) 5) i (hv (if rkT l < rkT m then m else l)), upd (jf (MVSt v) 6) i (hv (if rkT l < rkT m then l else m)), jf (MVSt v) 7, upd (jf (MVSt v) 8) i (nI (1 + rkT (if rkT l < rkT m then l else m))), MVSt v 3, MVSt v 4 + nI (swT l m)) := by
  unfold f_X9_repair
  rw [get_5 hi, Option.bind_some, get_6 hi, Option.bind_some, hl, hm, kl v rfl, Option.bind_some, km v rfl, Option.bind_some]
  by_cases h : rkT l < rkT m
  · rw [if_neg (show ¬ nI (rkT m) ≤ nI (rkT l) by rw [nI_leI (by omega) (by omega)]; omega), set_5 hi, bnd2_some, set_6 hi, bnd2_some, if_neg o4, if_neg o4]
    rw [show Int32.toNatClampNeg 4 = 4 from c500 (n := 4) (by decide)]
    generalize hS : upd (MVSt (MV_sSt (MV_sSt v (upd (MVSt v) (140 + 9 * i + 5) (hv m))) (upd (MVSt (MV_sSt v (upd (MVSt v) (140 + 9 * i + 5) (hv m)))) (140 + 9 * i + 6) (hv l)))) 4 (MVSt (MV_sSt (MV_sSt v (upd (MVSt v) (140 + 9 * i + 5) (hv m))) (upd (MVSt (MV_sSt v (upd (MVSt v) (140 + 9 * i + 5) (hv m)))) (140 + 9 * i + 6) (hv l))) 4 + 1) = S
    have hS' : upd (upd (upd (MVSt v) (140 + 9 * i + 5) (hv m)) (140 + 9 * i + 6) (hv l)) 4 (MVSt v 4 + 1) = S := by
      rw [← hS]
      show _ = upd (upd (upd (MVSt v) (140 + 9 * i + 5) (hv m)) (140 + 9 * i + 6) (hv l)) 4 (upd (upd (MVSt v) (140 + 9 * i + 5) (hv m)) (140 + 9 * i + 6) (hv l) 4 + 1)
      rw [upd_ne (show 4 ≠ 140 + 9 * i + 6 by omega), upd_ne (show 4 ≠ 140 + 9 * i + 5 by omega)]
    have j5 : jf S 5 = upd (jf (MVSt v) 5) i (hv m) := by rw [← hS', jf_lo (by decide), jf_ne (by decide) (by decide) (by decide), jf_same]
    have j6 : jf S 6 = upd (jf (MVSt v) 6) i (hv l) := by rw [← hS', jf_lo (by decide), jf_same, jf_ne (by decide) (by decide) (by decide)]
    have j7 : jf S 7 = jf (MVSt v) 7 := by rw [← hS', jf_lo (by decide), jf_ne (by decide) (by decide) (by decide), jf_ne (by decide) (by decide) (by decide)]
    have j8 : jf S 8 = jf (MVSt v) 8 := by rw [← hS', jf_lo (by decide), jf_ne (by decide) (by decide) (by decide), jf_ne (by decide) (by decide) (by decide)]
    have hF : frM (MVSt v) S := by
      rw [← hS']
      exact (frM.job (by decide) (by decide)).tr ((frM.job (by decide) (by decide)).tr (frM.cnt (Or.inr rfl)))
    rw [get_6 hi, Option.bind_some, show jf (MVSt (MV_sSt (MV_sSt (MV_sSt v (upd (MVSt v) (140 + 9 * i + 5) (hv m))) (upd (MVSt (MV_sSt v (upd (MVSt v) (140 + 9 * i + 5) (hv m)))) (140 + 9 * i + 6) (hv l))) S)) 6 i = hv l from by show jf S 6 i = _; rw [j6, upd_eq]]
    have k9 : ∀ x y, f_X9_rankOf (MV_sSt (MV_sSt (MV_sSt v x) y) S) (hv l) = some (nI (rkT l)) := fun x y => kl _ j8
    rw [k9, Option.bind_some, set_8 hi, bnd2_some, one_nI]
    refine ⟨upd S (140 + 9 * i + 8) (nI (1 + rkT l)), rfl, hF.tr (frM.job (by decide) (by decide)), ?_⟩
    simp only [if_pos h, swT]
    unfold gM
    rw [jf_ne (by decide) (by decide) (by decide), jf_ne (by decide) (by decide) (by decide), jf_ne (by decide) (by decide) (by decide), jf_same, j5, j6, j7, j8, upd_ne (show 3 ≠ 140 + 9 * i + 8 by omega), upd_ne (show 4 ≠ 140 + 9 * i + 8 by omega), ← hS', upd_eq, upd_ne (show 3 ≠ 4 by decide), upd_ne (show 3 ≠ 140 + 9 * i + 6 by omega), upd_ne (show 3 ≠ 140 + 9 * i + 5 by omega)]
    rfl
  · rw [if_pos (show nI (rkT m) ≤ nI (rkT l) by rw [nI_leI (by omega) (by omega)]; omega), Option.bind_some, km v rfl, Option.bind_some, set_8 hi, bnd2_some, one_nI]
    refine ⟨upd (MVSt v) (140 + 9 * i + 8) (nI (1 + rkT m)), rfl, frM.job (by decide) (by decide), ?_⟩
    simp only [if_neg h, swT]
    unfold gM
    rw [jf_ne (by decide) (by decide) (by decide), jf_ne (by decide) (by decide) (by decide), jf_ne (by decide) (by decide) (by decide), jf_same, upd_ne (show 3 ≠ 140 + 9 * i + 8 by omega), upd_ne (show 4 ≠ 140 + 9 * i + 8 by omega), upd_same hl, upd_same hm, show MVSt v 4 + nI 0 = MVSt v 4 from Int32.add_zero _]
/-- link on the right, and repair -/
theorem mstep {v : MV} {i : Nat} {l m : Tr} (hi : i < 40) (hl : jf (MVSt v) 5 i = hv l) (sl : sub (gM (MVSt v)) l) (sm : sub (gM (MVSt v)) m) (bl : rkT l ≤ 100) (bm : rkT m ≤ 100) :
    ∃ w st, f_X9_link v (nI i) 6 (hv m) = some ((), w) ∧ f_X9_repair w (nI i) = some ((), MV_sSt v st) ∧ frM (MVSt v) st ∧ gM st = stp (gM (MVSt v)) i l m := by
  have key : ∃ st1, f_X9_link v (nI i) 6 (hv m) = some ((), MV_sSt v st1) ∧ frM (MVSt v) st1 ∧ gM st1 = (jf (MVSt v) 5, upd (jf (MVSt v) 6) i (hv m), gU (setU (gM (MVSt v)) m (nI i)), jf (MVSt v) 8, MVSt v 3, MVSt v 4) := by
    unfold f_X9_link
    rw [set_6 hi, bnd2_some]
    cases m with
    | leaf u =>
      rw [if_pos hvl]
      refine ⟨_, rfl, frM.job (by decide) (by decide), ?_⟩
      unfold gM
      rw [jf_ne (by decide) (by decide) (by decide), jf_same, jf_ne (by decide) (by decide) (by decide), jf_ne (by decide) (by decide) (by decide), upd_ne (show 3 ≠ 140 + 9 * i + 6 by omega), upd_ne (show 4 ≠ 140 + 9 * i + 6 by omega)]
      rfl
    | branch j a b =>
      have hj : j < 40 := sm.1
      show ∃ st1, (if nI j = -1 then _ else _) = _ ∧ _
      rw [if_neg (nI_m hj), show hv (.branch j a b) = nI j from rfl, set_7 hj, bnd2_some]
      refine ⟨_, rfl, (frM.job (i := i) (k := 6) (x := nI j) (by decide) (by decide)).tr (frM.job (by decide) (by decide)), ?_⟩
      show gM (upd (upd (MVSt v) (140 + 9 * i + 6) (nI j)) (140 + 9 * j + 7) (nI i)) = _
      unfold gM
      rw [jf_ne (by decide) (by decide) (by decide), jf_ne (by decide) (by decide) (by decide), jf_ne (by decide) (by decide) (by decide), jf_same, jf_same, jf_ne (by decide) (by decide) (by decide), jf_ne (by decide) (by decide) (by decide), jf_ne (by decide) (by decide) (by decide), upd_ne (show 3 ≠ 140 + 9 * j + 7 by omega), upd_ne (show 4 ≠ 140 + 9 * j + 7 by omega), upd_ne (show 3 ≠ 140 + 9 * i + 6 by omega), upd_ne (show 4 ≠ 140 + 9 * i + 6 by omega)]
      rfl
  obtain ⟨st1, k1, k2, k3⟩ := key
  have e5 : jf st1 5 = jf (MVSt v) 5 := congrArg gL k3
  have e6 : jf st1 6 = upd (jf (MVSt v) 6) i (hv m) := congrArg gR k3
  have e7 : jf st1 7 = gU (setU (gM (MVSt v)) m (nI i)) := congrArg gU k3
  have e8 : jf st1 8 = jf (MVSt v) 8 := congrArg gK k3
  have e3 : st1 3 = MVSt v 3 := congrArg gC k3
  have e4 : st1 4 = MVSt v 4 := congrArg gS k3
  obtain ⟨st, h1, h2, h3⟩ := repair_ok (v := MV_sSt v st1) (i := i) (l := l) (m := m) hi (by show jf st1 5 i = _; rw [e5, hl]) (by show jf st1 6 i = _; rw [e6, upd_eq]) (fun w hw => mrank_k sl (hw.trans e8)) (fun w hw => mrank_k sm (hw.trans e8)) bl bm
  refine ⟨_, st, k1, h1, k2.tr h2, ?_⟩
  rw [h3]
  show (upd (jf st1 5) i _, upd (jf st1 6) i _, jf st1 7, upd (jf st1 8) i _, st1 3, st1 4 + _) = _
  rw [e5, e6, e7, e8, e3, e4, upd_twice]
  rfl
def mprOK (st : Nat → Int32) (pr : Nat → Nat) : Prop := ∀ k, k < 40 → jf st 1 k = nI (pr k) ∧ pr k < 1000
theorem nI_sub {x y : Nat} (hx : x < 1000) (hy : y < 1000) : (nI y - nI x).toInt = (y : Int) - x := by
  rw [Int32.toInt_sub, nI_toInt (by omega), nI_toInt (by omega)]
  exact Int.bmod_eq_of_le (by omega) (by omega)
theorem mprec_ok {v : MV} {pr : Nat → Nat} {i j : Nat} (hi : i < 40) (hj : j < 40) (hp : mprOK (MVSt v) pr) : f_X9_precedes v (nI i) (nI j) = some (if prc pr i j = true then 1 else 0) := by
  unfold f_X9_precedes
  rw [get_1 hj, Option.bind_some, get_1 hi, Option.bind_some, (hp i hi).1, (hp j hj).1]
  have e0 := nI_sub (hp i hi).2 (hp j hj).2
  have e1 : (0 < nI (pr j) - nI (pr i)) ↔ pr i < pr j := by
    rw [Int32.lt_iff_toInt_lt, e0]
    show (0 : Int) < _ ↔ _
    omega
  have e2 : (nI (pr j) - nI (pr i) = 0) ↔ pr i = pr j := by
    rw [← Int32.toInt_inj, e0]
    show _ = (0 : Int) ↔ _
    omega
  have e3 := @nI_leI j i (by omega) (by omega)
  have e4 := @prc_iff pr i j
  by_cases c1 : pr i < pr j
  · rw [if_pos (e1.mpr c1), if_pos (e4.mpr (Or.inl c1))]
  · rw [if_neg (fun h => c1 (e1.mp h))]
    by_cases c2 : pr i = pr j
    · rw [if_pos (e2.mpr c2)]
      by_cases c3 : j ≤ i
      · rw [if_pos (e3.mpr c3), if_neg (fun h => by have := e4.mp h; omega)]
      · rw [if_neg (fun h => c3 (e3.mp h)), if_pos (e4.mpr (Or.inr ⟨c2, by omega⟩))]
    · rw [if_neg (fun h => c2 (e2.mp h)), if_neg (fun h => by have := e4.mp h; omega)]
theorem mmerge_ok {pr : Nat → Nat} : ∀ (N : Nat) {a b : Tr} {n : Nat} {v : MV}, (nds a).length + (nds b).length ≤ N → N < n → N ≤ 40 → sub (gM (MVSt v)) a → sub (gM (MVSt v)) b → (nds a).Nodup → (nds b).Nodup → dsj a b → mprOK (MVSt v) pr →
    ∃ st, f_X9_merge n v (hv a) (hv b) = some (hv (mg pr a b).1, MV_sSt v st) ∧ MSp pr (gM (MVSt v)) (gM st) a b ∧ frM (MVSt v) st := by
  intro N
  induction N with
  | zero =>
    intro a b n v hN hn _ sa sb na nb hab hp
    cases a with
    | branch i la ra => simp [nds] at hN
    | leaf ua =>
    obtain ⟨n, rfl⟩ : ∃ k, n = k + 1 := ⟨n - 1, by omega⟩
    rw [f_X9_merge, if_pos hvl]
    exact ⟨MVSt v, rfl, ⟨sb, fun _ _ _ => eqG.rf, (Int32.add_zero _).symm, (Int32.add_zero _).symm⟩, frM.rf⟩
  | succ N ih =>
    intro a b n v hN hn h40 sa sb na nb hab hp
    obtain ⟨n, rfl⟩ : ∃ k, n = k + 1 := ⟨n - 1, by omega⟩
    cases a with
    | leaf ua =>
      rw [f_X9_merge, if_pos hvl]
      exact ⟨MVSt v, rfl, ⟨sb, fun _ _ _ => eqG.rf, (Int32.add_zero _).symm, (Int32.add_zero _).symm⟩, frM.rf⟩
    | branch i la ra =>
      have hi : i < 40 := sa.1
      cases b with
      | leaf ub =>
        rw [f_X9_merge, show hv (.branch i la ra) = nI i from rfl, if_neg (nI_m hi), if_pos hvl, mg_r]
        exact ⟨MVSt v, rfl, ⟨by rw [mg_r]; exact sa, fun _ _ _ => eqG.rf, by rw [mg_r]; exact (Int32.add_zero _).symm, by rw [mg_r]; exact (Int32.add_zero _).symm⟩, frM.rf⟩
      | branch j lb rb =>
        have hj : j < 40 := sb.1
        rw [f_X9_merge, show hv (.branch i la ra) = nI i from rfl, show hv (.branch j lb rb) = nI j from rfl, if_neg (nI_m hi), if_neg (nI_m hj), if_neg o3, if_neg o3, show Int32.toNatClampNeg 3 = 3 from c500 (n := 3) (by decide)]
        generalize hv2 : MV_sSt v (upd (MVSt v) 3 (MVSt v 3 + 1)) = v2
        have hst : MVSt v2 = upd (MVSt v) 3 (MVSt v 3 + 1) := by rw [← hv2]; rfl
        have g2 : gM (MVSt v2) = (jf (MVSt v) 5, jf (MVSt v) 6, jf (MVSt v) 7, jf (MVSt v) 8, MVSt v 3 + 1, MVSt v 4) := by
          rw [hst]
          unfold gM
          rw [jf_lo (by decide), jf_lo (by decide), jf_lo (by decide), jf_lo (by decide), upd_eq, upd_ne (show 4 ≠ 3 by decide)]
        have eq2 : ∀ k, eqG (gM (MVSt v)) (gM (MVSt v2)) k := fun k => by rw [g2]; exact ⟨rfl, rfl, rfl, rfl⟩
        have hp2 : mprOK (MVSt v2) pr := fun k hk => by rw [hst, jf_lo (by decide)]; exact hp k hk
        have f2 : frM (MVSt v) (MVSt v2) := by rw [hst]; exact frM.cnt (Or.inl rfl)
        rw [mprec_ok hi hj hp2, Option.bind_some]
        have one : ∀ (x : Int32) (c : Nat), x + 1 + nI c = x + nI (c + 1) := fun x c => by
          rw [Int32.add_assoc, Nat.add_comm c 1]
          exact congrArg (x + ·) (one_nI c)
        simp only [nds, List.length_cons, List.length_append] at hN
        cases e : prc pr i j with
        | true =>
          rw [if_pos rfl, if_neg (by decide), if_neg (by decide)]
          have na2 := nd_br na
          rw [get_6 hi, Option.bind_some, show jf (MVSt v2) 6 i = hv ra from (congrFun (congrArg gR g2) i).trans sa.2.2.1]
          obtain ⟨st, h1, ⟨h2, h3, h4, h5⟩, h6⟩ := @ih ra (.branch j lb rb) n v2 (by simp only [nds, List.length_cons, List.length_append]; omega) (by omega) (by omega) (sub_congr (fun k _ => eq2 k) sa.2.2.2.2.2.2.2) (sub_congr (fun k _ => eq2 k) sb) na2.2.2.2.2 nb (fun k g1 g3 => hab k (by simp [nds, g1]) g3) hp2
          rw [show hv (.branch j lb rb) = nI j from rfl] at h1
          rw [h1, bnd2_some]
          obtain ⟨q1, q2⟩ := MSp.step (G1 := gM st) (sub_congr (fun k _ => eq2 k) sa) na nb hab h2 h3
          have hlw : jf st 5 i = hv la := ((h3 i (fun g => na2.2.1 g) (fun g => hab i (by simp [nds]) g)).1.trans (eq2 i).1).trans sa.2.1
          have slw : sub (gM st) la := sub_congr (fun k hk => (eq2 k).tr (h3 k (fun g => na2.2.2.1 k hk g) (fun g => hab k (by simp [nds, hk]) g))) sa.2.2.2.2.2.2.1
          have b1 := @rk_len la
          have b2 := @rk_len (mg pr ra (.branch j lb rb)).1
          have b3 := (@nds_mg pr ra (.branch j lb rb)).length_eq
          simp only [nds, List.length_append, List.length_cons] at b3
          obtain ⟨w, st2, k1, k2, k3, k4⟩ := mstep (v := MV_sSt v2 st) hi hlw slw h2 (by omega) (by omega)
          rw [k1, bnd2_some, k2, bnd2_some]
          refine ⟨st2, ?_, ⟨?_, fun k k1 k2 => ?_, ?_, ?_⟩, f2.tr (h6.tr k3)⟩
          · rw [mg_1 e, hv_fix, ← hv2]; rfl
          · rw [mg_1 e, k4]; exact q1
          · rw [k4]; exact (eq2 k).tr (q2 k k1 k2)
          · rw [k4, mg_1 e]
            show gC (gM st) = _
            rw [h4, g2]
            exact one _ _
          · rw [k4, mg_1 e]
            show gS (gM st) + nI _ = _
            rw [h5, g2, Int32.add_assoc, nI_add]
            rfl
        | false =>
          rw [if_neg Bool.false_ne_true, if_pos rfl, if_pos rfl]
          have nb2 := nd_br nb
          rw [get_6 hj, Option.bind_some, show jf (MVSt v2) 6 j = hv rb from (congrFun (congrArg gR g2) j).trans sb.2.2.1]
          obtain ⟨st, h1, ⟨h2, h3, h4, h5⟩, h6⟩ := @ih rb (.branch i la ra) n v2 (by simp only [nds, List.length_cons, List.length_append]; omega) (by omega) (by omega) (sub_congr (fun k _ => eq2 k) sb.2.2.2.2.2.2.2) (sub_congr (fun k _ => eq2 k) sa) nb2.2.2.2.2 na (fun k g1 g3 => hab k g3 (by simp [nds, g1])) hp2
          rw [show hv (.branch i la ra) = nI i from rfl] at h1
          have hcm : mg pr (.branch i la ra) rb = mg pr rb (.branch i la ra) := mg_comm (fun k g1 g3 => hab k g1 (by simp [nds, g3]))
          rw [h1, bnd2_some]
          obtain ⟨q1, q2⟩ := MSp.step (pr := pr) (G1 := gM st) (sub_congr (fun k _ => eq2 k) sb) nb na hab.symm h2 h3
          have hlw : jf st 5 j = hv lb := ((h3 j (fun g => nb2.2.1 g) (fun g => hab j g (by simp [nds]))).1.trans (eq2 j).1).trans sb.2.1
          have slw : sub (gM st) lb := sub_congr (fun k hk => (eq2 k).tr (h3 k (fun g => nb2.2.2.1 k hk g) (fun g => hab k g (by simp [nds, hk])))) sb.2.2.2.2.2.2.1
          have b1 := @rk_len lb
          have b2 := @rk_len (mg pr rb (.branch i la ra)).1
          have b3 := (@nds_mg pr rb (.branch i la ra)).length_eq
          simp only [nds, List.length_append, List.length_cons] at b3
          obtain ⟨w, st2, k1, k2, k3, k4⟩ := mstep (v := MV_sSt v2 st) hj hlw slw h2 (by omega) (by omega)
          rw [k1, bnd2_some, k2, bnd2_some]
          refine ⟨st2, ?_, ⟨?_, fun k k1 k2 => ?_, ?_, ?_⟩, f2.tr (h6.tr k3)⟩
          · rw [mg_2 e, hv_fix, ← hv2]; rfl
          · rw [mg_2 e, k4, hcm]; exact q1
          · rw [k4]; exact (eq2 k).tr (q2 k k2 k1)
          · rw [k4, mg_2 e, hcm]
            show gC (gM st) = _
            rw [h4, g2]
            exact one _ _
          · rw [k4, mg_2 e, hcm]
            show gS (gM st) + nI _ = _
            rw [h5, g2, Int32.add_assoc, nI_add]
            rfl
