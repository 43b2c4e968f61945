/-! ===== 23: taking a job out of its heap ===== -/
/-- the way from a node up to the root: on which side it hangs (true: left), below whom, beside what -/
abbrev Ctx : Type := List (Bool × Nat × Tr)
def zp (i : Nat) : Tr → Ctx → Ctx × Tr × Tr
  | .leaf u, K => (K, .leaf u, .leaf u)
  | .branch j l r, K => if i = j then (K, l, r) else if i ∈ nds l then zp i l ((true, j, r) :: K) else zp i r ((false, j, l) :: K)
def plT : Ctx → Tr → Tr
  | [], t => t
  | (true, j, s) :: K, t => plT K (.branch j t s)
  | (false, j, s) :: K, t => plT K (.branch j s t)
def cNds : Ctx → List Nat
  | [] => []
  | (_, j, s) :: K => j :: (nds s ++ cNds K)
def fixC : Ctx → Tr → Tr × Nat
  | [], t => (t, 0)
  | (true, j, s) :: K, t => ((fixC K (fixT j t s)).1, swT t s + (fixC K (fixT j t s)).2)
  | (false, j, s) :: K, t => ((fixC K (fixT j s t)).1, swT s t + (fixC K (fixT j s t)).2)
def top : Ctx → Int32
  | [] => -1
  | (_, j, _) :: _ => nI j
def cx (G : HG) : Ctx → Int32 → Prop
  | [], _ => True
  | (b, j, s) :: K, c => j < 40 ∧ gL G j = (if b = true then c else hv s) ∧ gR G j = (if b = true then hv s else c) ∧ sub G s ∧ upK G s (nI j) ∧ gU G j = top K ∧ cx G K (nI j)
theorem zp_pl {i : Nat} : ∀ {t : Tr} {K : Ctx}, i ∈ nds t → plT (zp i t K).1 (.branch i (zp i t K).2.1 (zp i t K).2.2) = plT K t := by
  intro t
  induction t with
  | leaf u => intro K h; simp [nds] at h
  | branch j l r ihl ihr =>
    intro K h
    unfold zp
    by_cases e : i = j
    · rw [if_pos e, e]
    · rw [if_neg e]
      by_cases e2 : i ∈ nds l
      · rw [if_pos e2, ihl e2]; rfl
      · rw [if_neg e2]
        simp only [nds, List.mem_cons, List.mem_append] at h
        have e3 : i ∈ nds r := (h.resolve_left e).resolve_left e2
        rw [ihr e3]; rfl
theorem pl_perm : ∀ {K : Ctx} {t : Tr}, (nds (plT K t)).Perm (nds t ++ cNds K) := by
  intro K
  induction K with
  | nil => intro t; simp [plT, cNds]
  | cons f K ih =>
    obtain ⟨b, j, s⟩ := f
    intro t
    cases b with
    | true =>
      refine (@ih (.branch j t s)).trans ?_
      show (j :: (nds t ++ nds s) ++ cNds K).Perm (nds t ++ j :: (nds s ++ cNds K))
      rw [List.cons_append, List.append_assoc]
      exact List.perm_middle.symm
    | false =>
      refine (@ih (.branch j s t)).trans ?_
      show (j :: (nds s ++ nds t) ++ cNds K).Perm (nds t ++ j :: (nds s ++ cNds K))
      rw [List.cons_append, List.append_assoc]
      refine List.Perm.trans ?_ List.perm_middle.symm
      refine List.Perm.cons _ ?_
      rw [← List.append_assoc, ← List.append_assoc]
      exact List.Perm.append_right _ List.perm_append_comm
theorem fix_perm : ∀ {K : Ctx} {t : Tr}, (nds (fixC K t).1).Perm (nds t ++ cNds K) := by
  intro K
  induction K with
  | nil => intro t; simp [fixC, cNds]
  | cons f K ih =>
    obtain ⟨b, j, s⟩ := f
    intro t
    cases b with
    | true =>
      refine (@ih (fixT j t s)).trans ?_
      refine (List.Perm.append_right _ nds_fix).trans ?_
      show (j :: (nds t ++ nds s) ++ cNds K).Perm (nds t ++ j :: (nds s ++ cNds K))
      rw [List.cons_append, List.append_assoc]
      exact List.perm_middle.symm
    | false =>
      refine (@ih (fixT j s t)).trans ?_
      refine (List.Perm.append_right _ nds_fix).trans ?_
      show (j :: (nds s ++ nds t) ++ cNds K).Perm (nds t ++ j :: (nds s ++ cNds K))
      rw [List.cons_append, List.append_assoc]
      refine List.Perm.trans ?_ List.perm_middle.symm
      refine List.Perm.cons _ ?_
      rw [← List.append_assoc, ← List.append_assoc]
      exact List.Perm.append_right _ List.perm_append_comm
theorem sub_pl {G : HG} : ∀ {K : Ctx} {t : Tr}, sub G (plT K t) → upK G (plT K t) (-1) → sub G t ∧ upK G t (top K) ∧ cx G K (hv t) := by
  intro K
  induction K with
  | nil => intro t h1 h2; exact ⟨h1, h2, trivial⟩
  | cons f K ih =>
    obtain ⟨b, j, s⟩ := f
    intro t h1 h2
    cases b with
    | true =>
      obtain ⟨⟨g1, g2, g3, g4, g5, g6, g7, g8⟩, k2, k3⟩ := @ih (.branch j t s) h1 h2
      exact ⟨g7, g5, g1, by rw [if_pos rfl]; exact g2, by rw [if_pos rfl]; exact g3, g8, g6, k2, k3⟩
    | false =>
      obtain ⟨⟨g1, g2, g3, g4, g5, g6, g7, g8⟩, k2, k3⟩ := @ih (.branch j s t) h1 h2
      exact ⟨g8, g6, g1, by rw [if_neg Bool.false_ne_true]; exact g2, by rw [if_neg Bool.false_ne_true]; exact g3, g7, g5, k2, k3⟩
theorem cx_congr {G G' : HG} : ∀ {K : Ctx} {c : Int32}, (∀ j ∈ cNds K, eqG G G' j) → cx G K c → cx G' K c := by
  intro K
  induction K with
  | nil => intro c _ _; trivial
  | cons f K ih =>
    obtain ⟨b, j, s⟩ := f
    intro c h ⟨g1, g2, g3, g4, g5, g6, g7⟩
    have hj := h j (by simp [cNds])
    have hs : ∀ k ∈ nds s, eqG G G' k := fun k hk => h k (by simp [cNds, hk])
    exact ⟨g1, hj.1.trans g2, hj.2.1.trans g3, sub_congr hs g4, upK_congr (fun k hk => (hs k hk).2.2.1) g5, hj.2.2.1.trans g6, ih (fun k hk => h k (by simp [cNds, hk])) g7⟩
theorem upd_up {G : HG} {m : Tr} {p : Int32} (h : upK G m p) : gU (setU G m p) = gU G := by
  cases m with
  | leaf u => rfl
  | branch j a b => exact upd_same h
/-- one round of repair, upwards: the new tree at this place, and what hangs above -/
theorem cx_step {G : HG} {K : Ctx} {j : Nat} {l m : Tr} (hj : j < 40) (ul : upK G l (nI j)) (um : upK G m (nI j)) (sl : sub G l) (sm : sub G m) (hu : gU G j = top K) (hk : cx G K (nI j)) (hn : (j :: (nds l ++ nds m) ++ cNds K).Nodup) :
    sub (stp G j l m) (fixT j l m) ∧ upK (stp G j l m) (fixT j l m) (top K) ∧ cx (stp G j l m) K (hv (fixT j l m)) ∧ (nds (fixT j l m) ++ cNds K).Nodup ∧ gU (stp G j l m) = gU G := by
  have hU : gU (stp G j l m) = gU G := upd_up um
  have hn2 := hn
  rw [List.cons_append, List.nodup_cons, List.append_assoc, List.nodup_append, List.nodup_append] at hn
  obtain ⟨n1, n2, ⟨n3, n4, n5⟩, n6⟩ := hn
  simp only [List.mem_append, not_or] at n1
  have e : ∀ k, k ≠ j → eqG G (stp G j l m) k := fun k hk => ⟨upd_ne hk, upd_ne hk, by rw [hU], upd_ne hk⟩
  refine ⟨stp_sub hj ul sl sm n1.1 n1.2.1 (fun x h1 h2 => n6 x h1 x (List.mem_append_left _ h2) rfl) n3, ?_, ?_, (List.Perm.append_right _ nds_fix).nodup_iff.mpr hn2, hU⟩
  · have : ∀ t : Tr, (∃ a b, t = .branch j a b) → upK (stp G j l m) t (top K) := by
      rintro t ⟨a, b, rfl⟩
      show gU (stp G j l m) j = _
      rw [hU, hu]
    apply this
    unfold fixT
    split
    · exact ⟨_, _, rfl⟩
    · exact ⟨_, _, rfl⟩
  · rw [hv_fix]
    exact cx_congr (fun k hk => e k (fun h => n1.2.2 (h ▸ hk))) hk
def cxL : Ctx → Nat
  | [] => 0
  | _ :: K => cxL K + 1
theorem cxL_le : ∀ {K : Ctx}, cxL K ≤ (cNds K).length
  | [] => Nat.zero_le _
  | (b, j, s) :: K => by
    have := @cxL_le K
    simp only [cxL, cNds, List.length_cons, List.length_append]
    omega
theorem rk40 {t : Tr} {L : List Nat} (h : (nds t).length ≤ 40) : rkT t ≤ 100 := by
  have := @rk_len t
  omega
theorem cx_lt {G : HG} : ∀ {K : Ctx} {c : Int32}, cx G K c → ∀ j ∈ cNds K, j < 40 := by
  intro K
  induction K with
  | nil => intro c _ j hj; simp [cNds] at hj
  | cons f K ih =>
    obtain ⟨b, j, s⟩ := f
    intro c ⟨g1, g2, g3, g4, g5, g6, g7⟩ k hk
    simp only [cNds, List.mem_cons, List.mem_append] at hk
    rcases hk with rfl | hk | hk
    · exact g1
    · exact sub_lt g4 k hk
    · exact ih g7 k hk
/-- the class's way up -/
theorem climb_ok : ∀ (K : Ctx) {t : Tr} {k n : Nat} {v : HV} {l1 l2 l3 l4 : Int32}, cx (gH v) K (hv t) → sub (gH v) t → upK (gH v) t (top K) → (nds t ++ cNds K).Nodup → cxL K + k ≤ 40 → cxL K < n →
    ∃ w, f_X0_takeOut_h91 n l1 l2 l3 l4 (top K) (nI k) v = some (l1, w) ∧ sub (gH w) (fixC K t).1 ∧ upK (gH w) (fixC K t).1 (-1) ∧ (∀ j, j ∉ nds t → j ∉ cNds K → eqG (gH v) (gH w) j) ∧ gC (gH w) = gC (gH v) ∧ gS (gH w) = gS (gH v) + nI (fixC K t).2 ∧ HVPr w = HVPr v := by
  intro K
  induction K with
  | nil =>
    intro t k n v l1 l2 l3 l4 hc hs hu hn hk h1
    obtain ⟨n, rfl⟩ : ∃ m, n = m + 1 := ⟨n - 1, by omega⟩
    rw [f_X0_takeOut_h91, show top [] = -1 from rfl]
    simp only [isNode_m, Option.bind_some, if_true, ite_self]
    exact ⟨v, rfl, hs, hu, fun _ _ _ => eqG.rf, rfl, (Int32.add_zero _).symm, rfl⟩
  | cons f K ih =>
    obtain ⟨b, j, s⟩ := f
    intro t k n v l1 l2 l3 l4 hc hs hu hn hk h1
    obtain ⟨n, rfl⟩ : ∃ m, n = m + 1 := ⟨n - 1, by omega⟩
    have hlt : ∀ x ∈ nds t ++ cNds ((b, j, s) :: K), x < 40 := fun x hx => (List.mem_append.mp hx).elim (sub_lt hs x) (cx_lt hc x)
    have hlen := nd_len hn hlt
    simp only [cNds, List.length_append, List.length_cons] at hlen
    obtain ⟨g1, g2, g3, g4, g5, g6, g7⟩ := hc
    simp only [cxL] at hk h1
    have hk40 : k < 40 := by omega
    rw [f_X0_takeOut_h91, if_neg (l40 hk40), show top ((b, j, s) :: K) = nI j from rfl, isNode_n g1, Option.bind_some, if_neg (by decide)]
    have main : ∀ (l m : Tr), HVLf v j = hv l → HVRt v j = hv m → upK (gH v) l (nI j) → upK (gH v) m (nI j) → sub (gH v) l → sub (gH v) m → (j :: (nds l ++ nds m) ++ cNds K).Nodup → (nds l).length + (nds m).length ≤ 40 → (∀ x, x ∉ nds t → x ∉ cNds ((b, j, s) :: K) → x ≠ j ∧ x ∉ nds l ∧ x ∉ nds m ∧ x ∉ cNds K) → fixC ((b, j, s) :: K) t = ((fixC K (fixT j l m)).1, swT l m + (fixC K (fixT j l m)).2) →
        ∃ w, (bnd2 (f_X0_settle v (nI j)) fun r30 w31 => if oob (nI j) 40 then none else f_X0_takeOut_h91 n l1 l2 l3 l4 ((HVUp w31) (Int32.toNatClampNeg (nI j))) (nI k + 1) w31) = some (l1, w) ∧ sub (gH w) (fixC ((b, j, s) :: K) t).1 ∧ upK (gH w) (fixC ((b, j, s) :: K) t).1 (-1) ∧ (∀ x, x ∉ nds t → x ∉ cNds ((b, j, s) :: K) → eqG (gH v) (gH w) x) ∧ gC (gH w) = gC (gH v) ∧ gS (gH w) = gS (gH v) + nI (fixC ((b, j, s) :: K) t).2 ∧ HVPr w = HVPr v := by
      intro l m hl hm ul um sl sm hnn hll hxx hfx
      have b1 := @rk_len l
      have b2 := @rk_len m
      have rk : ∀ (u : Tr), sub (gH v) u → ∀ w : HV, HVRk w = HVRk v → f_X0_rankOf w (hv u) = some (nI (rkT u)) := by
        intro u hu w hw
        cases u with
        | leaf q => exact rankOf_m
        | branch y a c =>
          show f_X0_rankOf w (nI y) = _
          rw [rankOf_n hu.1, hw]
          exact congrArg some hu.2.2.2.1
      rw [settle_ok (l := l) (m := m) g1 hl hm (rk l sl) (rk m sm) (by omega) (by omega), bnd2_some, if_neg (o40 g1), c40 g1]
      obtain ⟨q1, q2, q3, q4, q5⟩ := cx_step (K := K) g1 ul um sl sm g6 g7 hnn
      generalize hw1 : mkH v (upd (HVLf v) j (hv (if rkT l < rkT m then m else l)), upd (HVRt v) j (hv (if rkT l < rkT m then l else m)), HVUp v, upd (HVRk v) j (nI (1 + rkT (if rkT l < rkT m then l else m))), HVCm v, HVSw v + nI (swT l m)) (HVPa v) = w1
      have eG : gH w1 = stp (gH v) j l m := by
        rw [← hw1]
        show (_, _, gU (gH v), _, _, _) = (_, _, gU (stp (gH v) j l m), _, _, _)
        rw [q5]
        rfl
      have hu1 : HVUp w1 j = top K := by
        have : HVUp w1 = gU (gH w1) := rfl
        rw [this, eG, q5, g6]
      rw [hu1, show nI k + 1 = nI (k + 1) from nI_add k 1]
      obtain ⟨w, p1, p2, p3, p4, p5, p6, p7⟩ := @ih (fixT j l m) (k + 1) n w1 l1 l2 l3 l4 (by rw [eG]; exact q3) (by rw [eG]; exact q1) (by rw [eG]; exact q2) q4 (by omega) (by omega)
      refine ⟨w, p1, by rw [hfx]; exact p2, by rw [hfx]; exact p3, fun x k1 k2 => ?_, ?_, ?_, ?_⟩
      · obtain ⟨z1, z2, z3, z4⟩ := hxx x k1 k2
        have h9 := p4 x (fun h => by
          have := nds_fix.mem_iff.mp h
          simp only [List.mem_cons, List.mem_append] at this
          rcases this with h | h | h
          · exact z1 h
          · exact z2 h
          · exact z3 h) z4
        rw [eG] at h9
        exact (show eqG (gH v) (stp (gH v) j l m) x from ⟨upd_ne z1, upd_ne z1, by rw [q5], upd_ne z1⟩).tr h9
      · rw [p5, eG]; rfl
      · rw [p6, eG, hfx]
        show gS (gH v) + nI _ + nI _ = gS (gH v) + nI (_ + _)
        rw [Int32.add_assoc, nI_add]
      · rw [p7, ← hw1]; rfl
    cases b with
    | true =>
      rw [if_pos rfl] at g2 g3
      refine main t s g2 g3 hu g5 hs g4 ?_ ?_ ?_ rfl
      · refine List.Perm.nodup_iff ?_ |>.mp hn
        show (nds t ++ j :: (nds s ++ cNds K)).Perm _
        rw [List.cons_append, List.append_assoc]
        exact List.perm_middle
      · omega
      · intro x k1 k2
        simp only [cNds, List.mem_cons, List.mem_append, not_or] at k2
        exact ⟨k2.1, k1, k2.2.1, k2.2.2⟩
    | false =>
      rw [if_neg Bool.false_ne_true] at g2 g3
      refine main s t g2 g3 g5 hu g4 hs ?_ ?_ ?_ rfl
      · refine List.Perm.nodup_iff ?_ |>.mp hn
        show (nds t ++ j :: (nds s ++ cNds K)).Perm _
        rw [List.cons_append, List.append_assoc]
        refine List.perm_middle.trans (List.Perm.cons _ ?_)
        rw [← List.append_assoc, ← List.append_assoc]
        exact List.Perm.append_right _ List.perm_append_comm
      · omega
      · intro x k1 k2
        simp only [cNds, List.mem_cons, List.mem_append, not_or] at k2
        exact ⟨k2.1, k2.2.1, k1, k2.2.2⟩
/-- a job taken out of a tree -/
def rmT (pr : Nat → Nat) (i : Nat) (t : Tr) : Tr × Nat × Nat :=
  ((fixC (zp i t []).1 (mg pr (zp i t []).2.1 (zp i t []).2.2).1).1, (mg pr (zp i t []).2.1 (zp i t []).2.2).2.1, (mg pr (zp i t []).2.1 (zp i t []).2.2).2.2 + (fixC (zp i t []).1 (mg pr (zp i t []).2.1 (zp i t []).2.2).1).2)
theorem rm_perm {pr : Nat → Nat} {i : Nat} {t : Tr} (h : i ∈ nds t) : (i :: nds (rmT pr i t).1).Perm (nds t) := by
  have e := zp_pl (K := []) h
  have h1 := @pl_perm (zp i t []).1 (.branch i (zp i t []).2.1 (zp i t []).2.2)
  rw [e] at h1
  refine List.Perm.trans ?_ h1.symm
  refine List.Perm.cons _ ?_
  exact fix_perm.trans (List.Perm.append_right _ nds_mg)
theorem top_fix : ∀ {K : Ctx} {a b : Tr}, K ≠ [] → hv (fixC K a).1 = hv (plT K b) := by
  intro K
  induction K with
  | nil => intro a b h; exact absurd rfl h
  | cons f K ih =>
    obtain ⟨c, j, s⟩ := f
    intro a b _
    cases hK : K with
    | nil =>
      cases c with
      | true => show hv (fixT j a s) = nI j; exact hv_fix
      | false => show hv (fixT j s a) = nI j; exact hv_fix
    | cons g K' =>
      rw [← hK]
      cases c with
      | true => exact ih (by rw [hK]; simp)
      | false => exact ih (by rw [hK]; simp)
theorem hv_mem {t : Tr} {i : Nat} {G : HG} (hs : sub G t) (h : hv t = nI i) (hi : i < 40) : i ∈ nds t := by
  cases t with
  | leaf u => exact absurd h.symm (nI_m hi)
  | branch j l r =>
    have : j = i := (nI_eq (by have := hs.1; omega) (by omega)).mp h
    simp [nds, this]
/-- what taking out does -/
def RSp (pr : Nat → Nat) (G G' : HG) (i : Nat) (t : Tr) : Prop :=
  sub G' (rmT pr i t).1 ∧ upK G' (rmT pr i t).1 (-1) ∧ (∀ j, j ∉ nds t → eqG G G' j) ∧ (gL G' i = -1 ∧ gR G' i = -1 ∧ gU G' i = -1 ∧ gK G' i = 0) ∧ gC G' = gC G + nI (rmT pr i t).2.1 ∧ gS G' = gS G + nI (rmT pr i t).2.2
theorem takeOut_ok {v : HV} {pr : Nat → Nat} {i : Nat} {t : Tr} (hs : sub (gH v) t) (hu : upK (gH v) t (-1)) (hn : (nds t).Nodup) (hi : i ∈ nds t) (hp : prOK v pr) :
    ∃ w, f_X0_takeOut v (hv t) (nI i) = some (hv (rmT pr i t).1, w) ∧ RSp pr (gH v) (gH w) i t ∧ HVPr w = HVPr v := by
  have i40 := sub_lt hs i hi
  have e := zp_pl (K := []) hi
  have hpp := @pl_perm (zp i t []).1 (.branch i (zp i t []).2.1 (zp i t []).2.2)
  unfold RSp rmT
  generalize hK : (zp i t []).1 = K at *
  generalize hl : (zp i t []).2.1 = l at *
  generalize hr : (zp i t []).2.2 = r at *
  have et : plT K (.branch i l r) = t := e
  rw [et] at hpp
  obtain ⟨⟨g1, g2, g3, g4, g5, g6, g7, g8⟩, k2, k3⟩ := sub_pl (G := gH v) (K := K) (t := .branch i l r) (by rw [et]; exact hs) (by rw [et]; exact hu)
  have hn2 : (nds (.branch i l r) ++ cNds K).Nodup := hpp.nodup_iff.mp hn
  have hn3 := List.nodup_append.mp hn2
  obtain ⟨m1', m2', m3', m4', m5'⟩ := nd_br hn3.1
  have hiK : i ∉ cNds K := fun h => hn3.2.2 i (by simp [nds]) i h rfl
  have hlK : ∀ x, x ∈ nds l → x ∉ cNds K := fun x h1 h2 => hn3.2.2 x (by simp [nds, h1]) x h2 rfl
  have hrK : ∀ x, x ∈ nds r → x ∉ cNds K := fun x h1 h2 => hn3.2.2 x (by simp [nds, h1]) x h2 rfl
  obtain ⟨w1, q1, ⟨q2, q3, q4, q5⟩, q6, q7⟩ := merge_ok (v := v) (pr := pr) (a := l) (b := r) g7 g8 m4' m5' m3' hp
  unfold f_X0_takeOut
  rw [isNode_n i40, Option.bind_some, if_neg (by decide)]
  simp only [if_neg (o40 i40), c40 i40]
  rw [show HVLf v i = hv l from g2, show HVRt v i = hv r from g3, q1, bnd2_some]
  have hun : f_X0_unlink w1 (nI i) = some ((), (HVPr w1, upd (HVLf w1) i (-1), upd (HVRt w1) i (-1), upd (HVUp w1) i (-1), upd (HVRk w1) i 0, HVCm w1, HVSw w1, HVPa w1)) := by
    unfold f_X0_unlink
    simp only [if_neg (o40 i40), c40 i40]
  rw [hun, bnd2_some]
  generalize hw2 : (HVPr w1, upd (HVLf w1) i (-1), upd (HVRt w1) i (-1), upd (HVUp w1) i (-1), upd (HVRk w1) i 0, HVCm w1, HVSw w1, HVPa w1) = w2
  have e2 : ∀ x, x ≠ i → eqG (gH w1) (gH w2) x := fun x hx => by rw [← hw2]; exact ⟨upd_ne hx, upd_ne hx, upd_ne hx, upd_ne hx⟩
  have z2 : gL (gH w2) i = -1 ∧ gR (gH w2) i = -1 ∧ gU (gH w2) i = -1 ∧ gK (gH w2) i = 0 := by rw [← hw2]; exact ⟨upd_eq, upd_eq, upd_eq, upd_eq⟩
  have him : i ∉ nds (mg pr l r).1 := fun h => (mem_mg.mp h).elim m1' m2'
  have s2 : sub (gH w2) (mg pr l r).1 := sub_congr (fun x hx => e2 x (fun h => him (h ▸ hx))) q2
  have u2 : upK (gH w2) (mg pr l r).1 (-1) := upK_congr (fun x hx => (e2 x (fun h => him (h ▸ hx))).2.2.1) q6
  have c2 : gC (gH w2) = gC (gH v) + nI (mg pr l r).2.1 := by rw [← q4, ← hw2]; rfl
  have s2' : gS (gH w2) = gS (gH v) + nI (mg pr l r).2.2 := by rw [← q5, ← hw2]; rfl
  have p2 : HVPr w2 = HVPr v := by rw [← q7, ← hw2]; rfl
  have hKx : ∀ x ∈ cNds K, eqG (gH v) (gH w2) x := fun x hx => (q3 x (fun h => hlK x h hx) (fun h => hrK x h hx)).tr (e2 x (fun h => hiK (h ▸ hx)))
  have hnt : ∀ x, x ∉ nds t → x ≠ i ∧ x ∉ nds l ∧ x ∉ nds r ∧ x ∉ cNds K := by
    intro x hx
    rw [hpp.mem_iff] at hx
    simp only [nds, List.mem_append, List.mem_cons, not_or] at hx
    exact ⟨hx.1.1, hx.1.2.1, hx.1.2.2, hx.2⟩
  rw [show HVUp v i = top K from k2]
  cases K with
  | nil =>
    rw [show top [] = -1 from rfl, isNode_m, Option.bind_some, if_pos rfl]
    refine ⟨w2, rfl, ⟨s2, u2, fun x hx => ?_, z2, c2, by rw [s2']; rfl⟩, p2⟩
    obtain ⟨h1, h2, h3, h4⟩ := hnt x hx
    exact (q3 x h2 h3).tr (e2 x h1)
  | cons f K =>
    obtain ⟨b, j, s⟩ := f
    obtain ⟨y1, y2, y3, y4, y5, y6, y7⟩ := k3
    have hji : j ≠ i := fun h => hiK (by simp [cNds, h])
    have hjm : j ∉ nds (mg pr l r).1 := fun h => (mem_mg.mp h).elim (fun h => hlK j h (by simp [cNds])) (fun h => hrK j h (by simp [cNds]))
    have hsi : i ∉ nds s := fun h => hiK (by simp [cNds, h])
    have hjs : j ∉ nds s ∧ j ∉ cNds K := by
      have := hn3.2.1
      simp only [cNds, List.nodup_cons, List.mem_append, not_or] at this
      exact this.1
    have hms : ∀ x, x ∈ nds (mg pr l r).1 → x ∉ nds s ∧ x ∉ cNds K := fun x hx => by
      have : x ∉ cNds ((b, j, s) :: K) := (mem_mg.mp hx).elim (hlK x) (hrK x)
      simp only [cNds, List.mem_cons, List.mem_append, not_or] at this
      exact this.2
    have nm : (nds (mg pr l r).1 ++ cNds ((b, j, s) :: K)).Nodup := by
      refine List.nodup_append.mpr ⟨nodup_of_mg m4' m5' m3', hn3.2.1, fun x h1 y h2 hxy => ?_⟩
      subst hxy
      exact (mem_mg.mp h1).elim (fun h => hlK x h h2) (fun h => hrK x h h2)
    have hlen : cxL ((b, j, s) :: K) ≤ 40 := Nat.le_trans cxL_le (nd_len hn3.2.1 (fun x hx => by
      refine sub_lt hs x ?_
      rw [hpp.mem_iff]
      exact List.mem_append_right _ hx))
    have eL2 : HVLf w2 j = (if b = true then nI i else hv s) := ((hKx j (by simp [cNds])).1).trans y2
    have eR2 : HVRt w2 j = (if b = true then hv s else nI i) := ((hKx j (by simp [cNds])).2.1).trans y3
    rw [show top ((b, j, s) :: K) = nI j from rfl, isNode_n y1, Option.bind_some, if_neg (by decide)]
    simp only [if_neg (o40 y1), c40 y1]
    -- after the link
    have main : ∀ (w3 w4 : HV), HVPr w3 = HVPr w2 → (∀ x, x ≠ j → eqG (gH w2) (gH w3) x) → gU (gH w3) = gU (gH w2) → gK (gH w3) = gK (gH w2) → gC (gH w3) = gC (gH w2) → gS (gH w3) = gS (gH w2) → gL (gH w3) j = (if b = true then hv (mg pr l r).1 else hv s) → gR (gH w3) j = (if b = true then hv s else hv (mg pr l r).1) → w4 = mkH w3 (setU (gH w3) (mg pr l r).1 (nI j)) (HVPa w3) →
        ∃ w, f_X0_takeOut_h91 FU (hv t) (nI i) (nI j) (hv (mg pr l r).1) (nI j) 0 w4 = some (hv (fixC ((b, j, s) :: K) (mg pr l r).1).1, w) ∧ (sub (gH w) (fixC ((b, j, s) :: K) (mg pr l r).1).1 ∧ upK (gH w) (fixC ((b, j, s) :: K) (mg pr l r).1).1 (-1) ∧ (∀ x, x ∉ nds t → eqG (gH v) (gH w) x) ∧ (gL (gH w) i = -1 ∧ gR (gH w) i = -1 ∧ gU (gH w) i = -1 ∧ gK (gH w) i = 0) ∧ gC (gH w) = gC (gH v) + nI (mg pr l r).2.1 ∧ gS (gH w) = gS (gH v) + nI ((mg pr l r).2.2 + (fixC ((b, j, s) :: K) (mg pr l r).1).2)) ∧ HVPr w = HVPr v := by
      intro w3 w4 h1 h2 h3 h4 h5 h6 h7 h8 h9
      have a4 : gL (gH w4) = gL (gH w3) ∧ gR (gH w4) = gR (gH w3) ∧ gU (gH w4) = gU (setU (gH w3) (mg pr l r).1 (nI j)) ∧ gK (gH w4) = gK (gH w3) ∧ gC (gH w4) = gC (gH w3) ∧ gS (gH w4) = gS (gH w3) ∧ HVPr w4 = HVPr w3 := by
        rw [h9]
        cases (mg pr l r).1 <;> exact ⟨rfl, rfl, rfl, rfl, rfl, rfl, rfl⟩
      obtain ⟨a41, a42, a43, a44, a45, a46, a47⟩ := a4
      have nomem : ∀ x, x ≠ j → x ∉ nds (mg pr l r).1 → eqG (gH w2) (gH w4) x := fun x hx hm => (h2 x hx).tr ⟨by rw [a41], by rw [a42], by rw [a43]; exact setU_ne hm, by rw [a44]⟩
      have nmg : (nds (mg pr l r).1).Nodup := nodup_of_mg m4' m5' m3'
      have s4 : sub (gH w4) (mg pr l r).1 := by
        refine sub_congr' (G := gH w2) (fun x hx => ?_) (fun x hx => ?_) s2
        · have hxj : x ≠ j := fun h => hjm (h ▸ hx)
          exact ⟨by rw [a41]; exact (h2 x hxj).1, by rw [a42]; exact (h2 x hxj).2.1, by rw [a44]; exact (h2 x hxj).2.2.2⟩
        · rw [a43, setU_tail nmg hx, h3]
      have u4 : upK (gH w4) (mg pr l r).1 (nI j) := upK_congr (G := setU (gH w3) (mg pr l r).1 (nI j)) (fun x _ => by rw [a43]) setU_up
      have hKw : ∀ x ∈ cNds K, eqG (gH v) (gH w4) x := fun x hx => (hKx x (by simp [cNds, hx])).tr (nomem x (fun h => hjs.2 (h ▸ hx)) (fun h => (hms x h).2 hx))
      have hSw : ∀ x ∈ nds s, eqG (gH v) (gH w4) x := fun x hx => (hKx x (by simp [cNds, hx])).tr (nomem x (fun h => hjs.1 (h ▸ hx)) (fun h => (hms x h).1 hx))
      have hc4 : cx (gH w4) ((b, j, s) :: K) (hv (mg pr l r).1) := by
        refine ⟨y1, by rw [a41]; exact h7, by rw [a42]; exact h8, sub_congr hSw y4, upK_congr (fun x hx => (hSw x hx).2.2.1) y5, ?_, cx_congr hKw y7⟩
        rw [a43, setU_ne hjm, h3, (hKx j (by simp [cNds])).2.2.1]
        exact y6
      obtain ⟨w, p1, p2', p3, p4, p5, p6, p7⟩ := climb_ok ((b, j, s) :: K) (t := (mg pr l r).1) (k := 0) (n := FU) (v := w4) (l1 := hv t) (l2 := nI i) (l3 := nI j) (l4 := hv (mg pr l r).1) hc4 s4 u4 nm (by omega) (by have : FU = 5000 := rfl; omega)
      have ht : hv (fixC ((b, j, s) :: K) (mg pr l r).1).1 = hv t := by
        rw [← et]
        exact top_fix (by simp)
      refine ⟨w, by rw [ht]; exact p1, ⟨p2', p3, fun x hx => ?_, ?_, ?_, ?_⟩, ?_⟩
      · obtain ⟨z1, z3, z4, z5⟩ := hnt x hx
        have hxm : x ∉ nds (mg pr l r).1 := fun h => (mem_mg.mp h).elim z3 z4
        have hxj : x ≠ j := fun h => z5 (by simp [cNds, h])
        exact (((q3 x z3 z4).tr (e2 x z1)).tr (nomem x hxj hxm)).tr (p4 x hxm z5)
      · have h9 := (nomem i (fun h => hji h.symm) him).tr (p4 i him hiK)
        exact ⟨h9.1.trans z2.1, h9.2.1.trans z2.2.1, h9.2.2.1.trans z2.2.2.1, h9.2.2.2.trans z2.2.2.2⟩
      · rw [p5, a45, h5, c2]
      · rw [p6, a46, h6, s2', Int32.add_assoc, nI_add]
      · rw [p7, a47, h1, p2]
    cases b with
    | true =>
      rw [if_pos rfl] at eL2 eR2
      rw [if_pos eL2]
      rw [setAbove_t (v := HV_sLf w2 (upd (HVLf w2) j (hv (mg pr l r).1))) (sub_lt s2), bnd2_some]
      exact main (HV_sLf w2 (upd (HVLf w2) j (hv (mg pr l r).1))) _ rfl (fun x hx => ⟨upd_ne hx, rfl, rfl, rfl⟩) rfl rfl rfl rfl (by rw [if_pos rfl]; exact upd_eq) (by rw [if_pos rfl]; exact eR2) rfl
    | false =>
      rw [if_neg Bool.false_ne_true] at eL2 eR2
      rw [if_neg (show ¬ HVLf w2 j = nI i by rw [eL2]; exact fun h => hsi (hv_mem y4 h i40))]
      rw [setAbove_t (v := HV_sRt w2 (upd (HVRt w2) j (hv (mg pr l r).1))) (sub_lt s2), bnd2_some]
      exact main (HV_sRt w2 (upd (HVRt w2) j (hv (mg pr l r).1))) _ rfl (fun x hx => ⟨rfl, upd_ne hx, rfl, rfl⟩) rfl rfl rfl rfl (by rw [if_neg Bool.false_ne_true]; exact eL2) (by rw [if_neg Bool.false_ne_true]; exact upd_eq) rfl
