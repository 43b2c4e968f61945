/-! ===== 20: heaps as trees (leaf: none; branch: a job with its left and right heap) ===== -/
abbrev Tr : Type := Lean.RArray Unit
def rkT : Tr → Nat
  | .leaf _ => 0
  | .branch _ _ r => 1 + rkT r
def nds : Tr → List Nat
  | .leaf _ => []
  | .branch i l r => i :: (nds l ++ nds r)
def hv : Tr → Int32
  | .leaf _ => -1
  | .branch i _ _ => nI i
def fixT (i : Nat) (l r : Tr) : Tr := if rkT l < rkT r then .branch i r l else .branch i l r
def swT (l r : Tr) : Nat := if rkT l < rkT r then 1 else 0
def prc (pr : Nat → Nat) (i j : Nat) : Bool := decide (pr i < pr j) || (decide (pr i = pr j) && decide (i < j))
theorem prc_iff {pr : Nat → Nat} {i j : Nat} : prc pr i j = true ↔ (pr i < pr j ∨ (pr i = pr j ∧ i < j)) := by
  simp [prc]
theorem prc_not {pr : Nat → Nat} {i j : Nat} (h : i ≠ j) : prc pr j i = !prc pr i j := by
  have h1 := @prc_iff pr i j
  have h2 := @prc_iff pr j i
  cases e1 : prc pr i j <;> cases e2 : prc pr j i
  · rw [e1] at h1; rw [e2] at h2
    simp only [Bool.false_eq_true, false_iff] at h1 h2
    omega
  · rfl
  · rfl
  · have h3 := h1.mp e1
    have h4 := h2.mp e2
    omega
theorem prc_trans {pr : Nat → Nat} {i j k : Nat} (h1 : prc pr i j = true) (h2 : prc pr j k = true) : prc pr i k = true := by
  rw [prc_iff] at *
  omega
theorem prc_irr {pr : Nat → Nat} {i : Nat} : prc pr i i = false := by
  cases h : prc pr i i with
  | false => rfl
  | true => rw [prc_iff] at h; omega
def mgA (pr : Nat → Nat) (i : Nat) (la ra : Tr) (f : Tr → Tr × Nat × Nat) : Tr → Tr × Nat × Nat
  | .leaf _ => (.branch i la ra, 0, 0)
  | .branch j lb rb =>
    if prc pr i j = true then (fixT i la (f (.branch j lb rb)).1, (f (.branch j lb rb)).2.1 + 1, (f (.branch j lb rb)).2.2 + swT la (f (.branch j lb rb)).1)
    else (fixT j lb (mgA pr i la ra f rb).1, (mgA pr i la ra f rb).2.1 + 1, (mgA pr i la ra f rb).2.2 + swT lb (mgA pr i la ra f rb).1)
/-- two heaps merged; how many comparisons; how many swaps -/
def mg (pr : Nat → Nat) : Tr → Tr → Tr × Nat × Nat
  | .leaf _, b => (b, 0, 0)
  | .branch i la ra, b => mgA pr i la ra (fun x => mg pr ra x) b
theorem mg_l {pr : Nat → Nat} {u : Unit} {b : Tr} : mg pr (.leaf u) b = (b, 0, 0) := rfl
theorem mg_r {pr : Nat → Nat} {u : Unit} : ∀ {a : Tr}, mg pr a (.leaf u) = (a, 0, 0)
  | .leaf _ => rfl
  | .branch _ _ _ => rfl
theorem mg_1 {pr : Nat → Nat} {i j : Nat} {la ra lb rb : Tr} (h : prc pr i j = true) : mg pr (.branch i la ra) (.branch j lb rb) = (fixT i la (mg pr ra (.branch j lb rb)).1, (mg pr ra (.branch j lb rb)).2.1 + 1, (mg pr ra (.branch j lb rb)).2.2 + swT la (mg pr ra (.branch j lb rb)).1) := by
  show mgA pr i la ra (fun x => mg pr ra x) (.branch j lb rb) = _
  rw [mgA, if_pos h]
theorem mg_2 {pr : Nat → Nat} {i j : Nat} {la ra lb rb : Tr} (h : prc pr i j = false) : mg pr (.branch i la ra) (.branch j lb rb) = (fixT j lb (mg pr (.branch i la ra) rb).1, (mg pr (.branch i la ra) rb).2.1 + 1, (mg pr (.branch i la ra) rb).2.2 + swT lb (mg pr (.branch i la ra) rb).1) := by
  show mgA pr i la ra (fun x => mg pr ra x) (.branch j lb rb) = _
  rw [mgA, if_neg (by rw [h]; decide)]
  rfl
def dsj (a b : Tr) : Prop := ∀ i, i ∈ nds a → i ∈ nds b → False
theorem dsj.symm {a b : Tr} (h : dsj a b) : dsj b a := fun i h1 h2 => h i h2 h1
theorem mg_comm {pr : Nat → Nat} : ∀ {a b : Tr}, dsj a b → mg pr a b = mg pr b a := by
  intro a
  induction a with
  | leaf u => intro b _; rw [mg_l, mg_r]
  | branch i la ra _ iha =>
    intro b
    induction b with
    | leaf u => intro _; rw [mg_l, mg_r]
    | branch j lb rb _ ihb =>
      intro h
      have hij : i ≠ j := fun e => h i (by simp [nds]) (by simp [nds, e])
      cases e : prc pr i j with
      | true =>
        have e2 : prc pr j i = false := by rw [prc_not hij, e]; rfl
        rw [mg_1 e, mg_2 e2, iha (fun k h1 h2 => h k (by simp [nds, h1]) h2)]
      | false =>
        have e2 : prc pr j i = true := by rw [prc_not hij, e]; rfl
        rw [mg_2 e, mg_1 e2, ihb (fun k h1 h2 => h k h1 (by simp [nds, h2]))]
theorem nds_fix {i : Nat} {l r : Tr} : (nds (fixT i l r)).Perm (i :: (nds l ++ nds r)) := by
  unfold fixT
  split
  · exact List.Perm.cons _ List.perm_append_comm
  · exact List.Perm.refl _
theorem nds_mg {pr : Nat → Nat} : ∀ {a b : Tr}, (nds (mg pr a b).1).Perm (nds a ++ nds b) := by
  intro a
  induction a with
  | leaf u => intro b; rw [mg_l]; exact List.Perm.refl _
  | branch i la ra _ iha =>
    intro b
    induction b with
    | leaf u => rw [mg_r]; simp [nds]
    | branch j lb rb _ ihb =>
      cases e : prc pr i j with
      | true =>
        rw [mg_1 e]
        refine nds_fix.trans ?_
        simp only [nds, List.cons_append]
        refine List.Perm.cons _ ?_
        rw [List.append_assoc]
        exact List.Perm.append_left _ iha
      | false =>
        rw [mg_2 e]
        refine nds_fix.trans ?_
        have h1 : (nds lb ++ nds (mg pr (.branch i la ra) rb).1).Perm (nds (.branch i la ra) ++ (nds lb ++ nds rb)) := by
          refine (List.Perm.append_left _ ihb).trans ?_
          rw [← List.append_assoc, ← List.append_assoc]
          exact List.Perm.append_right _ List.perm_append_comm
        refine (List.Perm.cons _ h1).trans ?_
        exact List.perm_middle.symm
theorem mem_mg {pr : Nat → Nat} {a b : Tr} {i : Nat} : i ∈ nds (mg pr a b).1 ↔ i ∈ nds a ∨ i ∈ nds b := by
  rw [nds_mg.mem_iff, List.mem_append]
-- leftist, heap order
def lft : Tr → Prop
  | .leaf _ => True
  | .branch _ l r => rkT r ≤ rkT l ∧ lft l ∧ lft r
def hpo (pr : Nat → Nat) : Tr → Prop
  | .leaf _ => True
  | .branch i l r => (∀ j, j ∈ nds l ∨ j ∈ nds r → prc pr i j = true) ∧ hpo pr l ∧ hpo pr r
theorem lft_fix {i : Nat} {l r : Tr} (h1 : lft l) (h2 : lft r) : lft (fixT i l r) := by
  unfold fixT
  split
  · exact ⟨by omega, h2, h1⟩
  · exact ⟨by omega, h1, h2⟩
theorem lft_mg {pr : Nat → Nat} : ∀ {a b : Tr}, lft a → lft b → lft (mg pr a b).1 := by
  intro a
  induction a with
  | leaf u => intro b _ h; rw [mg_l]; exact h
  | branch i la ra _ iha =>
    intro b
    induction b with
    | leaf u => intro h _; rw [mg_r]; exact h
    | branch j lb rb _ ihb =>
      intro h1 h2
      cases e : prc pr i j with
      | true => rw [mg_1 e]; exact lft_fix h1.2.1 (iha h1.2.2 h2)
      | false => rw [mg_2 e]; exact lft_fix h2.2.1 (ihb h1 h2.2.2)
theorem hpo_fix {pr : Nat → Nat} {i : Nat} {l r : Tr} (h : ∀ j, j ∈ nds l ∨ j ∈ nds r → prc pr i j = true) (h1 : hpo pr l) (h2 : hpo pr r) : hpo pr (fixT i l r) := by
  unfold fixT
  split
  · exact ⟨fun j hj => h j hj.symm, h2, h1⟩
  · exact ⟨h, h1, h2⟩
theorem hpo_top {pr : Nat → Nat} {i k : Nat} {l r : Tr} (h : hpo pr (.branch i l r)) (hk : k ∈ nds (.branch i l r)) : k = i ∨ prc pr i k = true := by
  simp only [nds, List.mem_cons, List.mem_append] at hk
  rcases hk with rfl | hk
  · exact Or.inl rfl
  · exact Or.inr (h.1 k hk)
theorem hpo_mg {pr : Nat → Nat} : ∀ {a b : Tr}, dsj a b → hpo pr a → hpo pr b → hpo pr (mg pr a b).1 := by
  intro a
  induction a with
  | leaf u => intro b _ _ h; rw [mg_l]; exact h
  | branch i la ra _ iha =>
    intro b
    induction b with
    | leaf u => intro _ h _; rw [mg_r]; exact h
    | branch j lb rb _ ihb =>
      intro hd h1 h2
      have hij : i ≠ j := fun e => hd i (by simp [nds]) (by simp [nds, e])
      cases e : prc pr i j with
      | true =>
        rw [mg_1 e]
        refine hpo_fix (fun k hk => ?_) h1.2.1 (iha (fun k g1 g2 => hd k (by simp [nds, g1]) g2) h1.2.2 h2)
        rcases hk with hk | hk
        · exact h1.1 k (Or.inl hk)
        · rcases mem_mg.mp hk with hk | hk
          · exact h1.1 k (Or.inr hk)
          · rcases hpo_top h2 hk with rfl | hk
            · exact e
            · exact prc_trans e hk
      | false =>
        have e2 : prc pr j i = true := by rw [prc_not hij, e]; rfl
        rw [mg_2 e]
        refine hpo_fix (fun k hk => ?_) h2.2.1 (ihb (fun k g1 g2 => hd k g1 (by simp [nds, g2])) h1 h2.2.2)
        rcases hk with hk | hk
        · exact h2.1 k (Or.inl hk)
        · rcases mem_mg.mp hk with hk | hk
          · rcases hpo_top h1 hk with rfl | hk
            · exact e2
            · exact prc_trans e2 hk
          · exact h2.1 k (Or.inr hk)
/-- the links and ranks of the machine's rows: left, right, above, rank; how many comparisons, how many swaps -/
abbrev HG : Type := (Nat → Int32) × (Nat → Int32) × (Nat → Int32) × (Nat → Int32) × Int32 × Int32
def gL (G : HG) : Nat → Int32 := G.1
def gR (G : HG) : Nat → Int32 := G.2.1
def gU (G : HG) : Nat → Int32 := G.2.2.1
def gK (G : HG) : Nat → Int32 := G.2.2.2.1
def gC (G : HG) : Int32 := G.2.2.2.2.1
def gS (G : HG) : Int32 := G.2.2.2.2.2
def upK (G : HG) (t : Tr) (p : Int32) : Prop := match t with
  | .leaf _ => True
  | .branch j _ _ => gU G j = p
def sub (G : HG) : Tr → Prop
  | .leaf _ => True
  | .branch i l r => i < 40 ∧ gL G i = hv l ∧ gR G i = hv r ∧ gK G i = nI (1 + rkT r) ∧ upK G l (nI i) ∧ upK G r (nI i) ∧ sub G l ∧ sub G r
/-- the rows are the same at j -/
def eqG (G G' : HG) (j : Nat) : Prop := gL G' j = gL G j ∧ gR G' j = gR G j ∧ gU G' j = gU G j ∧ gK G' j = gK G j
theorem eqG.rf {G : HG} {j : Nat} : eqG G G j := ⟨rfl, rfl, rfl, rfl⟩
theorem eqG.tr {G G' G'' : HG} {j : Nat} (h : eqG G G' j) (h2 : eqG G' G'' j) : eqG G G'' j :=
  ⟨h2.1.trans h.1, h2.2.1.trans h.2.1, h2.2.2.1.trans h.2.2.1, h2.2.2.2.trans h.2.2.2⟩
theorem upK_congr {G G' : HG} {t : Tr} {p : Int32} (h : ∀ j ∈ nds t, gU G' j = gU G j) (hu : upK G t p) : upK G' t p := by
  cases t with
  | leaf u => trivial
  | branch j l r =>
    show gU G' j = p
    rw [h j (by simp [nds])]
    exact hu
theorem sub_congr' {G G' : HG} : ∀ {t : Tr}, (∀ j ∈ nds t, gL G' j = gL G j ∧ gR G' j = gR G j ∧ gK G' j = gK G j) → (∀ j ∈ (nds t).tail, gU G' j = gU G j) → sub G t → sub G' t := by
  intro t
  induction t with
  | leaf u => intro _ _ _; trivial
  | branch i l r ihl ihr =>
    intro h1 h2 h
    obtain ⟨g1, g2, g3, g4, g5, g6, g7, g8⟩ := h
    obtain ⟨k1, k2, k3⟩ := h1 i (by simp [nds])
    have hl : ∀ j ∈ nds l, gU G' j = gU G j := fun j hj => h2 j (by simp [nds, hj])
    have hr : ∀ j ∈ nds r, gU G' j = gU G j := fun j hj => h2 j (by simp [nds, hj])
    exact ⟨g1, k1.trans g2, k2.trans g3, k3.trans g4, upK_congr hl g5, upK_congr hr g6, ihl (fun j hj => h1 j (by simp [nds, hj])) (fun j hj => hl j (List.mem_of_mem_tail hj)) g7, ihr (fun j hj => h1 j (by simp [nds, hj])) (fun j hj => hr j (List.mem_of_mem_tail hj)) g8⟩
theorem sub_congr {G G' : HG} {t : Tr} (h : ∀ j ∈ nds t, eqG G G' j) (hs : sub G t) : sub G' t :=
  sub_congr' (fun j hj => ⟨(h j hj).1, (h j hj).2.1, (h j hj).2.2.2⟩) (fun j hj => (h j (List.mem_of_mem_tail hj)).2.2.1) hs
theorem sub_lt {G : HG} : ∀ {t : Tr}, sub G t → ∀ j ∈ nds t, j < 40 := by
  intro t
  induction t with
  | leaf u => intro _ j hj; simp [nds] at hj
  | branch i l r ihl ihr =>
    intro h j hj
    simp only [nds, List.mem_cons, List.mem_append] at hj
    rcases hj with rfl | hj | hj
    · exact h.1
    · exact ihl h.2.2.2.2.2.2.1 j hj
    · exact ihr h.2.2.2.2.2.2.2 j hj
/-- the root's parent set -/
def setU (G : HG) (m : Tr) (p : Int32) : HG := match m with
  | .leaf _ => G
  | .branch j _ _ => (gL G, gR G, upd (gU G) j p, gK G, gC G, gS G)
/-- right of i is m, whose parent is i; i is settled -/
def stp (G : HG) (i : Nat) (l m : Tr) : HG :=
  (upd (gL G) i (hv (if rkT l < rkT m then m else l)), upd (gR G) i (hv (if rkT l < rkT m then l else m)), gU (setU G m (nI i)), upd (gK G) i (nI (1 + rkT (if rkT l < rkT m then l else m))), gC G, gS G + nI (swT l m))
theorem upd_ne {f : Nat → Int32} {i j : Nat} {x : Int32} (h : j ≠ i) : upd f i x j = f j := if_neg h
theorem upd_eq {f : Nat → Int32} {i : Nat} {x : Int32} : upd f i x i = x := if_pos rfl
theorem setU_ne {G : HG} {m : Tr} {p : Int32} {j : Nat} (h : j ∉ nds m) : gU (setU G m p) j = gU G j := by
  cases m with
  | leaf u => rfl
  | branch k l r =>
    show upd (gU G) k p j = _
    exact upd_ne (fun e => h (by simp [nds, e]))
theorem setU_tail {G : HG} {m : Tr} {p : Int32} {j : Nat} (hn : (nds m).Nodup) (h : j ∈ (nds m).tail) : gU (setU G m p) j = gU G j := by
  cases m with
  | leaf u => rfl
  | branch k l r =>
    show upd (gU G) k p j = _
    refine upd_ne (fun e => ?_)
    subst e
    simp only [nds, List.nodup_cons] at hn
    exact hn.1 h
theorem setU_up {G : HG} {m : Tr} {p : Int32} : upK (setU G m p) m p := by
  cases m with
  | leaf u => trivial
  | branch k l r => exact upd_eq
theorem stp_sub {G : HG} {i : Nat} {l m : Tr} (hi : i < 40) (hul : upK G l (nI i)) (hl : sub G l) (hm : sub G m) (h1 : i ∉ nds l) (h2 : i ∉ nds m) (hd : dsj l m) (hn : (nds m).Nodup) : sub (stp G i l m) (fixT i l m) := by
  have el : ∀ j ∈ nds l, eqG G (stp G i l m) j := fun j hj => by
    have hji : j ≠ i := fun e => h1 (e ▸ hj)
    exact ⟨upd_ne hji, upd_ne hji, setU_ne (fun e => hd j hj e), upd_ne hji⟩
  have sl : sub (stp G i l m) l := sub_congr el hl
  have ul : upK (stp G i l m) l (nI i) := upK_congr (fun j hj => (el j hj).2.2.1) hul
  have sm : sub (stp G i l m) m := sub_congr' (fun j hj => by
    have hji : j ≠ i := fun e => h2 (e ▸ hj)
    exact ⟨upd_ne hji, upd_ne hji, upd_ne hji⟩) (fun j hj => setU_tail hn hj) hm
  have um : upK (stp G i l m) m (nI i) := upK_congr (G := setU G m (nI i)) (fun j _ => rfl) setU_up
  unfold fixT
  by_cases h : rkT l < rkT m
  · rw [if_pos h]
    refine ⟨hi, ?_, ?_, ?_, um, ul, sm, sl⟩
    · show upd _ i _ i = _
      rw [upd_eq, if_pos h]
    · show upd _ i _ i = _
      rw [upd_eq, if_pos h]
    · show upd _ i _ i = _
      rw [upd_eq, if_pos h]
  · rw [if_neg h]
    refine ⟨hi, ?_, ?_, ?_, ul, um, sl, sm⟩
    · show upd _ i _ i = _
      rw [upd_eq, if_neg h]
    · show upd _ i _ i = _
      rw [upd_eq, if_neg h]
    · show upd _ i _ i = _
      rw [upd_eq, if_neg h]
theorem stp_eq {G : HG} {i : Nat} {l m : Tr} {j : Nat} (h1 : j ≠ i) (h2 : j ∉ nds m) : eqG G (stp G i l m) j :=
  ⟨upd_ne h1, upd_ne h1, setU_ne h2, upd_ne h1⟩
/-- what a merge does -/
def MSp (pr : Nat → Nat) (G G' : HG) (a b : Tr) : Prop :=
  sub G' (mg pr a b).1 ∧ (∀ j, j ∉ nds a → j ∉ nds b → eqG G G' j) ∧ gC G' = gC G + nI (mg pr a b).2.1 ∧ gS G' = gS G + nI (mg pr a b).2.2
theorem nodup_of_mg {pr : Nat → Nat} {a b : Tr} (ha : (nds a).Nodup) (hb : (nds b).Nodup) (hd : dsj a b) : (nds (mg pr a b).1).Nodup := by
  rw [nds_mg.nodup_iff, List.nodup_append]
  exact ⟨ha, hb, fun x hx y hy e => hd x hx (e ▸ hy)⟩
theorem nd_br {i : Nat} {l r : Tr} (h : (nds (.branch i l r)).Nodup) : i ∉ nds l ∧ i ∉ nds r ∧ dsj l r ∧ (nds l).Nodup ∧ (nds r).Nodup := by
  simp only [nds, List.nodup_cons, List.mem_append, not_or, List.nodup_append] at h
  exact ⟨h.1.1, h.1.2, fun x hx hy => h.2.2.2 x hx x hy rfl, h.2.1, h.2.2.1⟩
/-- one step up: the root of the one heap is the winner -/
theorem MSp.step {pr : Nat → Nat} {G G1 : HG} {i : Nat} {la ra b : Tr} (hs : sub G (.branch i la ra)) (hn : (nds (.branch i la ra)).Nodup) (hb : (nds b).Nodup) (hd : dsj (.branch i la ra) b)
    (h : sub G1 (mg pr ra b).1) (he : ∀ j, j ∉ nds ra → j ∉ nds b → eqG G G1 j) :
    sub (stp G1 i la (mg pr ra b).1) (fixT i la (mg pr ra b).1) ∧ (∀ j, j ∉ nds (.branch i la ra) → j ∉ nds b → eqG G (stp G1 i la (mg pr ra b).1) j) := by
  obtain ⟨n1, n2, n3, n4, n5⟩ := nd_br hn
  obtain ⟨g1, g2, g3, g4, g5, g6, g7, g8⟩ := hs
  have hib : i ∉ nds b := fun e => hd i (by simp [nds]) e
  have hlb : dsj la b := fun j h1 h2 => hd j (by simp [nds, h1]) h2
  have hrb : dsj ra b := fun j h1 h2 => hd j (by simp [nds, h1]) h2
  have el : ∀ j ∈ nds la, eqG G G1 j := fun j hj => he j (fun e => n3 j hj e) (fun e => hlb j hj e)
  refine ⟨stp_sub g1 (upK_congr (fun j hj => (el j hj).2.2.1) g5) (sub_congr el g7) h n1 (fun e => ?_) (fun j h1 h2 => ?_) (nodup_of_mg n5 hb hrb), fun j h1 h2 => ?_⟩
  · rcases mem_mg.mp e with e | e
    · exact n2 e
    · exact hib e
  · rcases mem_mg.mp h2 with e | e
    · exact n3 j h1 e
    · exact hlb j h1 e
  · simp only [nds, List.mem_cons, List.mem_append, not_or] at h1
    exact (he j h1.2.2 h2).tr (stp_eq h1.1 (fun e => (mem_mg.mp e).elim h1.2.2 h2))
