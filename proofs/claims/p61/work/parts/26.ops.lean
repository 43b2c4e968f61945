/-! ===== 26: changes of the state: what is common to both sides ===== -/
def pln (G : HG) (i : Nat) : HG := (upd (gL G) i (-1), upd (gR G) i (-1), upd (gU G) i (-1), upd (gK G) i 1, gC G, gS G)
theorem pln_eq {G : HG} {i j : Nat} (h : j ≠ i) : eqG G (pln G i) j := ⟨upd_ne h, upd_ne h, upd_ne h, upd_ne h⟩
theorem pln_nd {G : HG} {i : Nat} (hi : i < 40) : sub (pln G i) (nd1 i) ∧ upK (pln G i) (nd1 i) (-1) :=
  ⟨⟨hi, upd_eq, upd_eq, upd_eq, True.intro, True.intro, True.intro, True.intro⟩, upd_eq⟩
def FR (G : HG) (F : Nat → Tr) : Prop := ∀ k, sub G (F k) ∧ upK G (F k) (-1)
theorem hv_mem0 {t : Tr} {j : Nat} {l r : Tr} (e : t = .branch j l r) : j ∈ nds t := by
  subst e
  simp [nds]
theorem FR_keep {G G' : HG} {t : Tr} (h : ∀ j ∈ nds t, eqG G G' j) (hs : sub G t ∧ upK G t (-1)) : sub G' t ∧ upK G' t (-1) :=
  ⟨sub_congr h hs.1, upK_congr (fun j hj => (h j hj).2.2.1) hs.2⟩
theorem FR_pln {G : HG} {F : Nat → Tr} {i : Nat} (hF : FR G F) (hi : ∀ k, i ∉ nds (F k)) : FR (pln G i) F := fun k => FR_keep (fun j hj => pln_eq (fun e => hi k (e ▸ hj))) (hF k)
def dsF (F : Nat → Tr) : Prop := ∀ k k', k ≠ k' → dsj (F k) (F k')
theorem FR_mg {G G2 : HG} {F : Nat → Tr} {pr : Nat → Nat} {q : Nat} {b : Tr} (hF : FR G F) (hd : dsF F) (hb : ∀ k, k ≠ q → dsj (F k) b) (hm : MSp pr G G2 (F q) b) (hu : upK G2 (mg pr (F q) b).1 (-1)) : FR G2 (uf F q (mg pr (F q) b).1) := by
  intro k
  by_cases e : k = q
  · subst e
    rw [uf_eq]
    exact ⟨hm.1, hu⟩
  · rw [uf_ne e]
    exact FR_keep (fun j hj => hm.2.1 j (fun h => hd k q e j hj h) (fun h => hb k e j hj h)) (hF k)
theorem FR_rm {G G2 : HG} {F : Nat → Tr} {pr : Nat → Nat} {q i : Nat} (hF : FR G F) (hd : dsF F) (hm : RSp pr G G2 i (F q)) : FR G2 (uf F q (rmT pr i (F q)).1) := by
  intro k
  by_cases e : k = q
  · subst e
    rw [uf_eq]
    exact ⟨hm.1, hm.2.1⟩
  · rw [uf_ne e]
    exact FR_keep (fun j hj => hm.2.2.1 j (fun h => hd k q e j hj h)) (hF k)
theorem hpo_congr {pr pr' : Nat → Nat} : ∀ {t : Tr}, (∀ k, k ∈ nds t → pr k = pr' k) → hpo pr t → hpo pr' t := by
  intro t
  induction t with
  | leaf u => intro _ _; exact True.intro
  | branch i l r ihl ihr =>
    intro h hh
    refine ⟨fun k hk => ?_, ihl (fun k hk => h k (by simp [nds, hk])) hh.2.1, ihr (fun k hk => h k (by simp [nds, hk])) hh.2.2⟩
    have h1 := hh.1 k hk
    have h2 := h i (by simp [nds])
    have h3 := h k (by simp only [nds, List.mem_cons, List.mem_append]; exact Or.inr hk)
    unfold prc at h1 ⊢
    rw [← h2, ← h3]
    exact h1
theorem GI.ds {u : GU} {g : GS} (h : GI u g) : dsF (aF g) := fun k k' e j h1 h2 => e (((h.2.2.2.1 k j).mp h1).2.2.symm.trans ((h.2.2.2.1 k' j).mp h2).2.2)
theorem GI.out {u : GU} {g : GS} (h : GI u g) {i k : Nat} (hi : aJ g ≤ i) : i ∉ nds (aF g k) := fun h1 => by
  have := ((h.2.2.2.1 k i).mp h1).1
  omega
theorem GI.inn {u : GU} {g : GS} (h : GI u g) {i : Nat} (hi : i < aJ g) (hf : aFt g i = 0) : i ∈ nds (aF g (aQu g i)) := (h.2.2.2.1 _ i).mpr ⟨hi, hf, rfl⟩
theorem GI.off {u : GU} {g : GS} (h : GI u g) {i k : Nat} (hf : aFt g i ≠ 0) : i ∉ nds (aF g k) := fun h1 => hf ((h.2.2.2.1 k i).mp h1).2.1
theorem GI.lt {u : GU} {g : GS} (h : GI u g) {i k : Nat} (hi : i ∈ nds (aF g k)) : i < aJ g := ((h.2.2.2.1 k i).mp hi).1
/-! the changes -/
def addM (g : GS) (q p : Nat) : Tr × Nat × Nat := mg (uf (aPr g) (aJ g) p) (aF g q) (nd1 (aJ g))
def addG (g : GS) (q : Nat) (o : Int32) (p : Nat) (n : Int32) : GS :=
  (aJ g + 1, uf (aF g) q (addM g q p).1, uf (aPr g) (aJ g) p, uf (aOw g) (aJ g) o, uf (aPg g) (aJ g) n, uf (aFt g) (aJ g) 0, uf (aQu g) (aJ g) q, aPd g, aPs g, aCm g + nI (addM g q p).2.1, aSw g + nI (addM g q p).2.2)
def endM (g : GS) (i : Nat) : Tr × Nat × Nat := rmT (aPr g) i (aF g (aQu g i))
def endG (g : GS) (i b : Nat) : GS :=
  (aJ g, uf (aF g) (aQu g i) (endM g i).1, aPr g, aOw g, aPg g, uf (aFt g) i b, aQu g, if b = 1 then uf (aPd g) (aQu g i) (aPd g (aQu g i) + aPg g i) else aPd g, aPs g, aCm g + nI (endM g i).2.1, aSw g + nI (endM g i).2.2)
def reF (g : GS) (i : Nat) : Nat → Tr := uf (aF g) (aQu g i) (endM g i).1
def reM (g : GS) (i q p : Nat) : Tr × Nat × Nat := mg (uf (aPr g) i p) (reF g i q) (nd1 i)
def reG (g : GS) (i q p : Nat) : GS :=
  (aJ g, uf (reF g i) q (reM g i q p).1, uf (aPr g) i p, aOw g, aPg g, aFt g, uf (aQu g) i q, aPd g, aPs g, aCm g + nI (endM g i).2.1 + nI (reM g i q p).2.1, aSw g + nI (endM g i).2.2 + nI (reM g i q p).2.2)
def joM (g : GS) (a b : Nat) : Tr × Nat × Nat := mg (aPr g) (aF g a) (aF g b)
def joG (g : GS) (a b : Nat) : GS :=
  (aJ g, uf (uf (aF g) b (joM g a b).1) a (.leaf ()), aPr g, aOw g, aPg g, aFt g, fun i => if aFt g i = 0 ∧ aQu g i = a then b else aQu g i, aPd g, aPs g, aCm g + nI (joM g a b).2.1, aSw g + nI (joM g a b).2.2)
def paG (g : GS) (q : Nat) (b : Bool) : GS := (aJ g, aF g, aPr g, aOw g, aPg g, aFt g, aQu g, aPd g, uf (aPs g) q b, aCm g, aSw g)
theorem mem_nd1 {i k : Nat} : k ∈ nds (nd1 i) ↔ k = i := by rw [nds1, List.mem_singleton]
theorem nd1_nodup {i : Nat} : (nds (nd1 i)).Nodup := by rw [nds1]; simp
theorem dsj_nd1 {t : Tr} {i : Nat} (h : i ∉ nds t) : dsj t (nd1 i) := fun k h1 h2 => h (mem_nd1.mp h2 ▸ h1)
theorem nd1_hpo {pr : Nat → Nat} {i : Nat} : hpo pr (nd1 i) := ⟨fun k hk => by simp [nds] at hk, True.intro, True.intro⟩
theorem nd1_lft {i : Nat} : lft (nd1 i) := ⟨Nat.le_refl _, True.intro, True.intro⟩
theorem GI.add {u : GU} {g : GS} {q p pg : Nat} {o : Int32} (h : GI u g) (hJ : aJ g < 40) (hq : q < uQ u) (hp : p < 100) (hg : 1 ≤ pg ∧ pg ≤ 99) : GI u (addG g q o p (nI pg)) := by
  have hi : ∀ k, aJ g ∉ nds (aF g k) := fun k => h.out (Nat.le_refl _)
  have hpr : ∀ k t, t ∈ nds (aF g k) → aPr g t = uf (aPr g) (aJ g) p t := fun k t ht => (uf_ne (fun (e : t = aJ g) => hi k (e ▸ ht))).symm
  refine ⟨hJ, h.2.1, fun k => ?_, fun k i => ?_, fun i hi2 => ?_, h.2.2.2.2.2⟩
  · show (nds (uf (aF g) q (addM g q p).1 k)).Nodup ∧ lft (uf (aF g) q (addM g q p).1 k) ∧ hpo (uf (aPr g) (aJ g) p) (uf (aF g) q (addM g q p).1 k)
    by_cases e : k = q
    · subst e
      rw [uf_eq]
      exact ⟨nodup_of_mg (h.2.2.1 k).1 nd1_nodup (dsj_nd1 (hi k)), lft_mg (h.2.2.1 k).2.1 nd1_lft, hpo_mg (dsj_nd1 (hi k)) (hpo_congr (hpr k) (h.2.2.1 k).2.2) nd1_hpo⟩
    · rw [uf_ne e]
      exact ⟨(h.2.2.1 k).1, (h.2.2.1 k).2.1, hpo_congr (hpr k) (h.2.2.1 k).2.2⟩
  · show i ∈ nds (uf (aF g) q (addM g q p).1 k) ↔ (i < aJ g + 1 ∧ uf (aFt g) (aJ g) 0 i = 0 ∧ uf (aQu g) (aJ g) q i = k)
    have hm := h.2.2.2.1 k i
    by_cases ei : i = aJ g
    · subst ei
      rw [uf_eq, uf_eq]
      by_cases e : k = q
      · subst e
        rw [uf_eq]
        exact ⟨fun _ => ⟨Nat.lt_succ_self _, rfl, rfl⟩, fun _ => mem_mg.mpr (Or.inr (mem_nd1.mpr rfl))⟩
      · rw [uf_ne e]
        exact ⟨fun h1 => absurd h1 (hi k), fun h1 => absurd h1.2.2.symm e⟩
    · rw [uf_ne ei, uf_ne ei]
      have : (i < aJ g + 1) = (i < aJ g) := propext (by omega)
      rw [this]
      by_cases e : k = q
      · subst e
        rw [uf_eq, ← hm]
        exact ⟨fun h1 => (mem_mg.mp h1).elim id (fun h2 => absurd (mem_nd1.mp h2) ei), fun h1 => mem_mg.mpr (Or.inl h1)⟩
      · rw [uf_ne e]
        exact hm
  · show (uf (aFt g) (aJ g) 0 i = 0 → uf (aQu g) (aJ g) q i < uQ u) ∧ uf (aPr g) (aJ g) p i < 100 ∧ uf (aFt g) (aJ g) 0 i ≤ 2 ∧ ∃ p, uf (aPg g) (aJ g) (nI pg) i = nI p ∧ 1 ≤ p ∧ p ≤ 99
    have hi3 : i < aJ g + 1 := hi2
    by_cases ei : i = aJ g
    · subst ei
      rw [uf_eq, uf_eq, uf_eq, uf_eq]
      exact ⟨fun _ => hq, hp, by omega, pg, rfl, hg⟩
    · rw [uf_ne ei, uf_ne ei, uf_ne ei, uf_ne ei]
      exact h.2.2.2.2.1 i (by omega)
theorem GI.rm {u : GU} {g : GS} {i : Nat} (h : GI u g) (hi : i < aJ g) (hf : aFt g i = 0) (k : Nat) :
    (nds (reF g i k)).Nodup ∧ lft (reF g i k) ∧ hpo (aPr g) (reF g i k) ∧ ∀ j, j ∈ nds (reF g i k) ↔ (j ∈ nds (aF g k) ∧ j ≠ i) := by
  have hin := h.inn hi hf
  unfold reF
  by_cases e : k = aQu g i
  · subst e
    rw [uf_eq]
    exact rm_inv hin (h.2.2.1 _).1 (h.2.2.1 _).2.1 (h.2.2.1 _).2.2
  · rw [uf_ne e]
    refine ⟨(h.2.2.1 k).1, (h.2.2.1 k).2.1, (h.2.2.1 k).2.2, fun j => ⟨fun h1 => ⟨h1, fun e2 => ?_⟩, fun h1 => h1.1⟩⟩
    subst e2
    exact e ((h.2.2.2.1 k j).mp h1).2.2.symm
theorem GI.fin {u : GU} {g : GS} {i b : Nat} (h : GI u g) (hi : i < aJ g) (hf : aFt g i = 0) (hb : b = 1 ∨ b = 2) : GI u (endG g i b) := by
  refine ⟨h.1, h.2.1, fun k => ?_, fun k j => ?_, fun j hj => ?_, fun q hq => ?_⟩
  · have := h.rm hi hf k
    exact ⟨this.1, this.2.1, this.2.2.1⟩
  · show j ∈ nds (reF g i k) ↔ (j < aJ g ∧ uf (aFt g) i b j = 0 ∧ aQu g j = k)
    rw [(h.rm hi hf k).2.2.2 j, h.2.2.2.1 k j]
    by_cases e : j = i
    · subst e
      rw [uf_eq]
      constructor
      · intro h1; exact absurd rfl h1.2
      · intro h1; omega
    · rw [uf_ne e]
      exact ⟨fun h1 => h1.1, fun h1 => ⟨h1, e⟩⟩
  · show (uf (aFt g) i b j = 0 → aQu g j < uQ u) ∧ aPr g j < 100 ∧ uf (aFt g) i b j ≤ 2 ∧ ∃ p, aPg g j = nI p ∧ 1 ≤ p ∧ p ≤ 99
    have h5 := h.2.2.2.2.1 j hj
    by_cases e : j = i
    · subst e
      rw [uf_eq]
      exact ⟨fun h1 => by omega, h5.2.1, by omega, h5.2.2.2⟩
    · rw [uf_ne e]
      exact h5
  · show (if b = 1 then uf (aPd g) (aQu g i) (aPd g (aQu g i) + aPg g i) else aPd g) q = 0
    have hl := (h.2.2.2.2.1 i hi).1 hf
    split
    · rw [uf_ne (by omega)]
      exact h.2.2.2.2.2 q hq
    · exact h.2.2.2.2.2 q hq
theorem GI.re {u : GU} {g : GS} {i q p : Nat} (h : GI u g) (hi : i < aJ g) (hf : aFt g i = 0) (hq : q < uQ u) (hp : p < 100) : GI u (reG g i q p) := by
  have hout : ∀ k, i ∉ nds (reF g i k) := fun k h1 => (((h.rm hi hf k).2.2.2 i).mp h1).2 rfl
  have hpr : ∀ k t, t ∈ nds (reF g i k) → aPr g t = uf (aPr g) i p t := fun k t ht => (uf_ne (fun (e : t = i) => hout k (e ▸ ht))).symm
  refine ⟨h.1, h.2.1, fun k => ?_, fun k j => ?_, fun j hj => ?_, h.2.2.2.2.2⟩
  · show (nds (uf (reF g i) q (reM g i q p).1 k)).Nodup ∧ lft (uf (reF g i) q (reM g i q p).1 k) ∧ hpo (uf (aPr g) i p) (uf (reF g i) q (reM g i q p).1 k)
    have hr := h.rm hi hf k
    by_cases e : k = q
    · subst e
      rw [uf_eq]
      exact ⟨nodup_of_mg hr.1 nd1_nodup (dsj_nd1 (hout k)), lft_mg hr.2.1 nd1_lft, hpo_mg (dsj_nd1 (hout k)) (hpo_congr (hpr k) hr.2.2.1) nd1_hpo⟩
    · rw [uf_ne e]
      exact ⟨hr.1, hr.2.1, hpo_congr (hpr k) hr.2.2.1⟩
  · show j ∈ nds (uf (reF g i) q (reM g i q p).1 k) ↔ (j < aJ g ∧ aFt g j = 0 ∧ uf (aQu g) i q j = k)
    have hm := h.2.2.2.1 k j
    have hr := (h.rm hi hf k).2.2.2 j
    by_cases ei : j = i
    · subst ei
      rw [uf_eq]
      by_cases e : k = q
      · subst e
        rw [uf_eq]
        exact ⟨fun _ => ⟨hi, hf, rfl⟩, fun _ => mem_mg.mpr (Or.inr (mem_nd1.mpr rfl))⟩
      · rw [uf_ne e]
        exact ⟨fun h1 => absurd h1 (hout k), fun h1 => absurd h1.2.2.symm e⟩
    · rw [uf_ne ei, ← hm]
      have hr2 : j ∈ nds (reF g i k) ↔ j ∈ nds (aF g k) := hr.trans ⟨fun h1 => h1.1, fun h1 => ⟨h1, ei⟩⟩
      by_cases e : k = q
      · subst e
        rw [uf_eq, ← hr2]
        exact ⟨fun h1 => (mem_mg.mp h1).elim id (fun h2 => absurd (mem_nd1.mp h2) ei), fun h1 => mem_mg.mpr (Or.inl h1)⟩
      · rw [uf_ne e]
        exact hr2
  · show (aFt g j = 0 → uf (aQu g) i q j < uQ u) ∧ uf (aPr g) i p j < 100 ∧ aFt g j ≤ 2 ∧ ∃ p, aPg g j = nI p ∧ 1 ≤ p ∧ p ≤ 99
    have h5 := h.2.2.2.2.1 j hj
    by_cases ei : j = i
    · subst ei
      rw [uf_eq, uf_eq]
      exact ⟨fun _ => hq, hp, h5.2.2⟩
    · rw [uf_ne ei, uf_ne ei]
      exact h5
theorem GI.jo {u : GU} {g : GS} {a b : Nat} (h : GI u g) (hb : b < uQ u) (hab : a ≠ b) : GI u (joG g a b) := by
  refine ⟨h.1, h.2.1, fun k => ?_, fun k j => ?_, fun j hj => ?_, h.2.2.2.2.2⟩
  · show (nds (uf (uf (aF g) b (joM g a b).1) a (.leaf ()) k)).Nodup ∧ lft (uf (uf (aF g) b (joM g a b).1) a (.leaf ()) k) ∧ hpo (aPr g) (uf (uf (aF g) b (joM g a b).1) a (.leaf ()) k)
    by_cases e : k = a
    · subst e
      rw [uf_eq]
      exact ⟨List.nodup_nil, True.intro, True.intro⟩
    · rw [uf_ne e]
      by_cases e2 : k = b
      · subst e2
        rw [uf_eq]
        exact ⟨nodup_of_mg (h.2.2.1 a).1 (h.2.2.1 k).1 (h.ds a k hab), lft_mg (h.2.2.1 a).2.1 (h.2.2.1 k).2.1, hpo_mg (h.ds a k hab) (h.2.2.1 a).2.2 (h.2.2.1 k).2.2⟩
      · rw [uf_ne e2]
        exact h.2.2.1 k
  · show j ∈ nds (uf (uf (aF g) b (joM g a b).1) a (.leaf ()) k) ↔ (j < aJ g ∧ aFt g j = 0 ∧ (if aFt g j = 0 ∧ aQu g j = a then b else aQu g j) = k)
    have ha := h.2.2.2.1 a j
    have hb := h.2.2.2.1 b j
    have hk := h.2.2.2.1 k j
    by_cases e : k = a
    · subst e
      rw [uf_eq]
      constructor
      · intro h1; simp [nds] at h1
      · rintro ⟨h1, h2, h3⟩
        by_cases c : aFt g j = 0 ∧ aQu g j = k
        · rw [if_pos c] at h3; exact absurd h3.symm hab
        · rw [if_neg c] at h3; exact absurd ⟨h2, h3⟩ c
    · rw [uf_ne e]
      by_cases e2 : k = b
      · subst e2
        rw [uf_eq, show (j ∈ nds (joM g a k).1 ↔ _) from mem_mg, ha, hb]
        constructor
        · rintro (h1 | h1)
          · exact ⟨h1.1, h1.2.1, if_pos h1.2⟩
          · exact ⟨h1.1, h1.2.1, by rw [if_neg (fun c => hab (c.2.symm.trans h1.2.2))]; exact h1.2.2⟩
        · rintro ⟨h1, h2, h3⟩
          by_cases c : aFt g j = 0 ∧ aQu g j = a
          · exact Or.inl ⟨h1, c⟩
          · rw [if_neg c] at h3
            exact Or.inr ⟨h1, h2, h3⟩
      · rw [uf_ne e2, hk]
        constructor
        · rintro ⟨h1, h2, h3⟩
          exact ⟨h1, h2, by rw [if_neg (fun c => e (h3.symm.trans c.2))]; exact h3⟩
        · rintro ⟨h1, h2, h3⟩
          by_cases c : aFt g j = 0 ∧ aQu g j = a
          · rw [if_pos c] at h3; exact absurd h3.symm e2
          · rw [if_neg c] at h3
            exact ⟨h1, h2, h3⟩
  · show (aFt g j = 0 → (if aFt g j = 0 ∧ aQu g j = a then b else aQu g j) < uQ u) ∧ _
    have h5 := h.2.2.2.2.1 j hj
    refine ⟨fun h1 => ?_, h5.2⟩
    split
    · exact hb
    · exact h5.1 h1
theorem GI.pa {u : GU} {g : GS} {q : Nat} {b : Bool} (h : GI u g) : GI u (paG g q b) := h
