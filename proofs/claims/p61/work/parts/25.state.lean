/-! ===== 25: the state: what it is, on both sides ===== -/
def uf {α : Type} (f : Nat → α) (i : Nat) (x : α) : Nat → α := fun k => if k = i then x else f k
theorem uf_eq {α : Type} {f : Nat → α} {i : Nat} {x : α} : uf f i x i = x := if_pos rfl
theorem uf_ne {α : Type} {f : Nat → α} {i k : Nat} {x : α} (h : k ≠ i) : uf f i x k = f k := if_neg h
/-- what a setup lays down: how many queues, owners; speeds; names -/
abbrev GU : Type := Nat × Nat × (Nat → Nat) × (Nat → List Nat) × (Nat → List Nat)
def uQ (u : GU) : Nat := u.1
def uO (u : GU) : Nat := u.2.1
def uS (u : GU) : Nat → Nat := u.2.2.1
def uN (u : GU) : Nat → List Nat := u.2.2.2.1
def uM (u : GU) : Nat → List Nat := u.2.2.2.2
/-- what a change may alter: how many jobs; heaps; priorities, owners, pages, fates, queues of jobs; printed pages, paused; comparisons, swaps -/
abbrev GS : Type := Nat × (Nat → Tr) × (Nat → Nat) × (Nat → Int32) × (Nat → Int32) × (Nat → Nat) × (Nat → Nat) × (Nat → Int32) × (Nat → Bool) × Int32 × Int32
def aJ (g : GS) : Nat := g.1
def aF (g : GS) : Nat → Tr := g.2.1
def aPr (g : GS) : Nat → Nat := g.2.2.1
def aOw (g : GS) : Nat → Int32 := g.2.2.2.1
def aPg (g : GS) : Nat → Int32 := g.2.2.2.2.1
def aFt (g : GS) : Nat → Nat := g.2.2.2.2.2.1
def aQu (g : GS) : Nat → Nat := g.2.2.2.2.2.2.1
def aPd (g : GS) : Nat → Int32 := g.2.2.2.2.2.2.2.1
def aPs (g : GS) : Nat → Bool := g.2.2.2.2.2.2.2.2.1
def aCm (g : GS) : Int32 := g.2.2.2.2.2.2.2.2.2.1
def aSw (g : GS) : Int32 := g.2.2.2.2.2.2.2.2.2.2
def b2i (b : Bool) : Int32 := if b = true then 1 else 0
def out (G : HG) (i : Nat) : Prop := gL G i = -1 ∧ gR G i = -1 ∧ gU G i = -1 ∧ gK G i = 0
theorem out_congr {G G' : HG} {i : Nat} (h : eqG G G' i) (ho : out G i) : out G' i := ⟨h.1.trans ho.1, h.2.1.trans ho.2.1, h.2.2.1.trans ho.2.2.1, h.2.2.2.trans ho.2.2.2⟩
/-- what always holds -/
def GI (u : GU) (g : GS) : Prop :=
  aJ g ≤ 40 ∧ (0 ≤ uQ u ∧ uQ u ≤ 6) ∧ (∀ q, (nds (aF g q)).Nodup ∧ lft (aF g q) ∧ hpo (aPr g) (aF g q)) ∧ (∀ q i, i ∈ nds (aF g q) ↔ (i < aJ g ∧ aFt g i = 0 ∧ aQu g i = q)) ∧
  (∀ i, i < aJ g → (aFt g i = 0 → aQu g i < uQ u) ∧ aPr g i < 100 ∧ aFt g i ≤ 2 ∧ ∃ p, aPg g i = nI p ∧ 1 ≤ p ∧ p ≤ 99) ∧ (∀ q, uQ u ≤ q → aPd g q = 0)
/-- the class's state -/
def CS (g : GS) (v : SV) : Prop :=
  SVJc v = nI (aJ g) ∧ (∀ i, i < aJ g → HVPr (SVH v) i = nI (aPr g i) ∧ SVOw v i = aOw g i ∧ SVPg v i = aPg g i ∧ SVFt v i = nI (aFt g i) ∧ SVQu v i = (if aFt g i = 0 then nI (aQu g i) else -1) ∧ (aFt g i ≠ 0 → out (gH (SVH v)) i)) ∧
  (∀ i, i < 40 → ∃ p, HVPr (SVH v) i = nI p ∧ p < 1000) ∧ (∀ q, q < 6 → SVRo v q = hv (aF g q) ∧ SVPd v q = aPd g q ∧ SVPs v q = b2i (aPs g q)) ∧
  (∀ q, sub (gH (SVH v)) (aF g q) ∧ upK (gH (SVH v)) (aF g q) (-1)) ∧ HVCm (SVH v) = aCm g ∧ HVSw (SVH v) = aSw g
/-- the reference's row -/
def MS (u : GU) (g : GS) (st : Nat → Int32) : Prop :=
  (st 0 = nI (uQ u) ∧ st 1 = nI (uO u) ∧ st 2 = nI (aJ g)) ∧ (∀ i, i < aJ g → jf st 0 i = aOw g i ∧ jf st 1 i = nI (aPr g i) ∧ jf st 2 i = aPg g i ∧ jf st 3 i = nI (aFt g i) ∧ (aFt g i = 0 → jf st 4 i = nI (aQu g i)) ∧ (aFt g i ≠ 0 → out (gM st) i)) ∧
  (∀ i, i < 40 → ∃ p, jf st 1 i = nI p ∧ p < 1000) ∧ (∀ q, q < uQ u → st (10 + 11 * q + 9) = hv (aF g q) ∧ st (10 + 11 * q + 10) = aPd g q ∧ st (10 + 11 * q + 8) = b2i (aPs g q)) ∧
  (∀ q, sub (gM st) (aF g q) ∧ upK (gM st) (aF g q) (-1)) ∧ st 3 = aCm g ∧ st 4 = aSw g
theorem mg_congr {pr pr' : Nat → Nat} : ∀ {a b : Tr}, (∀ k, k ∈ nds a ∨ k ∈ nds b → pr k = pr' k) → mg pr a b = mg pr' a b := by
  intro a
  induction a with
  | leaf u => intro b _; rw [mg_l, mg_l]
  | branch i la ra _ iha =>
    intro b
    induction b with
    | leaf u => intro _; rw [mg_r, mg_r]
    | branch j lb rb _ ihb =>
      intro h
      have hi := h i (Or.inl (by simp [nds]))
      have hj := h j (Or.inr (by simp [nds]))
      have hp : prc pr i j = prc pr' i j := by unfold prc; rw [hi, hj]
      cases e : prc pr i j with
      | true =>
        rw [mg_1 e, mg_1 (hp ▸ e), iha (fun k hk => h k (hk.elim (fun g => Or.inl (by simp [nds, g])) Or.inr))]
      | false =>
        rw [mg_2 e, mg_2 (hp ▸ e), ihb (fun k hk => h k (hk.elim Or.inl (fun g => Or.inr (by simp [nds, g]))))]
theorem zp_mem {i k : Nat} {t : Tr} (h : i ∈ nds t) : k ∈ nds (zp i t []).2.1 ∨ k ∈ nds (zp i t []).2.2 → k ∈ nds t := by
  intro hk
  have e := zp_pl (K := []) h
  have h1 := (@pl_perm (zp i t []).1 (.branch i (zp i t []).2.1 (zp i t []).2.2)).mem_iff (a := k)
  rw [e] at h1
  rw [show plT [] t = t from rfl] at h1
  rw [h1]
  refine List.mem_append_left _ ?_
  simp only [nds, List.mem_cons, List.mem_append]
  exact Or.inr hk
theorem rm_congr {pr pr' : Nat → Nat} {i : Nat} {t : Tr} (hi : i ∈ nds t) (h : ∀ k, k ∈ nds t → pr k = pr' k) : rmT pr i t = rmT pr' i t := by
  unfold rmT
  rw [mg_congr (fun k hk => h k (zp_mem hi hk))]
/-- the priorities that stand in a row, jobs or not -/
theorem pr_all {f : Nat → Int32} {pr : Nat → Nat} {n : Nat} (h : ∀ i, i < 40 → ∃ p, f i = nI p ∧ p < 1000) (h2 : ∀ i, i < n → f i = nI (pr i) ∧ pr i < 1000) (hn : n ≤ 40) : ∃ p : Nat → Nat, (∀ k, k < 40 → f k = nI (p k) ∧ p k < 1000) ∧ ∀ k, k < n → p k = pr k := by
  refine ⟨fun k => if k < n then pr k else (f k).toNatClampNeg, fun k hk => ?_, fun k hk => if_pos hk⟩
  by_cases c : k < n
  · simp only [if_pos c]
    exact h2 k c
  · simp only [if_neg c]
    obtain ⟨p, e, hp⟩ := h k hk
    rw [e, nI_clamp (by omega)]
    exact ⟨rfl, hp⟩
theorem prOK_of {v : HV} {p : Nat → Nat} (h : ∀ k, k < 40 → HVPr v k = nI (p k) ∧ p k < 1000) : prOK v p := fun k hk => ⟨(h k hk).1, by have := (h k hk).2; omega⟩
def nd1 (i : Nat) : Tr := .branch i (.leaf ()) (.leaf ())
theorem nds1 {i : Nat} : nds (nd1 i) = [i] := rfl
theorem rm_lft : ∀ {K : Ctx} {t : Tr}, lft (plT K t) → (∀ t', lft t' → lft (fixC K t').1) ∧ lft t := by
  intro K
  induction K with
  | nil => intro t h; exact ⟨fun t' h' => h', h⟩
  | cons f K ih =>
    obtain ⟨b, j, s⟩ := f
    intro t h
    cases b with
    | true =>
      obtain ⟨h1, h2⟩ := @ih (.branch j t s) h
      exact ⟨fun t' h' => h1 _ (lft_fix h' h2.2.2), h2.2.1⟩
    | false =>
      obtain ⟨h1, h2⟩ := @ih (.branch j s t) h
      exact ⟨fun t' h' => h1 _ (lft_fix h2.2.1 h'), h2.2.2⟩
theorem rm_hpo {pr : Nat → Nat} : ∀ {K : Ctx} {t : Tr}, hpo pr (plT K t) → (∀ t', (∀ k, k ∈ nds t' → k ∈ nds t) → hpo pr t' → hpo pr (fixC K t').1) ∧ hpo pr t := by
  intro K
  induction K with
  | nil => intro t h; exact ⟨fun t' _ h' => h', h⟩
  | cons f K ih =>
    obtain ⟨b, j, s⟩ := f
    intro t h
    cases b with
    | true =>
      obtain ⟨h1, h2⟩ := @ih (.branch j t s) h
      refine ⟨fun t' hk h' => h1 _ (fun k g => ?_) (hpo_fix (fun k g => h2.1 k (g.imp (hk k) id)) h' h2.2.2), h2.2.1⟩
      have := nds_fix.mem_iff.mp g
      simp only [List.mem_cons, List.mem_append] at this
      simp only [nds, List.mem_cons, List.mem_append]
      exact this.imp id (fun g => g.imp (hk k) id)
    | false =>
      obtain ⟨h1, h2⟩ := @ih (.branch j s t) h
      refine ⟨fun t' hk h' => h1 _ (fun k g => ?_) (hpo_fix (fun k g => h2.1 k (g.imp id (hk k))) h2.2.1 h'), h2.2.2⟩
      have := nds_fix.mem_iff.mp g
      simp only [List.mem_cons, List.mem_append] at this
      simp only [nds, List.mem_cons, List.mem_append]
      exact this.imp id (fun g => g.imp id (hk k))
theorem rm_inv {pr : Nat → Nat} {i : Nat} {t : Tr} (hi : i ∈ nds t) (hn : (nds t).Nodup) (hl : lft t) (hh : hpo pr t) :
    (nds (rmT pr i t).1).Nodup ∧ lft (rmT pr i t).1 ∧ hpo pr (rmT pr i t).1 ∧ ∀ k, k ∈ nds (rmT pr i t).1 ↔ (k ∈ nds t ∧ k ≠ i) := by
  have hp := @rm_perm pr i t hi
  have hn2 := hp.nodup_iff.mpr hn
  rw [List.nodup_cons] at hn2
  have e := zp_pl (K := []) hi
  have et : plT (zp i t []).1 (.branch i (zp i t []).2.1 (zp i t []).2.2) = t := e
  have h1 := @rm_lft (zp i t []).1 (.branch i (zp i t []).2.1 (zp i t []).2.2) (by rw [et]; exact hl)
  have h2 := @rm_hpo pr (zp i t []).1 (.branch i (zp i t []).2.1 (zp i t []).2.2) (by rw [et]; exact hh)
  have hpp := @pl_perm (zp i t []).1 (.branch i (zp i t []).2.1 (zp i t []).2.2)
  rw [et] at hpp
  have hd := nd_br (List.nodup_append.mp (hpp.nodup_iff.mp hn)).1
  refine ⟨hn2.2, h1.1 _ (lft_mg h1.2.2.1 h1.2.2.2), h2.1 _ (fun k g => ?_) (hpo_mg hd.2.2.1 h2.2.2.1 h2.2.2.2), fun k => ?_⟩
  · simp only [nds, List.mem_cons, List.mem_append]
    exact Or.inr (mem_mg.mp g)
  · have := hp.mem_iff (a := k)
    rw [← this, List.mem_cons]
    constructor
    · intro g
      exact ⟨Or.inr g, fun e => hn2.1 (e ▸ g)⟩
    · rintro ⟨g | g, h⟩
      · exact absurd g h
      · exact g
