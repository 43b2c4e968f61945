/-! ===== 31: the order of the jobs of a queue ===== -/
def cnt (P : Nat → Bool) : Nat → Nat
  | 0 => 0
  | n + 1 => cnt P n + (if P n = true then 1 else 0)
theorem sm_cnt {P : Nat → Bool} : ∀ {n : Nat}, sm (fun k => if P k = true then 1 else 0) n = nI (cnt P n)
  | 0 => rfl
  | n + 1 => by
    rw [sm, cnt, sm_cnt]
    split
    · exact nI_1 _
    · exact Int32.add_zero _
theorem cnt_congr {P Q : Nat → Bool} : ∀ {n : Nat}, (∀ k, k < n → P k = Q k) → cnt P n = cnt Q n
  | 0, _ => rfl
  | n + 1, h => by rw [cnt, cnt, cnt_congr (fun k hk => h k (by omega)), h n (by omega)]
theorem cnt_le {P Q : Nat → Bool} : ∀ {n : Nat}, (∀ k, k < n → P k = true → Q k = true) → cnt P n ≤ cnt Q n
  | 0, _ => Nat.le_refl _
  | n + 1, h => by
    have ih := @cnt_le P Q n (fun k hk => h k (by omega))
    rw [cnt, cnt]
    by_cases c : P n = true
    · rw [if_pos c, if_pos (h n (by omega) c)]; omega
    · rw [if_neg c]; omega
theorem cnt_n {P : Nat → Bool} : ∀ {n : Nat}, cnt P n ≤ n
  | 0 => Nat.le_refl _
  | n + 1 => by
    have ih := @cnt_n P n
    rw [cnt]
    split <;> omega
/-- one more -/
theorem cnt_one {P Q : Nat → Bool} {i : Nat} : ∀ {n : Nat}, i < n → P i = true → Q i = false → (∀ k, k < n → k ≠ i → P k = Q k) → cnt P n = cnt Q n + 1
  | 0, h, _, _, _ => absurd h (Nat.not_lt_zero _)
  | n + 1, h, hp, hq, he => by
    rw [cnt, cnt]
    by_cases e : i = n
    · subst e
      rw [if_pos hp, hq, if_neg Bool.false_ne_true, cnt_congr (fun k hk => he k (by omega) (by omega))]
    · rw [@cnt_one P Q i n (by omega) hp hq (fun k hk hne => he k (by omega) hne), he n (by omega) (fun h => e h.symm)]
      omega
theorem cnt_zero {P : Nat → Bool} : ∀ {n : Nat}, (∀ k, k < n → P k = false) → cnt P n = 0
  | 0, _ => rfl
  | n + 1, h => by rw [cnt, cnt_zero (fun k hk => h k (by omega)), h n (by omega)]; rfl
def wB (g : GS) (q k : Nat) : Bool := decide (wIn g q k)
theorem wB_iff {g : GS} {q k : Nat} : wB g q k = true ↔ wIn g q k := decide_eq_true_iff
def pB (g : GS) (q i k : Nat) : Bool := wB g q k && prc (aPr g) k i
theorem pB_iff {g : GS} {q i k : Nat} : pB g q i k = true ↔ (wIn g q k ∧ prc (aPr g) k i = true) := by
  unfold pB
  rw [Bool.and_eq_true, wB_iff]
def posN (g : GS) (q i : Nat) : Nat := cnt (pB g q i) (aJ g)
def sizN (g : GS) (q : Nat) : Nat := cnt (wB g q) (aJ g)
theorem gSz_n {g : GS} {q : Nat} : gSz g q = nI (sizN g q) := by
  unfold gSz sizN
  rw [← sm_cnt]
  refine sm_congr (fun k _ => ?_)
  unfold w1
  by_cases c : wIn g q k
  · rw [if_pos c, if_pos (wB_iff.mpr c)]
  · rw [if_neg c, if_neg (fun h => c (wB_iff.mp h))]
theorem gPos_n {g : GS} {i : Nat} : gPos (aPr g) g i = nI (posN g (aQu g i) i) := by
  unfold gPos posN
  rw [← sm_cnt]
  refine sm_congr (fun k _ => ?_)
  show (if wIn g (aQu g i) k ∧ prc (aPr g) k i = true then (1 : Int32) else 0) = if pB g (aQu g i) i k = true then 1 else 0
  by_cases c : wIn g (aQu g i) k ∧ prc (aPr g) k i = true
  · rw [if_pos c, if_pos (pB_iff.mpr c)]
  · rw [if_neg c, if_neg (fun h => c (pB_iff.mp h))]
theorem prc_asym {pr : Nat → Nat} {i j : Nat} (h : prc pr i j = true) : prc pr j i = false := by
  cases e : prc pr j i with
  | false => rfl
  | true => have := prc_trans h e; rw [prc_irr] at this; exact absurd this Bool.false_ne_true
theorem prc_tot {pr : Nat → Nat} {i j : Nat} (h : i ≠ j) : prc pr i j = true ∨ prc pr j i = true := by
  have := @prc_not pr i j h
  cases e : prc pr i j with
  | true => exact Or.inl rfl
  | false => rw [this, e]; exact Or.inr rfl
/-- the first of the candidates below n -/
def fa (pr : Nat → Nat) (cand : Nat → Bool) : Nat → Option Nat
  | 0 => none
  | n + 1 => if cand n = true then (match fa pr cand n with
      | none => some n
      | some m => if prc pr n m = true then some n else some m) else fa pr cand n
theorem fa_none {pr : Nat → Nat} {cand : Nat → Bool} : ∀ {n : Nat}, fa pr cand n = none → ∀ k, k < n → cand k = false
  | 0, _, k, hk => absurd hk (Nat.not_lt_zero _)
  | n + 1, h, k, hk => by
    rw [fa] at h
    cases c : cand n with
    | true =>
      rw [if_pos c] at h
      cases e : fa pr cand n with
      | none => rw [e] at h; cases h
      | some m =>
        rw [e] at h
        dsimp only at h
        split at h <;> cases h
    | false =>
      rw [if_neg (by rw [c]; exact Bool.false_ne_true)] at h
      by_cases e : k = n
      · rw [e]; exact c
      · exact fa_none h k (by omega)
theorem fa_some {pr : Nat → Nat} {cand : Nat → Bool} : ∀ {n m : Nat}, fa pr cand n = some m → m < n ∧ cand m = true ∧ ∀ k, k < n → cand k = true → k = m ∨ prc pr m k = true
  | 0, m, h => by cases h
  | n + 1, m, h => by
    rw [fa] at h
    cases c : cand n with
    | true =>
      rw [if_pos c] at h
      cases e : fa pr cand n with
      | none =>
        rw [e] at h
        have hm : n = m := Option.some.inj h
        subst hm
        refine ⟨Nat.lt_succ_self _, c, fun k hk hc => ?_⟩
        by_cases e2 : k = n
        · exact Or.inl e2
        · rw [fa_none e k (by omega)] at hc
          exact absurd hc Bool.false_ne_true
      | some m' =>
        rw [e] at h
        obtain ⟨h1, h2, h3⟩ := fa_some e
        dsimp only at h
        by_cases c2 : prc pr n m' = true
        · rw [if_pos c2] at h
          have hm : n = m := Option.some.inj h
          subst hm
          refine ⟨Nat.lt_succ_self _, c, fun k hk hc => ?_⟩
          by_cases e2 : k = n
          · exact Or.inl e2
          · rcases h3 k (by omega) hc with h4 | h4
            · rw [h4]; exact Or.inr c2
            · exact Or.inr (prc_trans c2 h4)
        · rw [if_neg c2] at h
          have hm : m' = m := Option.some.inj h
          subst hm
          refine ⟨by omega, h2, fun k hk hc => ?_⟩
          by_cases e2 : k = n
          · subst e2
            refine Or.inr ((prc_tot (fun e9 => ?_)).resolve_right c2)
            omega
          · exact h3 k (by omega) hc
    | false =>
      rw [if_neg (by rw [c]; exact Bool.false_ne_true)] at h
      obtain ⟨h1, h2, h3⟩ := fa_some h
      refine ⟨by omega, h2, fun k hk hc => ?_⟩
      by_cases e2 : k = n
      · rw [e2, c] at hc
        exact absurd hc Bool.false_ne_true
      · exact h3 k (by omega) hc
def oI : Option Nat → Int32
  | none => -1
  | some m => nI m
/-- the candidates: the jobs of q, or those of them behind prev -/
def cnd (g : GS) (q : Nat) : Option Nat → Nat → Bool
  | none, k => wB g q k
  | some p, k => wB g q k && prc (aPr g) p k
def nxt (g : GS) (q : Nat) (p : Option Nat) : Option Nat := fa (aPr g) (cnd g q p) (aJ g)
/-- the job at place d -/
def nth (g : GS) (q : Nat) : Nat → Option Nat
  | 0 => nxt g q none
  | d + 1 => match nth g q d with
    | none => none
    | some m => nxt g q (some m)
theorem cnd_w {g : GS} {q k : Nat} {p : Option Nat} (h : cnd g q p k = true) : wIn g q k := by
  cases p with
  | none => exact wB_iff.mp h
  | some p => exact wB_iff.mp (Bool.and_eq_true_iff.mp h).1
theorem nxt_0 {g : GS} {q m : Nat} (h : nxt g q none = some m) : m < aJ g ∧ wIn g q m ∧ posN g q m = 0 := by
  obtain ⟨h1, h2, h3⟩ := fa_some h
  refine ⟨h1, cnd_w h2, cnt_zero (fun k hk => ?_)⟩
  cases e : pB g q m k with
  | false => rfl
  | true =>
    obtain ⟨e1, e2⟩ := pB_iff.mp e
    rcases h3 k hk (wB_iff.mpr e1) with h4 | h4
    · rw [h4, prc_irr] at e2; exact absurd e2 Bool.false_ne_true
    · rw [prc_asym h4] at e2; exact absurd e2 Bool.false_ne_true
theorem nxt_n0 {g : GS} {q : Nat} (h : nxt g q none = none) : sizN g q = 0 := cnt_zero (fa_none h)
theorem nxt_s {g : GS} {q p m d : Nat} (hp : p < aJ g) (hw : wIn g q p) (hd : posN g q p = d) (h : nxt g q (some p) = some m) : m < aJ g ∧ wIn g q m ∧ posN g q m = d + 1 ∧ prc (aPr g) p m = true := by
  obtain ⟨h1, h2, h3⟩ := fa_some h
  have h2' : prc (aPr g) p m = true := (Bool.and_eq_true_iff.mp h2).2
  refine ⟨h1, cnd_w h2, ?_, h2'⟩
  rw [← hd]
  refine cnt_one hp (pB_iff.mpr ⟨hw, h2'⟩) ?_ (fun k hk hne => ?_)
  · cases e : pB g q p p with
    | false => rfl
    | true => have := (pB_iff.mp e).2; rw [prc_irr] at this; exact absurd this Bool.false_ne_true
  · cases e : pB g q p k with
    | true =>
      obtain ⟨e1, e2⟩ := pB_iff.mp e
      exact pB_iff.mpr ⟨e1, prc_trans e2 h2'⟩
    | false =>
      cases e9 : pB g q m k with
      | false => rfl
      | true =>
        obtain ⟨e1, e2⟩ := pB_iff.mp e9
        rcases prc_tot (pr := aPr g) hne with h4 | h4
        · rw [pB_iff.mpr ⟨e1, h4⟩] at e
          exact absurd e.symm Bool.false_ne_true
        · rcases h3 k hk (Bool.and_eq_true_iff.mpr ⟨wB_iff.mpr e1, h4⟩) with h5 | h5
          · rw [h5, prc_irr] at e2; exact absurd e2 Bool.false_ne_true
          · rw [prc_asym h5] at e2; exact absurd e2 Bool.false_ne_true
theorem nxt_ns {g : GS} {q p d : Nat} (hp : p < aJ g) (hw : wIn g q p) (hd : posN g q p = d) (h : nxt g q (some p) = none) : sizN g q = d + 1 := by
  have h1 := fa_none h
  rw [← hd]
  refine cnt_one hp (wB_iff.mpr hw) ?_ (fun k hk hne => ?_)
  · cases e : pB g q p p with
    | false => rfl
    | true => have := (pB_iff.mp e).2; rw [prc_irr] at this; exact absurd this Bool.false_ne_true
  · cases e : wB g q k with
    | false =>
      unfold pB
      rw [e]
      rfl
    | true =>
      refine (pB_iff.mpr ⟨wB_iff.mp e, ?_⟩).symm
      refine (prc_tot hne).resolve_right (fun h2 => ?_)
      have := h1 k hk
      rw [show cnd g q (some p) k = (wB g q k && prc (aPr g) p k) from rfl, e, h2] at this
      exact absurd this Bool.noConfusion
theorem nth_some {g : GS} {q : Nat} : ∀ {d m : Nat}, nth g q d = some m → m < aJ g ∧ wIn g q m ∧ posN g q m = d
  | 0, m, h => nxt_0 h
  | d + 1, m, h => by
    rw [nth] at h
    cases e : nth g q d with
    | none => rw [e] at h; cases h
    | some p =>
      rw [e] at h
      obtain ⟨h1, h2, h3⟩ := nth_some e
      obtain ⟨k1, k2, k3, -⟩ := nxt_s h1 h2 h3 h
      exact ⟨k1, k2, k3⟩
theorem nth_none {g : GS} {q : Nat} : ∀ {d : Nat}, nth g q d = none → sizN g q ≤ d
  | 0, h => by rw [nxt_n0 h]; exact Nat.le_refl _
  | d + 1, h => by
    rw [nth] at h
    cases e : nth g q d with
    | none => have := nth_none e; omega
    | some p =>
      rw [e] at h
      obtain ⟨h1, h2, h3⟩ := nth_some e
      rw [nxt_ns h1 h2 h3 h]
      exact Nat.le_refl _
theorem pos_lt {g : GS} {q i : Nat} (hi : i < aJ g) (hw : wIn g q i) : posN g q i < sizN g q := by
  have : cnt (fun k => pB g q i k || decide (k = i)) (aJ g) = posN g q i + 1 := by
    refine cnt_one hi (by simp) ?_ (fun k hk hne => by simp [hne])
    cases e : pB g q i i with
    | false => rfl
    | true => have := (pB_iff.mp e).2; rw [prc_irr] at this; exact absurd this Bool.false_ne_true
  have h2 : cnt (fun k => pB g q i k || decide (k = i)) (aJ g) ≤ sizN g q := cnt_le (fun k hk h => by
    rw [Bool.or_eq_true, pB_iff, decide_eq_true_iff] at h
    refine wB_iff.mpr ?_
    rcases h with h | h
    · exact h.1
    · rw [h]; exact hw)
  omega
theorem pos_inj {g : GS} {q i j : Nat} (hi : i < aJ g) (hj : j < aJ g) (wi : wIn g q i) (wj : wIn g q j) (h : posN g q i = posN g q j) : i = j := by
  have key : ∀ {i j : Nat}, i < aJ g → wIn g q i → prc (aPr g) i j = true → posN g q i < posN g q j := by
    intro i j hi wi hij
    have h1 : cnt (fun k => pB g q i k || decide (k = i)) (aJ g) = posN g q i + 1 := by
      refine cnt_one hi (by simp) ?_ (fun k hk hne => by simp [hne])
      cases e : pB g q i i with
      | false => rfl
      | true => have := (pB_iff.mp e).2; rw [prc_irr] at this; exact absurd this Bool.false_ne_true
    have h2 : cnt (fun k => pB g q i k || decide (k = i)) (aJ g) ≤ posN g q j := cnt_le (fun k hk h => by
      rw [Bool.or_eq_true, pB_iff, decide_eq_true_iff] at h
      refine pB_iff.mpr ?_
      rcases h with h | h
      · exact ⟨h.1, prc_trans h.2 hij⟩
      · rw [h]; exact ⟨wi, hij⟩)
    omega
  by_cases e : i = j
  · exact e
  · rcases prc_tot (pr := aPr g) e with h1 | h1
    · have := key hi wi h1; omega
    · have := key hj wj h1; omega
theorem nth_iff {g : GS} {q d i : Nat} (hi : i < aJ g) (hw : wIn g q i) (hd : posN g q i = d) : nth g q d = some i := by
  cases e : nth g q d with
  | none => have := nth_none e; have := pos_lt hi hw; omega
  | some m =>
    obtain ⟨h1, h2, h3⟩ := nth_some e
    rw [pos_inj h1 hi h2 hw (by omega)]
/-! firstAfter of the class -/
theorem oI_m {o : Option Nat} {n : Nat} (h : ∀ m, o = some m → m < 40) : (oI o = -1) = (o = none) := by
  cases o with
  | none => exact propext ⟨fun _ => rfl, fun _ => rfl⟩
  | some m => exact propext ⟨fun e => absurd e (nI_m (h m rfl)), fun e => by cases e⟩
theorem firstAfter_ok {u : GU} {g : GS} {v : SV} (hI : GI u g) (hC : CS g v) {q : Nat} (hq : q < 6) {p : Option Nat} (hp : ∀ m, p = some m → m < aJ g) : f_X7_firstAfter v (nI q) (oI p) = some (oI (nxt g q p)) := by
  have hJ := hI.1
  have hFU := FUbig hI
  have hb : ∀ {n m : Nat}, fa (aPr g) (cnd g q p) n = some m → m < n := fun h => (fa_some h).1
  refine loop_acc (L := fun n a k => f_X7_firstAfter_h5 n (nI q) (oI p) a k v) (A := fun k => oI (fa (aPr g) (cnd g q p) k)) (J := aJ g) (fun n k hk => ?_) (fun n => ?_) (aJ g - 0) FU 0 rfl (by omega) (Nat.zero_le _)
  · show f_X7_firstAfter_h5 (n + 1) (nI q) (oI p) (oI (fa (aPr g) (cnd g q p) k)) (nI k) v = f_X7_firstAfter_h5 n (nI q) (oI p) (oI (fa (aPr g) (cnd g q p) (k + 1))) (nI (k + 1)) v
    have k40 : k < 40 := by omega
    rw [f_X7_firstAfter_h5, hC.1, if_neg (nI_ge hk (by omega)), if_neg (l40 k40)]
    simp only [if_neg (o40 k40), c40 k40]
    rw [nI_1, fa]
    by_cases c : wIn g q k
    · rw [if_pos ((quI hI hC hk hq).mpr c)]
      -- the comparison with what was found
      have key : (if oI (fa (aPr g) (cnd g q p) k) = -1 then f_X7_firstAfter_h5 n (nI q) (oI p) (nI k) (nI (k + 1)) v else (f_X0_precedes (SVH v) (nI k) (oI (fa (aPr g) (cnd g q p) k))).bind fun r => if r = 0 then f_X7_firstAfter_h5 n (nI q) (oI p) (oI (fa (aPr g) (cnd g q p) k)) (nI (k + 1)) v else f_X7_firstAfter_h5 n (nI q) (oI p) (nI k) (nI (k + 1)) v) = f_X7_firstAfter_h5 n (nI q) (oI p) (oI (match fa (aPr g) (cnd g q p) k with
          | none => some k
          | some m => if prc (aPr g) k m = true then some k else some m)) (nI (k + 1)) v := by
        cases e : fa (aPr g) (cnd g q p) k with
        | none => rw [if_pos (show oI none = -1 from rfl)]; rfl
        | some m =>
          have hm := hb e
          rw [if_neg (show ¬ oI (some m) = -1 from nI_m (by omega)), show oI (some m) = nI m from rfl, prec_ij hI hC hk (by omega), Option.bind_some]
          dsimp only
          by_cases c2 : prc (aPr g) k m = true
          · rw [if_pos c2, if_neg n10, if_pos c2]; rfl
          · rw [if_neg c2, if_pos rfl, if_neg c2]; rfl
      cases p with
      | none =>
        rw [if_pos (show oI none = -1 from rfl), if_pos (show cnd g q none k = true from wB_iff.mpr c)]
        exact key
      | some pm =>
        have hpm := hp pm rfl
        rw [if_neg (show ¬ oI (some pm) = -1 from nI_m (by omega)), show f_X0_precedes (SVH v) (oI (some pm)) (nI k) = _ from prec_ij hI hC hpm hk, Option.bind_some]
        by_cases c2 : prc (aPr g) pm k = true
        · rw [if_pos c2, if_neg n10, if_pos (show cnd g q (some pm) k = true from Bool.and_eq_true_iff.mpr ⟨wB_iff.mpr c, c2⟩)]
          exact key
        · rw [if_neg c2, if_pos rfl, if_neg (show ¬ cnd g q (some pm) k = true from fun h => c2 (Bool.and_eq_true_iff.mp h).2)]
    · rw [if_neg (fun h => c ((quI hI hC hk hq).mp h)), if_neg (fun h => c (cnd_w h))]
  · show f_X7_firstAfter_h5 (n + 1) (nI q) (oI p) (oI (fa (aPr g) (cnd g q p) (aJ g))) (nI (aJ g)) v = _
    rw [f_X7_firstAfter_h5, hC.1, if_pos (nI_le (Nat.le_refl _) (by omega))]
    rfl
/-- the root of a heap that holds all candidates -/
theorem root_fa {pr : Nat → Nat} {cand : Nat → Bool} {n : Nat} {t : Tr} (hh : hpo pr t) (h : ∀ k, k ∈ nds t ↔ (k < n ∧ cand k = true)) : hv t = oI (fa pr cand n) := by
  cases t with
  | leaf u =>
    cases e : fa pr cand n with
    | none => rfl
    | some m =>
      obtain ⟨h1, h2, -⟩ := fa_some e
      have := (h m).mpr ⟨h1, h2⟩
      simp [nds] at this
  | branch i l r =>
    have hi := (h i).mp (by simp [nds])
    cases e : fa pr cand n with
    | none =>
      have := fa_none e i hi.1
      rw [hi.2] at this
      cases this
    | some m =>
      obtain ⟨h1, h2, h3⟩ := fa_some e
      have hm := (h m).mpr ⟨h1, h2⟩
      show nI i = nI m
      rcases hpo_top hh hm with h4 | h4
      · rw [h4]
      · rcases h3 i hi.1 hi.2 with h5 | h5
        · rw [h5]
        · rw [prc_asym h5] at h4
          exact absurd h4 Bool.false_ne_true
theorem root_nth {u : GU} {g : GS} (hI : GI u g) {q : Nat} : hv (aF g q) = oI (nth g q 0) := by
  refine root_fa (hI.2.2.1 q).2.2 (fun k => ?_)
  rw [hI.2.2.2.1 q k]
  exact ⟨fun h => ⟨h.1, wB_iff.mpr h.2⟩, fun h => ⟨h.1, wB_iff.mp h.2⟩⟩
/-! jobAt -/
theorem nth_lt {u : GU} {g : GS} {q d m : Nat} (h : nth g q d = some m) : m < aJ g := (nth_some h).1
theorem jobIn_ok {u : GU} {g : GS} {v : MV} (hI : GI u g) (hM : MS u g (MVSt v)) {q d : Nat} (hq : q < 6) (hd : d < 2 ^ 31) : f_X9_jobIn v (nI q) (nI d) = some (oI (nth g q d)) := by
  have hJ := hI.1
  have hFU := FUbig hI
  have main : ∀ (m n k : Nat), aJ g - k = m → m < n → k ≤ aJ g → (∀ j, j < k → wIn g q j → posN g q j ≠ d) → f_X9_jobIn_h2 n (nI q) (nI d) (nI k) v = some (oI (nth g q d)) := by
    intro m
    induction m with
    | zero =>
      intro n k hm hn hk hno
      obtain ⟨n, rfl⟩ : ∃ m, n = m + 1 := ⟨n - 1, by omega⟩
      have : k = aJ g := by omega
      subst this
      rw [f_X9_jobIn_h2]
      simp only [if_neg o2, cl2]
      rw [hM.1.2.2, if_pos (nI_le (Nat.le_refl _) (by omega))]
      cases e : nth g q d with
      | none => rfl
      | some i =>
        obtain ⟨h1, h2, h3⟩ := nth_some e
        exact absurd h3 (hno i h1 h2)
    | succ m ih =>
      intro n k hm hn hk hno
      obtain ⟨n, rfl⟩ : ∃ m, n = m + 1 := ⟨n - 1, by omega⟩
      have hk2 : k < aJ g := by omega
      rw [f_X9_jobIn_h2]
      simp only [if_neg o2, cl2]
      rw [hM.1.2.2, if_neg (nI_ge hk2 (by omega)), isIn_w hI hM hk2 hq, Option.bind_some, nI_1]
      unfold w1
      have hstep : ∀ (_ : ¬ (wIn g q k ∧ posN g q k = d)), f_X9_jobIn_h2 n (nI q) (nI d) (nI (k + 1)) v = some (oI (nth g q d)) := fun hno2 => ih n (k + 1) (by omega) (by omega) (by omega) (fun j hj hw hp => by
        by_cases e : j = k
        · subst e; exact hno2 ⟨hw, hp⟩
        · exact hno j (by omega) hw hp)
      by_cases c : wIn g q k
      · rw [if_pos c, if_neg n10, mpositionIn_ok hI hM hk2 c.1, Option.bind_some, gPos_n, c.2]
        have hl := @cnt_n (pB g q k) (aJ g)
        have hl2 : posN g q k ≤ aJ g := hl
        by_cases c2 : posN g q k = d
        · rw [if_pos (congrArg nI c2), nth_iff hk2 c c2]
          rfl
        · rw [if_neg (fun h => c2 ((nI_eq (by omega) hd).mp h))]
          exact hstep (fun h => c2 h.2)
      · rw [if_neg c, if_pos rfl]
        exact hstep (fun h => c h.1)
  exact main (aJ g - 0) FU 0 rfl (by omega) (Nat.zero_le _) (fun j hj => absurd hj (Nat.not_lt_zero _))
