/-! ===== 29: what is counted over all jobs, on both sides ===== -/
def sm (f : Nat → Int32) : Nat → Int32
  | 0 => 0
  | n + 1 => sm f n + f n
theorem sm_congr {f f' : Nat → Int32} : ∀ {n : Nat}, (∀ k, k < n → f k = f' k) → sm f n = sm f' n
  | 0, _ => rfl
  | n + 1, h => by rw [sm, sm, sm_congr (fun k hk => h k (by omega)), h n (by omega)]
theorem loop_at {R : Type} {L : Nat → Int32 → Int32 → R} {f : Nat → Int32} {J : Nat} {E : Int32 → R} (hs : ∀ n a k, k < J → L (n + 1) a (nI k) = L n (a + f k) (nI (k + 1))) (he : ∀ n a, L (n + 1) a (nI J) = E a) : ∀ (m n k : Nat), J - k = m → m < n → k ≤ J → L n (sm f k) (nI k) = E (sm f J) := by
  intro m
  induction m with
  | zero =>
    intro n k hm hn hk
    obtain ⟨n, rfl⟩ : ∃ m, n = m + 1 := ⟨n - 1, by omega⟩
    have : k = J := by omega
    subst this
    exact he n _
  | succ m ih =>
    intro n k hm hn hk
    obtain ⟨n, rfl⟩ : ∃ m, n = m + 1 := ⟨n - 1, by omega⟩
    rw [hs n _ k (by omega)]
    exact ih n (k + 1) (by omega) (by omega) (by omega)
theorem loop_sm {R : Type} {L : Nat → Int32 → Int32 → R} {f : Nat → Int32} {J n : Nat} {E : Int32 → R} (hn : J < n) (hs : ∀ n a k, k < J → L (n + 1) a (nI k) = L n (a + f k) (nI (k + 1))) (he : ∀ n a, L (n + 1) a (nI J) = E a) : L n 0 0 = E (sm f J) :=
  loop_at hs he (J - 0) n 0 rfl (by omega) (Nat.zero_le _)
theorem FUbig {u : GU} {g : GS} (hI : GI u g) : aJ g < FU := by
  have := hI.1
  have : FU = 5000 := rfl
  omega
/-- does job k wait in queue q -/
abbrev wIn (g : GS) (q k : Nat) : Prop := aFt g k = 0 ∧ aQu g k = q
def w1 (g : GS) (q k : Nat) : Int32 := if wIn g q k then 1 else 0
def wP (g : GS) (q k : Nat) : Int32 := if wIn g q k then aPg g k else 0
def gSz (g : GS) (q : Nat) : Int32 := sm (w1 g q) (aJ g)
def gPg (g : GS) (q : Nat) : Int32 := sm (wP g q) (aJ g)
def gOw (g : GS) (o : Int32) (b : Nat) : Int32 := sm (fun k => if aOw g k = o ∧ aFt g k = b then aPg g k else 0) (aJ g)
def gPos (pr : Nat → Nat) (g : GS) (i : Nat) : Int32 := sm (fun k => if wIn g (aQu g i) k ∧ prc pr k i = true then 1 else 0) (aJ g)
def gBef (g : GS) (i : Nat) : Int32 := sm (fun k => if wIn g (aQu g i) k ∧ prc (aPr g) k i = true then aPg g k else 0) (aJ g)
def gWt (g : GS) : Int32 := sm (fun k => if aFt g k = 0 then 1 else 0) (aJ g)
def gAll (g : GS) : Int32 := sm (aPg g) (aJ g)
theorem q6 {u : GU} {g : GS} (hI : GI u g) {k : Nat} (hk : k < aJ g) (hf : aFt g k = 0) : aQu g k < 6 := by
  have := (hI.2.2.2.2.1 k hk).1 hf
  have := hI.2.1.2
  omega
/-! the class -/
section CLASS
variable {u : GU} {g : GS} {v : SV}
theorem quI (hI : GI u g) (hC : CS g v) {k q : Nat} (hk : k < aJ g) (hq : q < 6) : SVQu v k = nI q ↔ wIn g q k := by
  rw [(hC.2.1 k hk).2.2.2.2.1]
  by_cases hf : aFt g k = 0
  · rw [if_pos hf]
    have := q6 hI hk hf
    exact ⟨fun h => ⟨hf, (nI_eq (by omega) (by omega)).mp h⟩, fun h => congrArg nI h.2⟩
  · rw [if_neg hf]
    exact ⟨fun h => absurd h.symm (nI_m (by omega)), fun h => absurd h.1 hf⟩
theorem jobsIn_ok (hI : GI u g) (hC : CS g v) {q : Nat} (hq : q < 6) : f_X7_jobsIn v (nI q) = some (gSz g q) := by
  have hJ := hI.1
  refine loop_sm (L := fun n a k => f_X7_jobsIn_h4 n (nI q) a k v) (E := some) (FUbig hI) (fun n a k hk => ?_) (fun n a => ?_)
  · show f_X7_jobsIn_h4 (n + 1) (nI q) a (nI k) v = f_X7_jobsIn_h4 n (nI q) (a + w1 g q k) (nI (k + 1)) v
    have k40 : k < 40 := by omega
    rw [f_X7_jobsIn_h4, hC.1, if_neg (nI_ge hk (by omega)), if_neg (l40 k40)]
    simp only [if_neg (o40 k40), c40 k40]
    rw [nI_1]
    unfold w1
    by_cases c : wIn g q k
    · rw [if_pos ((quI hI hC hk hq).mpr c), if_pos c]
    · rw [if_neg (fun h => c ((quI hI hC hk hq).mp h)), if_neg c, Int32.add_zero]
  · show f_X7_jobsIn_h4 (n + 1) (nI q) a (nI (aJ g)) v = some a
    rw [f_X7_jobsIn_h4, hC.1, if_pos (nI_le (Nat.le_refl _) (by omega))]
theorem pagesIn_ok (hI : GI u g) (hC : CS g v) {q : Nat} (hq : q < 6) : f_X7_pagesIn v (nI q) = some (gPg g q) := by
  have hJ := hI.1
  refine loop_sm (L := fun n a k => f_X7_pagesIn_h4 n (nI q) a k v) (E := some) (FUbig hI) (fun n a k hk => ?_) (fun n a => ?_)
  · show f_X7_pagesIn_h4 (n + 1) (nI q) a (nI k) v = f_X7_pagesIn_h4 n (nI q) (a + wP g q k) (nI (k + 1)) v
    have k40 : k < 40 := by omega
    rw [f_X7_pagesIn_h4, hC.1, if_neg (nI_ge hk (by omega)), if_neg (l40 k40)]
    simp only [if_neg (o40 k40), c40 k40]
    rw [nI_1]
    unfold wP
    by_cases c : wIn g q k
    · rw [if_pos ((quI hI hC hk hq).mpr c), if_pos c, (hC.2.1 k hk).2.2.1]
    · rw [if_neg (fun h => c ((quI hI hC hk hq).mp h)), if_neg c, Int32.add_zero]
  · show f_X7_pagesIn_h4 (n + 1) (nI q) a (nI (aJ g)) v = some a
    rw [f_X7_pagesIn_h4, hC.1, if_pos (nI_le (Nat.le_refl _) (by omega))]
theorem pagesOfOwner_ok (hI : GI u g) (hC : CS g v) {o : Int32} {b : Nat} (hb : b < 3) : f_X7_pagesOfOwner v o (nI b) = some (gOw g o b) := by
  have hJ := hI.1
  refine loop_sm (L := fun n a k => f_X7_pagesOfOwner_h5 n o (nI b) a k v) (E := some) (FUbig hI) (fun n a k hk => ?_) (fun n a => ?_)
  · show f_X7_pagesOfOwner_h5 (n + 1) o (nI b) a (nI k) v = f_X7_pagesOfOwner_h5 n o (nI b) (a + if aOw g k = o ∧ aFt g k = b then aPg g k else 0) (nI (k + 1)) v
    have k40 : k < 40 := by omega
    obtain ⟨e1, e2, e3, e4, e5, e6⟩ := hC.2.1 k hk
    have h5 := hI.2.2.2.2.1 k hk
    rw [f_X7_pagesOfOwner_h5, hC.1, if_neg (nI_ge hk (by omega)), if_neg (l40 k40)]
    simp only [if_neg (o40 k40), c40 k40]
    rw [nI_1, e2, e3, e4]
    by_cases c : aOw g k = o
    · rw [if_pos c]
      by_cases c2 : aFt g k = b
      · rw [if_pos (congrArg nI c2), if_pos ⟨c, c2⟩]
      · rw [if_neg (fun h => c2 ((nI_eq (by omega) (by omega)).mp h)), if_neg (fun h => c2 h.2), Int32.add_zero]
    · rw [if_neg c, if_neg (fun h => c h.1), Int32.add_zero]
  · show f_X7_pagesOfOwner_h5 (n + 1) o (nI b) a (nI (aJ g)) v = some a
    rw [f_X7_pagesOfOwner_h5, hC.1, if_pos (nI_le (Nat.le_refl _) (by omega))]
theorem pagesOfAllJobs_ok (hI : GI u g) (hC : CS g v) : f_X7_pagesOfAllJobs v = some (gAll g) := by
  have hJ := hI.1
  refine loop_sm (L := fun n a k => f_X7_pagesOfAllJobs_h4 n a k v) (E := some) (FUbig hI) (fun n a k hk => ?_) (fun n a => ?_)
  · show f_X7_pagesOfAllJobs_h4 (n + 1) a (nI k) v = f_X7_pagesOfAllJobs_h4 n (a + aPg g k) (nI (k + 1)) v
    have k40 : k < 40 := by omega
    rw [f_X7_pagesOfAllJobs_h4, hC.1, if_neg (nI_ge hk (by omega)), if_neg (l40 k40)]
    simp only [if_neg (o40 k40), c40 k40]
    rw [nI_1, (hC.2.1 k hk).2.2.1]
  · show f_X7_pagesOfAllJobs_h4 (n + 1) a (nI (aJ g)) v = some a
    rw [f_X7_pagesOfAllJobs_h4, hC.1, if_pos (nI_le (Nat.le_refl _) (by omega))]
theorem waitingJobs_ok (hI : GI u g) (hC : CS g v) : f_X7_waitingJobs v = some (gWt g) := by
  have hJ := hI.1
  refine loop_sm (L := fun n a k => f_X7_waitingJobs_h4 n a k v) (E := some) (FUbig hI) (fun n a k hk => ?_) (fun n a => ?_)
  · show f_X7_waitingJobs_h4 (n + 1) a (nI k) v = f_X7_waitingJobs_h4 n (a + if aFt g k = 0 then 1 else 0) (nI (k + 1)) v
    have k40 : k < 40 := by omega
    rw [f_X7_waitingJobs_h4, hC.1, if_neg (nI_ge hk (by omega)), if_neg (l40 k40), waits_ok hI hC hk, Option.bind_some, nI_1]
    by_cases c : aFt g k = 0
    · rw [if_pos c, if_neg n10]
    · rw [if_neg c, if_pos rfl, Int32.add_zero]
  · show f_X7_waitingJobs_h4 (n + 1) a (nI (aJ g)) v = some a
    rw [f_X7_waitingJobs_h4, hC.1, if_pos (nI_le (Nat.le_refl _) (by omega))]
theorem prec_ij (hI : GI u g) (hC : CS g v) {i j : Nat} (hi : i < aJ g) (hj : j < aJ g) : f_X0_precedes (SVH v) (nI i) (nI j) = some (if prc (aPr g) i j = true then 1 else 0) := by
  obtain ⟨p, h1, h2⟩ := hC.pr hI
  have hJ := hI.1
  rw [prec_ok (by omega) (by omega) (fun k hk => ⟨(h1 k hk).1, by have := (h1 k hk).2; omega⟩)]
  unfold prc
  rw [h2 i hi, h2 j hj]
/-- job k before job i, had that the priority p -/
theorem comesBefore_ok (hI : GI u g) (hC : CS g v) {k i p : Nat} (hk : k < aJ g) (hi : i < aJ g) (hp : p < 100) (hki : k ≠ i) : f_X0_comesBefore (SVH v) (nI k) (nI i) (nI p) = some (if prc (uf (aPr g) i p) k i = true then 1 else 0) := by
  have hJ := hI.1
  have k40 : k < 40 := by omega
  have h5 := (hI.2.2.2.2.1 k hk).2.1
  unfold f_X0_comesBefore
  simp only [if_neg (o40 k40), c40 k40]
  rw [(hC.2.1 k hk).1]
  have hx := @prc_iff (uf (aPr g) i p) k i
  rw [uf_ne hki, uf_eq] at hx
  by_cases c : aPr g k < p
  · rw [if_pos (nI_lt c (by omega)), if_pos (hx.mpr (Or.inl c))]
  · rw [if_neg (fun h => c ((nI_ltI (by omega) (by omega)).mp h))]
    by_cases c2 : aPr g k = p
    · rw [if_pos (congrArg nI c2)]
      by_cases c3 : i ≤ k
      · rw [if_pos (nI_le c3 (by omega)), if_neg (fun h => by have := hx.mp h; omega)]
      · rw [if_neg (fun h => c3 ((nI_leI (by omega) (by omega)).mp h)), if_pos (hx.mpr (Or.inr ⟨c2, by omega⟩))]
    · rw [if_neg (fun h => c2 ((nI_eq (by omega) (by omega)).mp h)), if_neg (fun h => by have := hx.mp h; omega)]
theorem sameQ (hI : GI u g) (hC : CS g v) {k i : Nat} (hk : k < aJ g) (hi : i < aJ g) (hf : aFt g i = 0) : SVQu v k = SVQu v i ↔ wIn g (aQu g i) k := by
  rw [show SVQu v i = nI (aQu g i) by rw [(hC.2.1 i hi).2.2.2.2.1, if_pos hf]]
  exact quI hI hC hk (q6 hI hi hf)
theorem jobsAhead_ok (hI : GI u g) (hC : CS g v) {i p : Nat} (hi : i < aJ g) (hf : aFt g i = 0) (hp : p < 100) : f_X7_jobsAhead v (nI i) (nI p) = some (gPos (uf (aPr g) i p) g i) := by
  have hJ := hI.1
  have i40 : i < 40 := by omega
  unfold f_X7_jobsAhead
  rw [waits_ok hI hC hi, if_pos hf, Option.bind_some, if_neg n10]
  refine loop_sm (L := fun n a k => f_X7_jobsAhead_h15 n (nI i) (nI p) a k v) (E := some) (FUbig hI) (fun n a k hk => ?_) (fun n a => ?_)
  · show f_X7_jobsAhead_h15 (n + 1) (nI i) (nI p) a (nI k) v = f_X7_jobsAhead_h15 n (nI i) (nI p) (a + if wIn g (aQu g i) k ∧ prc (uf (aPr g) i p) k i = true then 1 else 0) (nI (k + 1)) v
    have k40 : k < 40 := by omega
    rw [f_X7_jobsAhead_h15, hC.1, if_neg (nI_ge hk (by omega)), if_neg (l40 k40)]
    simp only [if_neg (o40 k40), if_neg (o40 i40), c40 k40, c40 i40]
    rw [nI_1]
    by_cases e : k = i
    · subst e
      rw [if_pos rfl, if_neg (fun h => by rw [prc_irr] at h; exact Bool.false_ne_true h.2), Int32.add_zero]
    · rw [if_neg (fun h => e ((nI_eq (by omega) (by omega)).mp h))]
      by_cases c : wIn g (aQu g i) k
      · rw [if_pos ((sameQ hI hC hk hi hf).mpr c), comesBefore_ok hI hC hk hi hp e, Option.bind_some]
        by_cases c2 : prc (uf (aPr g) i p) k i = true
        · rw [if_pos c2, if_neg n10, if_pos ⟨c, c2⟩]
        · rw [if_neg c2, if_pos rfl, if_neg (fun h => c2 h.2), Int32.add_zero]
      · rw [if_neg (fun h => c ((sameQ hI hC hk hi hf).mp h)), if_neg (fun h => c h.1), Int32.add_zero]
  · show f_X7_jobsAhead_h15 (n + 1) (nI i) (nI p) a (nI (aJ g)) v = some a
    rw [f_X7_jobsAhead_h15, hC.1, if_pos (nI_le (Nat.le_refl _) (by omega))]
theorem pagesAhead_ok (hI : GI u g) (hC : CS g v) {i : Nat} (hi : i < aJ g) (hf : aFt g i = 0) : f_X7_pagesAhead v (nI i) = some (gBef g i) := by
  have hJ := hI.1
  have i40 : i < 40 := by omega
  unfold f_X7_pagesAhead
  rw [waits_ok hI hC hi, if_pos hf, Option.bind_some, if_neg n10]
  refine loop_sm (L := fun n a k => f_X7_pagesAhead_h14 n (nI i) a k v) (E := some) (FUbig hI) (fun n a k hk => ?_) (fun n a => ?_)
  · show f_X7_pagesAhead_h14 (n + 1) (nI i) a (nI k) v = f_X7_pagesAhead_h14 n (nI i) (a + if wIn g (aQu g i) k ∧ prc (aPr g) k i = true then aPg g k else 0) (nI (k + 1)) v
    have k40 : k < 40 := by omega
    rw [f_X7_pagesAhead_h14, hC.1, if_neg (nI_ge hk (by omega)), if_neg (l40 k40)]
    simp only [if_neg (o40 k40), if_neg (o40 i40), c40 k40, c40 i40]
    rw [nI_1]
    by_cases c : wIn g (aQu g i) k
    · rw [if_pos ((sameQ hI hC hk hi hf).mpr c), prec_ij hI hC hk hi, Option.bind_some]
      by_cases c2 : prc (aPr g) k i = true
      · rw [if_pos c2, if_neg n10]
        rw [if_pos ⟨c, c2⟩, (hC.2.1 k hk).2.2.1]
      · rw [if_neg c2, if_pos rfl, if_neg (fun h => c2 h.2), Int32.add_zero]
    · rw [if_neg (fun h => c ((sameQ hI hC hk hi hf).mp h)), if_neg (fun h => c h.1), Int32.add_zero]
  · show f_X7_pagesAhead_h14 (n + 1) (nI i) a (nI (aJ g)) v = some a
    rw [f_X7_pagesAhead_h14, hC.1, if_pos (nI_le (Nat.le_refl _) (by omega))]
end CLASS
/-! the reference -/
section REF
variable {u : GU} {g : GS} {v : MV}
theorem isIn_w (hI : GI u g) (hM : MS u g (MVSt v)) {k q : Nat} (hk : k < aJ g) (hq : q < 6) : f_X9_isIn v (nI k) (nI q) = some (w1 g q k) :=
  isIn_ok hI hk hq (hM.2.1 k hk).2.2.2.1 (hM.2.1 k hk).2.2.2.2.1 (fun hf => q6 hI hk hf)
theorem one_w {c : Prop} [Decidable c] : f_X9_one (if c then 1 else 0) = some (if c then 1 else 0) := by
  by_cases h : c
  · rw [if_pos h]; rfl
  · rw [if_neg h]; rfl
theorem sizeOf_ok (hI : GI u g) (hM : MS u g (MVSt v)) {q : Nat} (hq : q < 6) : f_X9_sizeOf v (nI q) = some (gSz g q) := by
  have hJ := hI.1
  refine loop_sm (L := fun n a k => f_X9_sizeOf_h4 n (nI q) a k v) (E := some) (FUbig hI) (fun n a k hk => ?_) (fun n a => ?_)
  · show f_X9_sizeOf_h4 (n + 1) (nI q) a (nI k) v = f_X9_sizeOf_h4 n (nI q) (a + w1 g q k) (nI (k + 1)) v
    rw [f_X9_sizeOf_h4]
    simp only [if_neg o2, cl2]
    rw [hM.1.2.2, if_neg (nI_ge hk (by omega)), isIn_w hI hM hk hq, Option.bind_some, show f_X9_one (w1 g q k) = some (w1 g q k) from one_w, Option.bind_some, nI_1]
  · show f_X9_sizeOf_h4 (n + 1) (nI q) a (nI (aJ g)) v = some a
    rw [f_X9_sizeOf_h4]
    simp only [if_neg o2, cl2]
    rw [hM.1.2.2, if_pos (nI_le (Nat.le_refl _) (by omega))]
theorem mpagesIn_ok (hI : GI u g) (hM : MS u g (MVSt v)) {q : Nat} (hq : q < 6) : f_X9_pagesIn v (nI q) = some (gPg g q) := by
  have hJ := hI.1
  refine loop_sm (L := fun n a k => f_X9_pagesIn_h4 n (nI q) a k v) (E := some) (FUbig hI) (fun n a k hk => ?_) (fun n a => ?_)
  · show f_X9_pagesIn_h4 (n + 1) (nI q) a (nI k) v = f_X9_pagesIn_h4 n (nI q) (a + wP g q k) (nI (k + 1)) v
    rw [f_X9_pagesIn_h4]
    simp only [if_neg o2, cl2]
    rw [hM.1.2.2, if_neg (nI_ge hk (by omega)), isIn_w hI hM hk hq, Option.bind_some, nI_1]
    unfold w1 wP
    by_cases c : wIn g q k
    · rw [if_pos c, if_neg n10, if_pos c, get_2 (by omega), Option.bind_some, (hM.2.1 k hk).2.2.1]
    · rw [if_neg c, if_pos rfl, if_neg c]
  · show f_X9_pagesIn_h4 (n + 1) (nI q) a (nI (aJ g)) v = some a
    rw [f_X9_pagesIn_h4]
    simp only [if_neg o2, cl2]
    rw [hM.1.2.2, if_pos (nI_le (Nat.le_refl _) (by omega))]
theorem mpagesOfOwner_ok (hI : GI u g) (hM : MS u g (MVSt v)) {o : Int32} {b : Nat} (hb : b < 3) : f_X9_pagesOfOwner v o (nI b) = some (gOw g o b) := by
  have hJ := hI.1
  refine loop_sm (L := fun n a k => f_X9_pagesOfOwner_h5 n o (nI b) a k v) (E := some) (FUbig hI) (fun n a k hk => ?_) (fun n a => ?_)
  · show f_X9_pagesOfOwner_h5 (n + 1) o (nI b) a (nI k) v = f_X9_pagesOfOwner_h5 n o (nI b) (a + if aOw g k = o ∧ aFt g k = b then aPg g k else 0) (nI (k + 1)) v
    have k40 : k < 40 := by omega
    obtain ⟨e1, e2, e3, e4, e5, e6⟩ := hM.2.1 k hk
    have h5 := hI.2.2.2.2.1 k hk
    rw [f_X9_pagesOfOwner_h5]
    simp only [if_neg o2, cl2]
    rw [hM.1.2.2, if_neg (nI_ge hk (by omega)), get_0 k40, Option.bind_some, nI_1, e1]
    by_cases c : aOw g k = o
    · rw [if_pos c, get_3 k40, Option.bind_some, e4]
      by_cases c2 : aFt g k = b
      · rw [if_pos (congrArg nI c2), if_pos ⟨c, c2⟩, get_2 k40, Option.bind_some, e3]
      · rw [if_neg (fun h => c2 ((nI_eq (by omega) (by omega)).mp h)), if_neg (fun h => c2 h.2)]
    · rw [if_neg c, if_neg (fun h => c h.1)]
  · show f_X9_pagesOfOwner_h5 (n + 1) o (nI b) a (nI (aJ g)) v = some a
    rw [f_X9_pagesOfOwner_h5]
    simp only [if_neg o2, cl2]
    rw [hM.1.2.2, if_pos (nI_le (Nat.le_refl _) (by omega))]
theorem mwaits_ok (hI : GI u g) (hM : MS u g (MVSt v)) {k : Nat} (hk : k < aJ g) : f_X9_waits v (nI k) = some (if aFt g k = 0 then 1 else 0) := by
  have hJ := hI.1
  have h5 := hI.2.2.2.2.1 k hk
  unfold f_X9_waits
  rw [get_3 (by omega), Option.bind_some, (hM.2.1 k hk).2.2.2.1]
  by_cases c : aFt g k = 0
  · rw [c, if_pos nI_0, if_pos rfl]
  · rw [if_neg (nI_ne0 (by omega) (by omega)), if_neg c]
theorem mwaitingCount_ok (hI : GI u g) (hM : MS u g (MVSt v)) : f_X9_waitingCount v = some (gWt g) := by
  have hJ := hI.1
  refine loop_sm (L := fun n a k => f_X9_waitingCount_h4 n a k v) (E := some) (FUbig hI) (fun n a k hk => ?_) (fun n a => ?_)
  · show f_X9_waitingCount_h4 (n + 1) a (nI k) v = f_X9_waitingCount_h4 n (a + if aFt g k = 0 then 1 else 0) (nI (k + 1)) v
    rw [f_X9_waitingCount_h4]
    simp only [if_neg o2, cl2]
    rw [hM.1.2.2, if_neg (nI_ge hk (by omega)), mwaits_ok hI hM hk, Option.bind_some, one_w, Option.bind_some, nI_1]
  · show f_X9_waitingCount_h4 (n + 1) a (nI (aJ g)) v = some a
    rw [f_X9_waitingCount_h4]
    simp only [if_neg o2, cl2]
    rw [hM.1.2.2, if_pos (nI_le (Nat.le_refl _) (by omega))]
theorem mprec_ij (hI : GI u g) (hM : MS u g (MVSt v)) {i j : Nat} (hi : i < aJ g) (hj : j < aJ g) : f_X9_precedes v (nI i) (nI j) = some (if prc (aPr g) i j = true then 1 else 0) := by
  obtain ⟨p, h1, h2⟩ := hM.pr hI
  have hJ := hI.1
  rw [mprec_ok (by omega) (by omega) h1]
  unfold prc
  rw [h2 i hi, h2 j hj]
/-- the place of job i, by the priorities that stand in the row (for one question its own is another) -/
theorem positionIn_ok {S : MV} {pr : Nat → Nat} (hI : GI u g) (h2 : MVSt S 2 = nI (aJ g)) (hp : mprOK (MVSt S) pr) (h3 : ∀ k, k < aJ g → jf (MVSt S) 3 k = nI (aFt g k) ∧ (aFt g k = 0 → jf (MVSt S) 4 k = nI (aQu g k))) {i : Nat} (hi : i < aJ g) (hf : aFt g i = 0) : f_X9_positionIn S (nI i) = some (gPos pr g i) := by
  have hJ := hI.1
  have i40 : i < 40 := by omega
  refine loop_sm (L := fun n a k => f_X9_positionIn_h4 n (nI i) a k S) (E := some) (FUbig hI) (fun n a k hk => ?_) (fun n a => ?_)
  · show f_X9_positionIn_h4 (n + 1) (nI i) a (nI k) S = f_X9_positionIn_h4 n (nI i) (a + if wIn g (aQu g i) k ∧ prc pr k i = true then 1 else 0) (nI (k + 1)) S
    have k40 : k < 40 := by omega
    rw [f_X9_positionIn_h4]
    simp only [if_neg o2, cl2]
    rw [h2, if_neg (nI_ge hk (by omega)), get_4 i40, Option.bind_some, (h3 i hi).2 hf, isIn_ok hI hk (q6 hI hi hf) (h3 k hk).1 (h3 k hk).2 (fun hf => q6 hI hk hf), Option.bind_some, nI_1, show f_X9_one 0 = some 0 from rfl, show f_X9_one 1 = some 1 from rfl, Option.bind_some, Option.bind_some, mprec_ok k40 i40 hp]
    by_cases c : aFt g k = 0 ∧ aQu g k = aQu g i
    · rw [if_pos c, if_neg n10, Option.bind_some]
      by_cases c2 : prc pr k i = true
      · rw [if_pos c2, if_neg n10, if_pos ⟨c, c2⟩]
      · rw [if_neg c2, if_pos rfl, if_neg (fun h => c2 h.2)]
    · rw [if_neg c, if_pos rfl, if_neg (fun h => c h.1)]
  · show f_X9_positionIn_h4 (n + 1) (nI i) a (nI (aJ g)) S = some a
    rw [f_X9_positionIn_h4]
    simp only [if_neg o2, cl2]
    rw [h2, if_pos (nI_le (Nat.le_refl _) (by omega))]
theorem gPos_pr (hI : GI u g) {pr pr' : Nat → Nat} (h : ∀ k, k < aJ g → pr k = pr' k) {i : Nat} (hi : i < aJ g) : gPos pr g i = gPos pr' g i :=
  sm_congr (fun k hk => by
    show (if wIn g (aQu g i) k ∧ prc pr k i = true then (1 : Int32) else 0) = if wIn g (aQu g i) k ∧ prc pr' k i = true then 1 else 0
    unfold prc
    rw [h k hk, h i hi])
theorem mpositionIn_ok (hI : GI u g) (hM : MS u g (MVSt v)) {i : Nat} (hi : i < aJ g) (hf : aFt g i = 0) : f_X9_positionIn v (nI i) = some (gPos (aPr g) g i) := by
  obtain ⟨p, h1, h2⟩ := hM.pr hI
  rw [positionIn_ok hI hM.1.2.2 h1 (fun k hk => ⟨(hM.2.1 k hk).2.2.2.1, (hM.2.1 k hk).2.2.2.2.1⟩) hi hf, gPos_pr hI h2 hi]
theorem mpagesAhead_ok (hI : GI u g) (hM : MS u g (MVSt v)) {i : Nat} (hi : i < aJ g) (hf : aFt g i = 0) : f_X9_pagesAhead v (nI i) = some (gBef g i) := by
  have hJ := hI.1
  have i40 : i < 40 := by omega
  refine loop_sm (L := fun n a k => f_X9_pagesAhead_h4 n (nI i) a k v) (E := some) (FUbig hI) (fun n a k hk => ?_) (fun n a => ?_)
  · show f_X9_pagesAhead_h4 (n + 1) (nI i) a (nI k) v = f_X9_pagesAhead_h4 n (nI i) (a + if wIn g (aQu g i) k ∧ prc (aPr g) k i = true then aPg g k else 0) (nI (k + 1)) v
    have k40 : k < 40 := by omega
    rw [f_X9_pagesAhead_h4]
    simp only [if_neg o2, cl2]
    rw [hM.1.2.2, if_neg (nI_ge hk (by omega)), get_4 i40, Option.bind_some, (hM.2.1 i hi).2.2.2.2.1 hf, isIn_w hI hM hk (q6 hI hi hf), Option.bind_some, nI_1, mprec_ij hI hM hk hi, Option.bind_some, get_2 k40, Option.bind_some, (hM.2.1 k hk).2.2.1]
    unfold w1
    by_cases c : wIn g (aQu g i) k
    · rw [if_pos c, if_neg n10]
      by_cases c2 : prc (aPr g) k i = true
      · rw [if_pos c2, if_neg n10, if_pos ⟨c, c2⟩]
      · rw [if_neg c2, if_pos rfl, if_neg (fun h => c2 h.2)]
    · rw [if_neg c, if_pos rfl, if_neg (fun h => c h.1)]
  · show f_X9_pagesAhead_h4 (n + 1) (nI i) a (nI (aJ g)) v = some a
    rw [f_X9_pagesAhead_h4]
    simp only [if_neg o2, cl2]
    rw [hM.1.2.2, if_pos (nI_le (Nat.le_refl _) (by omega))]
end REF
