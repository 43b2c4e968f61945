/-! ===== 50: words and names, packed and spelled ===== -/
def pkN : List Nat → Nat
  | [] => 0
  | c :: l => c + 256 * pkN l
def pkW (l : List Nat) : Int64 := Int64.ofNat (pkN l)
theorem pkN_app {l : List Nat} {c : Nat} : pkN (l ++ [c]) = pkN l + 256 ^ l.length * c := by
  induction l with
  | nil => simp [pkN]
  | cons a l ih =>
    show a + 256 * pkN (l ++ [c]) = a + 256 * pkN l + 256 ^ (l.length + 1) * c
    rw [ih, Nat.pow_succ, Nat.mul_add, Nat.add_assoc, Nat.mul_comm (256 ^ l.length) 256, Nat.mul_assoc]
theorem pkN_lt {l : List Nat} (h : ∀ c ∈ l, c < 256) : pkN l < 256 ^ l.length := by
  induction l with
  | nil => simp [pkN]
  | cons a l ih =>
    have h1 := ih (fun c hc => h c (List.mem_cons_of_mem _ hc))
    have h2 := h a List.mem_cons_self
    show a + 256 * pkN l < 256 ^ (l.length + 1)
    rw [Nat.pow_succ]
    omega
theorem pkN_inj : ∀ {l l' : List Nat}, (∀ c ∈ l, 0 < c ∧ c < 256) → (∀ c ∈ l', 0 < c ∧ c < 256) → pkN l = pkN l' → l = l'
  | [], [], _, _, _ => rfl
  | [], c :: l', _, h, e => by
    have := (h c List.mem_cons_self).1
    simp only [pkN] at e
    omega
  | c :: l, [], h, _, e => by
    have := (h c List.mem_cons_self).1
    simp only [pkN] at e
    omega
  | c :: l, c' :: l', h, h', e => by
    have h1 := h c List.mem_cons_self
    have h2 := h' c' List.mem_cons_self
    simp only [pkN] at e
    have e1 : c = c' := by omega
    have e2 : pkN l = pkN l' := by omega
    rw [e1, pkN_inj (fun x hx => h x (List.mem_cons_of_mem _ hx)) (fun x hx => h' x (List.mem_cons_of_mem _ hx)) e2]
/-- letters alone, at most n -/
def LTR (n : Nat) (l : List Nat) : Prop := l.length ≤ n ∧ ∀ c ∈ l, 97 ≤ c ∧ c ≤ 122
theorem LTR.le {n m : Nat} {l : List Nat} (h : LTR n l) (hn : n ≤ m) : LTR m l := ⟨Nat.le_trans h.1 hn, h.2⟩
theorem pkW_inj {l l' : List Nat} (h : LTR 8 l) (h' : LTR 8 l') (e : pkW l = pkW l') : l = l' := by
  have b : ∀ {x : List Nat}, LTR 8 x → pkN x < 18446744073709551616 := fun {x} hx => by
    have h1 := pkN_lt (l := x) (fun c hc => by have := hx.2 c hc; omega)
    have h2 : 256 ^ x.length ≤ 256 ^ 8 := Nat.pow_le_pow_right (by decide) hx.1
    have h3 : (256 : Nat) ^ 8 = 18446744073709551616 := by decide
    omega
  have e1 := congrArg (fun z : Int64 => z.toBitVec.toNat) e
  have e2 : ∀ {n : Nat}, n < 18446744073709551616 → (Int64.ofNat n).toBitVec.toNat = n := fun {n} hn => by
    show (BitVec.ofNat 64 n).toNat = n
    rw [BitVec.toNat_ofNat]
    exact Nat.mod_eq_of_lt hn
  simp only [pkW, e2 (b h), e2 (b h')] at e1
  exact pkN_inj (fun c hc => by have := h.2 c hc; omega) (fun c hc => by have := h'.2 c hc; omega) e1
theorem sh_k : ∀ k, k < 8 → (Int32.toInt64 (8 * nI k) &&& 63) = Int64.ofNat (8 * k) := by decide +kernel
theorem or_n {a c k : Nat} (hk : k < 8) (ha : a < 256 ^ k) (hc : c < 128) : (BitVec.ofNat 64 a ||| BitVec.ofNat 64 c <<< (8 * k)) = BitVec.ofNat 64 (a + 256 ^ k * c) := by
  have h256 : (256 : Nat) ^ k = 2 ^ (8 * k) := by rw [show (256 : Nat) = 2 ^ 8 from rfl, ← Nat.pow_mul]
  rw [h256] at ha ⊢
  have hp : 2 ^ (8 * k) ≤ 2 ^ 56 := Nat.pow_le_pow_right (by decide) (by omega)
  have h56 : (2 : Nat) ^ 56 = 72057594037927936 := by decide
  have hm : 2 ^ (8 * k) * c ≤ 2 ^ 56 * 127 := Nat.mul_le_mul hp (by omega)
  apply BitVec.eq_of_toNat_eq
  rw [BitVec.toNat_or, BitVec.toNat_shiftLeft, BitVec.toNat_ofNat, BitVec.toNat_ofNat, BitVec.toNat_ofNat, Nat.mod_eq_of_lt (show a < 2 ^ 64 by omega), Nat.mod_eq_of_lt (show c < 2 ^ 64 by omega), Nat.shiftLeft_eq, Nat.mul_comm c, Nat.mod_eq_of_lt (show 2 ^ (8 * k) * c < 2 ^ 64 by omega), Nat.mod_eq_of_lt (show a + 2 ^ (8 * k) * c < 2 ^ 64 by omega), Nat.or_comm, ← Nat.two_pow_add_eq_or_of_lt ha, Nat.add_comm]
theorem shl_k {x : Int64} : ∀ k, k < 8 → x <<< Int64.ofNat (8 * k) = Int64.ofBitVec (x.toBitVec <<< (8 * k))
  | 0, _ => rfl
  | 1, _ => rfl
  | 2, _ => rfl
  | 3, _ => rfl
  | 4, _ => rfl
  | 5, _ => rfl
  | 6, _ => rfl
  | 7, _ => rfl
  | n + 8, h => by omega
theorem or_k {a c k : Nat} (hk : k < 8) (ha : a < 256 ^ k) (hc : c < 128) : Int64.ofNat a ||| ((Int32.toInt64 (nI c)) <<< (Int32.toInt64 (8 * nI k) &&& 63)) = Int64.ofNat (a + 256 ^ k * c) := by
  rw [sh_k k hk, show Int32.toInt64 (nI c) = Int64.ofNat c from nI_l (by omega), shl_k k hk]
  exact congrArg Int64.ofBitVec (or_n hk ha hc)
theorem cmp_0 {x y : Int64} : (lg_cmp x y = 0) ↔ x = y := by
  unfold lg_cmp
  rcases lg_tri x y with h | h | h
  · rw [if_neg (lg_lt_not h), if_neg (lg_lt_ne h)]
    exact ⟨fun h => absurd h (by decide), fun e => absurd e (lg_lt_ne h)⟩
  · subst h
    rw [if_neg (fun h => lg_lt_not h h), if_pos rfl]
    exact ⟨fun _ => rfl, fun _ => rfl⟩
  · rw [if_pos h]
    exact ⟨fun h => absurd h (by decide), fun e => absurd e.symm (lg_lt_ne h)⟩
/-! the letters of a token -/
def ltr (T : List Nat) (s n : Nat) : List Nat := (T.drop s).take n
theorem ltr_at {T : List Nat} {s n k : Nat} (h : k < n) : (ltr T s n)[k]? = T[s + k]? := by
  unfold ltr
  rw [List.getElem?_take, if_pos h, List.getElem?_drop]
theorem ltr_len {T : List Nat} {s n : Nat} (h : s + n ≤ T.length) : (ltr T s n).length = n := by
  unfold ltr
  rw [List.length_take, List.length_drop]
  omega
theorem ltr_mem {T : List Nat} {s n c : Nat} (h : c ∈ ltr T s n) : ∃ k, k < n ∧ T[s + k]? = some c := by
  obtain ⟨k, hk⟩ := List.getElem?_of_mem h
  have h1 := (List.getElem?_eq_some_iff.mp hk).1
  have h2 : k < n := by
    unfold ltr at h1
    rw [List.length_take] at h1
    omega
  exact ⟨k, h2, by rw [← ltr_at h2]; exact hk⟩
theorem isL_b {c : Nat} (h : isL c = true) : 97 ≤ c ∧ c ≤ 122 := by
  unfold isL at h
  rw [Bool.and_eq_true] at h
  exact ⟨Nat.le_of_ble_eq_true h.1, Nat.le_of_ble_eq_true h.2⟩
theorem tE_1 {T : List Nat} {p : Nat} (h : tC T p = 1) : tE T p = ru isL T (tS T p) := by unfold tE; rw [h]; rfl
theorem word_ltr {T : List Nat} {p m : Nat} (hp : p ≤ T.length) (h : tC T p = 1) (hm : m ≤ tE T p - tS T p) : (ltr T (tS T p) m).length = m ∧ ∀ c ∈ ltr T (tS T p) m, 97 ≤ c ∧ c ≤ 122 := by
  have h1 := tE_le hp
  have h2 := tE_ge hp
  refine ⟨ltr_len (by omega), fun c hc => ?_⟩
  obtain ⟨k, k1, k2⟩ := ltr_mem hc
  rw [tE_1 h] at hm
  obtain ⟨c', e1, e2⟩ := ru_in (P := isL) (tS_le hp) (show tS T p ≤ tS T p + k by omega) (by omega)
  rw [k2] at e1
  cases e1
  exact isL_b e2
theorem pw_eq {T : List Nat} {p : Nat} (hp : p ≤ T.length) (h : tC T p = 1) : ∀ k, k ≤ 8 → k ≤ tE T p - tS T p → pw T (tS T p) k = pkW (ltr T (tS T p) k) := by
  intro k
  induction k with
  | zero => intro _ _; rfl
  | succ k ih =>
    intro h8 hk
    have hle := tE_le hp
    have hge := tE_ge hp
    obtain ⟨l1, l2⟩ := word_ltr hp h (m := k) (by omega)
    obtain ⟨m1, m2⟩ := word_ltr hp h (m := k + 1) hk
    have e1 := List.getElem?_eq_getElem (show tS T p + k < T.length by omega)
    have e2 : ltr T (tS T p) (k + 1) = ltr T (tS T p) k ++ [T[tS T p + k]'(by omega)] := by
      unfold ltr
      rw [List.take_add_one, List.getElem?_drop, e1]
      rfl
    have hc := m2 (T[tS T p + k]'(by omega)) (by rw [e2]; simp)
    rw [pw, ih (by omega) (by omega), e2, pkW, pkW, pkN_app, l1, show T.getD (tS T p + k) 0 = T[tS T p + k]'(by omega) by simp [List.getD, e1]]
    refine or_k (by omega) ?_ (by omega)
    have := pkN_lt (l := ltr T (tS T p) k) (fun c hc => by have := l2 c hc; omega)
    rwa [l1] at this
/-! the fixed words -/
def Wd (i : Nat) : List Nat := (bytS.getD i []).map Int32.toNatClampNeg
theorem packed_ok : ∀ i, i < 14 → 3 ≤ i → f_X4_packed i = some (pkW (Wd i)) := by decide +kernel
theorem Wd_24 : ∀ i, i < 14 → 3 ≤ i → Wd (i + 24) = Wd i ∧ lenS.getD (i + 24) 0 = (Wd i).length ∧ (Wd i).length ≤ 8 ∧ ((Wd i).all fun c => Nat.ble 97 c && Nat.ble c 122) = true := by decide +kernel
theorem schar_W : ∀ i, i < 14 → 3 ≤ i → ∀ k, k < (Wd i).length → schar (i + 24) k = nI ((Wd i).getD k 0) := by decide +kernel
theorem Wd_L {i : Nat} (h : i < 14) (h3 : 3 ≤ i) : LTR 8 (Wd i) := by
  obtain ⟨-, -, h1, h2⟩ := Wd_24 i h h3
  refine ⟨h1, fun c hc => ?_⟩
  have := List.all_eq_true.mp h2 c hc
  rw [Bool.and_eq_true] at this
  exact ⟨Nat.le_of_ble_eq_true this.1, Nat.le_of_ble_eq_true this.2⟩
/-! the first of some names -/
def FM (f : Nat → List Nat) (l : List Nat) (n : Nat) (r : Int32) : Prop := (r = -1 ∧ ∀ i, i < n → f i ≠ l) ∨ ∃ i, r = nI i ∧ i < n ∧ f i = l ∧ ∀ j, j < i → f j ≠ l
theorem FM_u {f : Nat → List Nat} {l : List Nat} {n : Nat} {r r' : Int32} (h : FM f l n r) (h' : FM f l n r') : r = r' := by
  rcases h with ⟨e, h⟩ | ⟨i, e, h1, h2, h3⟩
  · rcases h' with ⟨e', h'⟩ | ⟨i', e', h1', h2', h3'⟩
    · rw [e, e']
    · exact absurd h2' (h i' h1')
  · rcases h' with ⟨e', h'⟩ | ⟨i', e', h1', h2', h3'⟩
    · exact absurd h2 (h' i h1)
    · have : i = i' := by
        rcases Nat.lt_trichotomy i i' with c | c | c
        · exact absurd h2 (h3' i c)
        · exact c
        · exact absurd h2' (h3 i' c)
      rw [e, e', this]
theorem FM_loop {f : Nat → List Nat} {l : List Nat} {N : Nat} {L : Nat → Int32 → Option Int32} (hs : ∀ n k, k < N → L (n + 1) (nI k) = if f k = l then some (nI k) else L n (nI (k + 1))) (he : ∀ n, L (n + 1) (nI N) = some (-1)) : ∀ (m n k : Nat), N - k = m → m < n → k ≤ N → (∀ i, i < k → f i ≠ l) → ∃ r, L n (nI k) = some r ∧ FM f l N r := by
  intro m
  induction m with
  | zero =>
    intro n k hm hn hk hno
    obtain ⟨n, rfl⟩ : ∃ m, n = m + 1 := ⟨n - 1, by omega⟩
    have : k = N := by omega
    subst this
    exact ⟨-1, he n, Or.inl ⟨rfl, hno⟩⟩
  | succ m ih =>
    intro n k hm hn hk hno
    obtain ⟨n, rfl⟩ : ∃ m, n = m + 1 := ⟨n - 1, by omega⟩
    have hk2 : k < N := by omega
    rw [hs n k hk2]
    by_cases c : f k = l
    · rw [if_pos c]
      exact ⟨_, rfl, Or.inr ⟨k, rfl, hk2, c, hno⟩⟩
    · rw [if_neg c]
      refine ih n (k + 1) (by omega) (by omega) (by omega) (fun i hi => ?_)
      by_cases e : i = k
      · rw [e]; exact c
      · exact hno i (by omega)
/-- the class's names -/
def NMc (f : Nat → List Nat) (n : Nat) (N : NV) : Prop := NVCt N = nI n ∧ ∀ q, q < n → NVPk N q = pkW (f q)
theorem find_ok {f : Nat → List Nat} {n : Nat} {N : NV} {l : List Nat} (hN : NMc f n N) (hn : n ≤ 8) (hf : ∀ q, q < n → LTR 8 (f q)) (hl : LTR 8 l) : ∃ r, f_X2_find N (pkW l) = some r ∧ FM f l n r := by
  have hFU : FU = 5000 := rfl
  unfold f_X2_find
  refine FM_loop (L := fun m k => f_X2_find_h2 m (pkW l) k N) (fun m k hk => ?_) (fun m => ?_) (n - 0) FU 0 rfl (by omega) (Nat.zero_le _) (fun i hi => absurd hi (Nat.not_lt_zero _))
  · show f_X2_find_h2 (m + 1) (pkW l) (nI k) N = _
    rw [f_X2_find_h2, hN.1, if_neg (nI_ge hk (by omega)), if_neg (show ¬ (8 : Int32) ≤ nI k from nI_ge (b := 8) (by omega) (by decide)), if_neg (nI_in (N := 8) (by omega) (by decide)), nI_clamp (by omega), hN.2 k hk, nI_1]
    by_cases c : f k = l
    · rw [if_pos (cmp_0.mpr (by rw [c])), if_pos c]
    · rw [if_neg (fun h => c (pkW_inj (hf k hk) hl (cmp_0.mp h))), if_neg c]
  · show f_X2_find_h2 (m + 1) (pkW l) (nI n) N = _
    rw [f_X2_find_h2, hN.1, if_pos (nI_le (Nat.le_refl _) (by omega))]
/-- the reference's spelled name -/
def SPL (l : List Nat) (v : MV) : Prop := MVSl v = nI l.length ∧ ∀ j c, l[j]? = some c → MVSp v j = nI c
/-- a name stands at a place of the row -/
def NMa (st : Nat → Int32) (a : Nat) (l : List Nat) : Prop := st a = nI l.length ∧ ∀ j c, l[j]? = some c → st (a + 1 + j) = nI c
theorem spelledAt_no {v : MV} {n a : Nat} {l3 : Int32} : f_X9_isSpelledAt_h21 (n + 1) (nI a) 0 l3 v = some 0 := by
  rw [f_X9_isSpelledAt_h21]
  split
  · rw [if_neg (by decide)]
  · rw [if_pos rfl, if_neg (by decide)]
theorem spelledAt_ok {v : MV} {a : Nat} {f l : List Nat} (ha : a + 7 < 500) (hS : SPL l v) (hN : NMa (MVSt v) a f) (hf : f.length ≤ 6) (hl : l.length ≤ 6) (hb : (∀ c ∈ f, c < 1000) ∧ ∀ c ∈ l, c < 1000) : f_X9_isSpelledAt v (nI a) = some (if f = l then 1 else 0) := by
  have hFU : FU = 4999 + 1 := rfl
  unfold f_X9_isSpelledAt
  rw [if_neg (o500 (by omega)), c500 (by omega), hN.1, hS.1]
  by_cases c : f.length = l.length
  · rw [if_pos (congrArg nI c)]
    have main : ∀ (m n k : Nat), l.length - k = m → m + 1 < n → k ≤ l.length → (∀ j, j < k → f[j]? = l[j]?) → f_X9_isSpelledAt_h21 n (nI a) 1 (nI k) v = some (if f = l then 1 else 0) := by
      intro m
      induction m with
      | zero =>
        intro n k hm hn hk hp
        obtain ⟨n, rfl⟩ : ∃ m, n = m + 1 := ⟨n - 1, by omega⟩
        have e : f = l := List.ext_getElem? (fun j => by
          by_cases hj : j < k
          · exact hp j hj
          · rw [List.getElem?_eq_none (by omega), List.getElem?_eq_none (by omega)])
        rw [f_X9_isSpelledAt_h21, hS.1, if_pos (nI_le (by omega) (by omega)), if_neg (by decide), if_pos e]
      | succ m ih =>
        intro n k hm hn hk hp
        obtain ⟨n, rfl⟩ : ∃ m, n = m + 1 := ⟨n - 1, by omega⟩
        have hk2 : k < l.length := by omega
        have e1 := List.getElem?_eq_getElem hk2
        have e2 := List.getElem?_eq_getElem (show k < f.length by omega)
        rw [f_X9_isSpelledAt_h21, hS.1, if_neg (nI_ge hk2 (by omega)), if_neg n10, nI_1, nI_add, if_neg (o500 (by omega)), if_neg (nI_in (N := 6) (by omega) (by decide)), c500 (by omega), nI_clamp (by omega), hN.2 k _ e2, hS.2 k _ e1, nI_1]
        have b1 := hb.1 _ (List.mem_of_getElem? e2)
        have b2 := hb.2 _ (List.mem_of_getElem? e1)
        by_cases c2 : f[k]'(by omega) = l[k]
        · rw [if_pos (congrArg nI c2)]
          refine ih n (k + 1) (by omega) (by omega) (by omega) (fun j hj => ?_)
          by_cases ej : j = k
          · rw [ej, e1, e2, c2]
          · exact hp j (by omega)
        · rw [if_neg (fun h => c2 ((nI_eq (by omega) (by omega)).mp h))]
          obtain ⟨n, rfl⟩ : ∃ m, n = m + 1 := ⟨n - 1, by omega⟩
          rw [spelledAt_no, if_neg (fun e => c2 (by subst e; rfl))]
    exact main (l.length - 0) FU 0 rfl (by omega) (Nat.zero_le _) (fun j hj => absurd hj (Nat.not_lt_zero _))
  · rw [if_neg (fun h => c ((nI_eq (by omega) (by omega)).mp h)), if_neg (fun e => c (by rw [e])), hFU]
    exact spelledAt_no
theorem spelledQueue_ok {v : MV} {f : Nat → List Nat} {n : Nat} {l : List Nat} (h0 : MVSt v 0 = nI n) (hn : n ≤ 6) (hS : SPL l v) (hl : LTR 6 l) (hN : ∀ q, q < n → LTR 6 (f q) ∧ NMa (MVSt v) (10 + 11 * q) (f q)) : ∃ r, f_X9_spelledQueue v = some r ∧ FM f l n r := by
  have hFU : FU = 5000 := rfl
  unfold f_X9_spelledQueue
  refine FM_loop (L := fun m k => f_X9_spelledQueue_h2 m k v) (fun m k hk => ?_) (fun m => ?_) (n - 0) FU 0 rfl (by omega) (Nat.zero_le _) (fun i hi => absurd hi (Nat.not_lt_zero _))
  · show f_X9_spelledQueue_h2 (m + 1) (nI k) v = _
    obtain ⟨h1, h2⟩ := hN k hk
    rw [f_X9_spelledQueue_h2]
    simp only [if_neg o0, cl0]
    unfold f_X9_q
    rw [h0, if_neg (nI_ge hk (by omega)), Option.bind_some, qadr, spelledAt_ok (by omega) hS h2 h1.1 hl.1 ⟨fun c hc => by have := h1.2 c hc; omega, fun c hc => by have := hl.2 c hc; omega⟩, Option.bind_some, nI_1]
    by_cases c : f k = l
    · rw [if_pos c, if_neg n10, if_pos c]
    · rw [if_neg c, if_pos rfl, if_neg c]
  · show f_X9_spelledQueue_h2 (m + 1) (nI n) v = _
    rw [f_X9_spelledQueue_h2]
    simp only [if_neg o0, cl0]
    rw [h0, if_pos (nI_le (Nat.le_refl _) (by omega))]
theorem spelledOwner_ok {v : MV} {f : Nat → List Nat} {n : Nat} {l : List Nat} (h0 : MVSt v 1 = nI n) (hn : n ≤ 8) (hS : SPL l v) (hl : LTR 6 l) (hN : ∀ q, q < n → LTR 6 (f q) ∧ NMa (MVSt v) (80 + 7 * q) (f q)) : ∃ r, f_X9_spelledOwner v = some r ∧ FM f l n r := by
  have hFU : FU = 5000 := rfl
  unfold f_X9_spelledOwner
  refine FM_loop (L := fun m k => f_X9_spelledOwner_h2 m k v) (fun m k hk => ?_) (fun m => ?_) (n - 0) FU 0 rfl (by omega) (Nat.zero_le _) (fun i hi => absurd hi (Nat.not_lt_zero _))
  · show f_X9_spelledOwner_h2 (m + 1) (nI k) v = _
    obtain ⟨h1, h2⟩ := hN k hk
    rw [f_X9_spelledOwner_h2]
    simp only [if_neg (show ¬ oob 1 500 by decide), show Int32.toNatClampNeg 1 = 1 from by decide]
    unfold f_X9_o
    rw [h0, if_neg (nI_ge hk (by omega)), Option.bind_some, oadr, spelledAt_ok (by omega) hS h2 h1.1 hl.1 ⟨fun c hc => by have := h1.2 c hc; omega, fun c hc => by have := hl.2 c hc; omega⟩, Option.bind_some, nI_1]
    by_cases c : f k = l
    · rw [if_pos c, if_neg n10, if_pos c]
    · rw [if_neg c, if_pos rfl, if_neg c]
  · show f_X9_spelledOwner_h2 (m + 1) (nI n) v = _
    rw [f_X9_spelledOwner_h2]
    simp only [if_neg (show ¬ oob 1 500 by decide), show Int32.toNatClampNeg 1 = 1 from by decide]
    rw [h0, if_pos (nI_le (Nat.le_refl _) (by omega))]
/-! the letters of a name that is asked for -/
theorem ofNat_sr {x : Nat} : ∀ k, k < 6 → (Int64.toInt32 ((Int64.toUInt64 (Int64.ofNat x) >>> ((Int32.toInt64 (8 * nI k)).toUInt64 &&& Int64.toUInt64 63)).toInt64)) &&& 255 = Int32.ofBitVec (((BitVec.ofNat 64 x >>> (8 * k)).signExtend 32) &&& 255#32)
  | 0, _ => rfl
  | 1, _ => rfl
  | 2, _ => rfl
  | 3, _ => rfl
  | 4, _ => rfl
  | 5, _ => rfl
  | n + 6, h => by omega
theorem pkN_at : ∀ {l : List Nat} {k : Nat}, (∀ c ∈ l, c < 256) → pkN l / 256 ^ k % 256 = l.getD k 0
  | [], k, _ => by simp [pkN]
  | c :: l, 0, h => by
    have := h c List.mem_cons_self
    simp only [pkN, Nat.pow_zero, Nat.div_one]
    show (c + 256 * pkN l) % 256 = c
    omega
  | c :: l, k + 1, h => by
    have h1 := h c List.mem_cons_self
    have ih := pkN_at (l := l) (k := k) (fun x hx => h x (List.mem_cons_of_mem _ hx))
    show (c + 256 * pkN l) / 256 ^ (k + 1) % 256 = l.getD k 0
    rw [Nat.pow_succ, Nat.mul_comm (256 ^ k) 256, ← Nat.div_div_eq_div_mul, show (c + 256 * pkN l) / 256 = pkN l by omega]
    exact ih
theorem letter_n {l : List Nat} {k : Nat} (hl : LTR 6 l) (hk : k < 6) : (Int64.toInt32 ((Int64.toUInt64 (pkW l) >>> ((Int32.toInt64 (8 * nI k)).toUInt64 &&& Int64.toUInt64 63)).toInt64)) &&& 255 = nI (l.getD k 0) := by
  have hb : ∀ c ∈ l, c < 256 := fun c hc => by have := hl.2 c hc; omega
  have h1 := pkN_lt hb
  have h2 : 256 ^ l.length ≤ 256 ^ 6 := Nat.pow_le_pow_right (by decide) hl.1
  have h3 : (256 : Nat) ^ 6 = 281474976710656 := by decide
  unfold pkW
  rw [ofNat_sr k hk, ← pkN_at hb (k := k)]
  have h256 : (256 : Nat) ^ k = 2 ^ (8 * k) := by rw [show (256 : Nat) = 2 ^ 8 from rfl, ← Nat.pow_mul]
  have e : ((BitVec.ofNat 64 (pkN l) >>> (8 * k)).signExtend 32) &&& 255#32 = BitVec.ofNat 32 (pkN l / 256 ^ k % 256) := by
    apply BitVec.eq_of_toNat_eq
    rw [BitVec.toNat_and, BitVec.signExtend_eq_setWidth_of_le _ (by decide), BitVec.toNat_setWidth, BitVec.toNat_ushiftRight, BitVec.toNat_ofNat, BitVec.toNat_ofNat, Nat.mod_eq_of_lt (show pkN l < 2 ^ 64 by omega), show 255 % 2 ^ 32 = 2 ^ 8 - 1 from rfl, Nat.and_two_pow_sub_one_eq_mod, Nat.shiftRight_eq_div_pow, h256, BitVec.toNat_ofNat]
    omega
  rw [e]
  rfl
theorem letter_ok {f : Nat → List Nat} {n q : Nat} {N : NV} (hN : NMc f n N) (hn : n ≤ 8) (hq : q < n) (hf : LTR 6 (f q)) (b : Int32) : f_X2_letter N (nI q) b = some (if 0 ≤ b ∧ b ≤ nI (f q).length - 1 then nI ((f q).getD b.toNatClampNeg 0) else -1) := by
  unfold f_X2_letter
  rw [if_neg (nI_pos (by omega)), if_neg (show ¬ (8 : Int32) ≤ nI q from nI_ge (b := 8) (by omega) (by decide))]
  have h6 := hf.1
  rcases rng b (n := 6) (by decide) with ⟨k, hk, rfl, -⟩ | ⟨b1, b2⟩
  · rw [if_neg (nI_pos (by omega)), if_pos (show nI k < 6 from nI_lt (b := 6) hk (by decide)), if_neg (nI_in (N := 8) (by omega) (by decide)), nI_clamp (by omega), hN.2 q hq, letter_n hf hk, nI_clamp (n := k) (by omega)]
    rcases rng (nI k) (n := (f q).length) (by omega) with ⟨i, hi, e, hr⟩ | ⟨c1, c2⟩
    · have ek : k = i := (nI_eq (by omega) (by omega)).mp e
      subst ek
      rw [if_pos hr]
      have hm := hf.2 ((f q).getD k 0) (by rw [List.getD, List.getElem?_eq_getElem hi]; exact List.getElem_mem hi)
      rw [if_neg (nI_ne0 (by omega) (by omega))]
    · have hle : (f q).length ≤ k := by
        rcases c1 with c1 | c1
        · exact absurd c1 (nI_pos (by omega))
        · exact (nI_leI (by omega) (by omega)).mp c1
      rw [if_neg c2, show (f q).getD k 0 = 0 by simp [List.getD, List.getElem?_eq_none hle], if_pos nI_0]
  · have c2 : ¬ (0 ≤ b ∧ b ≤ nI (f q).length - 1) := fun h => by
      rcases rng b (n := (f q).length) (by omega) with ⟨i, hi, e, hr⟩ | ⟨c1, c2⟩
      · subst e
        rcases b1 with b1 | b1
        · exact nI_pos (by omega) b1
        · have := (nI_leI (a := 6) (b := i) (by decide) (by omega)).mp b1
          omega
      · exact c2 h
    rw [if_neg c2]
    by_cases c : b < 0
    · rw [if_pos c]
    · rw [if_neg c, if_neg (fun h => by
        rcases b1 with b1 | b1
        · exact c b1
        · exact (i32nlt.mpr b1) h)]
theorem letterAt_ok {v : MV} {a : Nat} {f : List Nat} (ha : a + 7 < 500) (hN : NMa (MVSt v) a f) (hf : LTR 6 f) (b : Int32) : f_X9_letterAt v (nI a) b = some (if 0 ≤ b ∧ b ≤ nI f.length - 1 then nI (f.getD b.toNatClampNeg 0) else -1) := by
  have h6 := hf.1
  unfold f_X9_letterAt
  rw [if_neg (o500 (by omega)), c500 (by omega), hN.1, show (0 : Int64) = (0 : Int32).toInt64 from rfl, within_ok, Option.bind_some]
  rcases rng b (n := f.length) (by omega) with ⟨i, hi, rfl, hr⟩ | ⟨c1, c2⟩
  · rw [if_pos hr, if_neg n10, nI_1, nI_add, if_neg (o500 (by omega)), c500 (by omega), nI_clamp (n := i) (by omega), hN.2 i _ (List.getElem?_eq_getElem hi), show f.getD i 0 = f[i] by simp [List.getD, List.getElem?_eq_getElem hi], if_pos hr]
  · rw [if_neg c2, if_pos rfl, if_neg c2]
