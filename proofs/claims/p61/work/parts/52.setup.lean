/-! ===== 52: a setup is built, on both sides ===== -/
/-- bounds of a setup that is being built -/
def UB (u : GU) : Prop := uQ u ≤ 6 ∧ uO u ≤ 8 ∧ (∀ q, q < uQ u → (1 ≤ uS u q ∧ uS u q ≤ 50) ∧ LTR 6 (uN u q)) ∧ ∀ k, k < uO u → LTR 6 (uM u k)
/-- the class's setup -/
def CU (u : GU) (D : UV) : Prop := NMc (uN u) (uQ u) (UVQs D) ∧ NMc (uM u) (uO u) (UVOs D) ∧ ∀ q, q < uQ u → UVSp D q = nI (uS u q)
/-- queues that aren't there yet -/
def ZU (u : GU) (st : Nat → Int32) : Prop := ∀ q, uQ u ≤ q → q < 6 → st (10 + 11 * q + 8) = 0 ∧ st (10 + 11 * q + 10) = 0
def BU (u : GU) (g : GS) (D : UV) (C : SV) (st : Nat → Int32) : Prop := UB u ∧ GI u g ∧ (∀ q, aPs g q = false ∧ aPd g q = 0) ∧ CU u D ∧ CS g C ∧ MS u g st ∧ US u st ∧ ZU u st
theorem BU.nq {u : GU} {g : GS} {D : UV} {C : SV} {st : Nat → Int32} (h : BU u g D C st) : NMq st (uN u) (uQ u) :=
  ⟨h.2.2.2.2.2.1.1.1, h.1.1, fun q hq => ⟨(h.1.2.2.1 q hq).2, (h.2.2.2.2.2.2.1.1 q hq).1, (h.2.2.2.2.2.2.1.1 q hq).2.2.1⟩⟩
theorem BU.no {u : GU} {g : GS} {D : UV} {C : SV} {st : Nat → Int32} (h : BU u g D C st) : NMo st (uM u) (uO u) :=
  ⟨h.2.2.2.2.2.1.1.2.1, h.1.2.1, fun k hk => ⟨h.1.2.2.2 k hk, (h.2.2.2.2.2.2.1.2 k hk).1, (h.2.2.2.2.2.2.1.2 k hk).2⟩⟩
theorem putName_ok {v : MV} {l : List Nat} {a : Nat} (ha : a + 7 ≤ 500) (hS : SPL l v) (hl : l.length ≤ 6) : ∃ st1, f_X9_putName v (nI a) = some ((), MV_sSt v st1) ∧ NMa st1 a l ∧ ∀ n, (n < a ∨ a + 7 ≤ n) → st1 n = MVSt v n := by
  have main : ∀ (m n k : Nat) (s : Nat → Int32), l.length - k = m → m < n → k ≤ l.length → s a = nI l.length → (∀ j c, j < k → l[j]? = some c → s (a + 1 + j) = nI c) → (∀ n, (n < a ∨ a + 7 ≤ n) → s n = MVSt v n) →
      ∃ st1, f_X9_putName_h12 n (nI a) (nI k) (MV_sSt v s) = some ((), MV_sSt v st1) ∧ NMa st1 a l ∧ ∀ n, (n < a ∨ a + 7 ≤ n) → st1 n = MVSt v n := by
    intro m
    induction m with
    | zero =>
      intro n k s hm hn hk h1 h2 h3
      obtain ⟨n, rfl⟩ : ∃ m, n = m + 1 := ⟨n - 1, by omega⟩
      have e : k = l.length := by omega
      subst e
      rw [f_X9_putName_h12, show MVSl (MV_sSt v s) = nI l.length from hS.1, if_pos (nI_le (Nat.le_refl _) (by omega))]
      exact ⟨s, rfl, ⟨h1, fun j c hj => h2 j c (List.getElem?_eq_some_iff.mp hj).1 hj⟩, h3⟩
    | succ m ih =>
      intro n k s hm hn hk h1 h2 h3
      obtain ⟨n, rfl⟩ : ∃ m, n = m + 1 := ⟨n - 1, by omega⟩
      have hk2 : k < l.length := by omega
      have e1 := List.getElem?_eq_getElem hk2
      rw [f_X9_putName_h12, show MVSl (MV_sSt v s) = nI l.length from hS.1, if_neg (nI_ge hk2 (by omega)), if_neg (nI_in (N := 6) (by omega) (by decide)), nI_1, nI_add, if_neg (o500 (by omega)), c500 (by omega), nI_clamp (n := k) (by omega), nI_1, show MVSp (MV_sSt v s) k = nI l[k] from hS.2 k _ e1]
      refine ih n (k + 1) (upd s (a + 1 + k) (nI l[k])) (by omega) (by omega) (by omega) (by rw [upd_ne (by omega)]; exact h1) (fun j c hj hc => ?_) (fun n hn => by rw [upd_ne (by omega)]; exact h3 n hn)
      by_cases e : j = k
      · subst e
        rw [e1] at hc
        cases hc
        rw [upd_eq]
      · rw [upd_ne (by omega)]
        exact h2 j c (by omega) hc
  unfold f_X9_putName
  rw [if_neg (o500 (by omega)), c500 (by omega), hS.1]
  exact main (l.length - 0) FU 0 (upd (MVSt v) a (nI l.length)) rfl (by have : FU = 5000 := rfl; omega) (Nat.zero_le _) upd_eq (fun j c hj => absurd hj (Nat.not_lt_zero _)) (fun n hn => upd_ne (by omega))
/-- cells apart from the jobs' -/
theorem jf_congr {st st' : Nat → Int32} (h : ∀ n, 140 ≤ n → st' n = st n) (k : Nat) : jf st' k = jf st k := by
  funext i
  unfold jf
  exact h _ (by omega)
theorem gM_congr {st st' : Nat → Int32} (h : ∀ n, 140 ≤ n → st' n = st n) (h3 : st' 3 = st 3) (h4 : st' 4 = st 4) : gM st' = gM st := by
  unfold gM
  rw [jf_congr h, jf_congr h, jf_congr h, jf_congr h, h3, h4]
def uAq (u : GU) (s : Nat) (l : List Nat) : GU := (uQ u + 1, uO u, uf (uS u) (uQ u) s, uf (uN u) (uQ u) l, uM u)
def uAo (u : GU) (l : List Nat) : GU := (uQ u, uO u + 1, uS u, uN u, uf (uM u) (uO u) l)
theorem leaf_of {u : GU} {g : GS} {q : Nat} (hI : GI u g) (hq : uQ u ≤ q) : hv (aF g q) = -1 := by
  cases e : aF g q with
  | leaf x => rfl
  | branch i l r =>
    obtain ⟨h1, h2, h3⟩ := (hI.2.2.2.1 q i).mp (by rw [e]; exact List.mem_cons_self)
    have := (hI.2.2.2.2.1 i h1).1 h2
    omega
theorem X2add_ok {f : Nat → List Nat} {n : Nat} {N : NV} {l : List Nat} (hN : NMc f n N) (hn : n < 8) : ∃ N', f_X2_add N (pkW l) = some ((), N') ∧ NMc (uf f n l) (n + 1) N' := by
  unfold f_X2_add
  rw [hN.1, if_neg (nI_pos (by omega)), if_neg (show ¬ (8 : Int32) ≤ nI n from nI_ge (b := 8) hn (by decide)), if_neg (nI_in hn (by decide)), nI_clamp (by omega), nI_1]
  refine ⟨_, rfl, rfl, fun q hq => ?_⟩
  show (if q = n then pkW l else NVPk N q) = pkW (uf f n l q)
  by_cases e : q = n
  · subst e; rw [if_pos rfl, uf_eq]
  · rw [if_neg e, uf_ne e]; exact hN.2 q (by omega)
theorem addQ_c {u : GU} {D : UV} {l : List Nat} {s : Nat} (hC : CU u D) (hq : uQ u < 6) : ∃ D', f_X6_addQueue D (pkW l) (nI s) = some ((), D') ∧ CU (uAq u s l) D' := by
  obtain ⟨N', e1, e2⟩ := X2add_ok (l := l) hC.1 (by omega)
  unfold f_X6_addQueue
  rw [hC.1.1, if_neg (nI_pos (by omega)), if_neg (show ¬ (6 : Int32) ≤ nI (uQ u) from nI_ge (b := 6) hq (by decide)), if_neg (o6 hq), e1, bnd2_some, c6 hq]
  refine ⟨_, rfl, e2, hC.2.1, fun q h => ?_⟩
  show upd (UVSp D) (uQ u) (nI s) q = nI (uf (uS u) (uQ u) s q)
  have h' : q < uQ u + 1 := h
  by_cases e : q = uQ u
  · subst e; rw [upd_eq, uf_eq]
  · rw [upd_ne e, uf_ne e]; exact hC.2.2 q (by omega)
theorem addO_c {u : GU} {D : UV} {l : List Nat} (hC : CU u D) (hq : uO u < 8) : ∃ N', f_X2_add (UVOs D) (pkW l) = some ((), N') ∧ CU (uAo u l) (UV_sOs D N') := by
  obtain ⟨N', e1, e2⟩ := X2add_ok (l := l) hC.2.1 hq
  exact ⟨N', e1, hC.1, e2, hC.2.2⟩
theorem UB.aq {u : GU} {s : Nat} {l : List Nat} (h : UB u) (hq : uQ u < 6) (hs : 1 ≤ s ∧ s ≤ 50) (hl : LTR 6 l) : UB (uAq u s l) := by
  refine ⟨show uQ u + 1 ≤ 6 by omega, h.2.1, fun q hq2 => ?_, h.2.2.2⟩
  have h' : q < uQ u + 1 := hq2
  show (1 ≤ uf (uS u) (uQ u) s q ∧ uf (uS u) (uQ u) s q ≤ 50) ∧ LTR 6 (uf (uN u) (uQ u) l q)
  by_cases e : q = uQ u
  · subst e; rw [uf_eq, uf_eq]; exact ⟨hs, hl⟩
  · rw [uf_ne e, uf_ne e]; exact h.2.2.1 q (by omega)
theorem UB.ao {u : GU} {l : List Nat} (h : UB u) (ho : uO u < 8) (hl : LTR 6 l) : UB (uAo u l) := by
  refine ⟨h.1, show uO u + 1 ≤ 8 by omega, h.2.2.1, fun k hk => ?_⟩
  have h' : k < uO u + 1 := hk
  show LTR 6 (uf (uM u) (uO u) l k)
  by_cases e : k = uO u
  · subst e; rw [uf_eq]; exact hl
  · rw [uf_ne e]; exact h.2.2.2 k (by omega)
/-- a queue more -/
theorem BU.addQ {u : GU} {g : GS} {D : UV} {C : SV} {v : MV} {l : List Nat} {s : Nat} (h : BU u g D C (MVSt v)) (hq : uQ u < 6) (hl : LTR 6 l) (hS : SPL l v) (hs : 1 ≤ s ∧ s ≤ 50) :
    ∃ D' st', f_X6_addQueue D (pkW l) (nI s) = some ((), D') ∧ f_X9_addQueue v (nI s) = some ((), MV_sSt v st') ∧ BU (uAq u s l) g D' C st' := by
  obtain ⟨hB, hI, hP, hU, hC, hM, hS', hZ⟩ := h
  obtain ⟨D', d1, d2⟩ := addQ_c (l := l) (s := s) hU hq
  obtain ⟨st1, p1, p2, p3⟩ := putName_ok (v := v) (a := 10 + 11 * uQ u) (by omega) hS hl.1
  obtain ⟨z1, z2⟩ := hZ (uQ u) (Nat.le_refl _) hq
  refine ⟨D', upd (upd (upd st1 (10 + 11 * uQ u + 7) (nI s)) (10 + 11 * uQ u + 9) (-1)) 0 (nI (uQ u + 1)), d1, ?_, ?_⟩
  · unfold f_X9_addQueue f_X9_q
    simp only [if_neg o0, cl0]
    rw [hM.1.1, Option.bind_some, qadr, p1, bnd2_some, show nI (10 + 11 * uQ u) + (7 : Int32) = nI (10 + 11 * uQ u + 7) from nI_add _ 7, show nI (10 + 11 * uQ u) + (9 : Int32) = nI (10 + 11 * uQ u + 9) from nI_add _ 9]
    simp only [if_neg (o500 (n := 10 + 11 * uQ u + 7) (by omega)), if_neg (o500 (n := 10 + 11 * uQ u + 9) (by omega)), c500 (n := 10 + 11 * uQ u + 7) (by omega), c500 (n := 10 + 11 * uQ u + 9) (by omega), mSt, sS]
    rw [show upd (upd st1 (10 + 11 * uQ u + 7) (nI s)) (10 + 11 * uQ u + 9) (-1) 0 = nI (uQ u) from by rw [upd_ne (by omega), upd_ne (by omega), p3 0 (by omega), hM.1.1], nI_1]
  · -- cells elsewhere
    have fr : ∀ n, n ≠ 0 → (n < 10 + 11 * uQ u ∨ 10 + 11 * uQ u + 11 ≤ n ∨ n = 10 + 11 * uQ u + 8 ∨ n = 10 + 11 * uQ u + 10) → upd (upd (upd st1 (10 + 11 * uQ u + 7) (nI s)) (10 + 11 * uQ u + 9) (-1)) 0 (nI (uQ u + 1)) n = MVSt v n := fun n h0 h1 => by
      rw [upd_ne h0, upd_ne (by omega), upd_ne (by omega), p3 n (by omega)]
    have a0 : upd (upd (upd st1 (10 + 11 * uQ u + 7) (nI s)) (10 + 11 * uQ u + 9) (-1)) 0 (nI (uQ u + 1)) 0 = nI (uQ u + 1) := upd_eq
    have a7 : upd (upd (upd st1 (10 + 11 * uQ u + 7) (nI s)) (10 + 11 * uQ u + 9) (-1)) 0 (nI (uQ u + 1)) (10 + 11 * uQ u + 7) = nI s := by rw [upd_ne (by omega), upd_ne (by omega), upd_eq]
    have a9 : upd (upd (upd st1 (10 + 11 * uQ u + 7) (nI s)) (10 + 11 * uQ u + 9) (-1)) 0 (nI (uQ u + 1)) (10 + 11 * uQ u + 9) = -1 := by rw [upd_ne (by omega), upd_eq]
    have an : NMa (upd (upd (upd st1 (10 + 11 * uQ u + 7) (nI s)) (10 + 11 * uQ u + 9) (-1)) 0 (nI (uQ u + 1))) (10 + 11 * uQ u) l := by
      refine ⟨by rw [upd_ne (by omega), upd_ne (by omega), upd_ne (by omega)]; exact p2.1, fun j c hj => ?_⟩
      have hj2 := (List.getElem?_eq_some_iff.mp hj).1
      have := hl.1
      rw [upd_ne (by omega), upd_ne (by omega), upd_ne (by omega)]
      exact p2.2 j c hj
    generalize upd (upd (upd st1 (10 + 11 * uQ u + 7) (nI s)) (10 + 11 * uQ u + 9) (-1)) 0 (nI (uQ u + 1)) = st' at fr a0 a7 a9 an ⊢
    have hgM : gM st' = gM (MVSt v) := gM_congr (fun n hn => fr n (by omega) (by omega)) (fr 3 (by omega) (by omega)) (fr 4 (by omega) (by omega))
    have hjf : ∀ k, jf st' k = jf (MVSt v) k := jf_congr (fun n hn => fr n (by omega) (by omega))
    refine ⟨hB.aq hq hs hl, ⟨hI.1, ⟨Nat.zero_le _, show uQ u + 1 ≤ 6 by omega⟩, hI.2.2.1, hI.2.2.2.1, fun i hi => ⟨fun hf => ?_, (hI.2.2.2.2.1 i hi).2⟩, fun q _ => (hP q).2⟩, hP, d2, hC, ⟨⟨a0, ?_, ?_⟩, fun i hi => ?_, fun i hi => ?_, fun q hq2 => ?_, ?_, ?_, ?_⟩, ⟨fun q hq2 => ?_, fun k hk => ?_⟩, fun q hq1 hq2 => ?_⟩
    · have := (hI.2.2.2.2.1 i hi).1 hf
      show aQu g i < uQ u + 1
      omega
    · rw [fr 1 (by omega) (by omega)]; exact hM.1.2.1
    · rw [fr 2 (by omega) (by omega)]; exact hM.1.2.2
    · rw [hjf, hjf, hjf, hjf, hjf, hgM]; exact hM.2.1 i hi
    · rw [hjf]; exact hM.2.2.1 i hi
    · have h' : q < uQ u + 1 := hq2
      by_cases e : q = uQ u
      · subst e
        rw [a9, fr (10 + 11 * uQ u + 10) (by omega) (by omega), fr (10 + 11 * uQ u + 8) (by omega) (by omega), z1, z2, leaf_of hI (Nat.le_refl _), (hP _).1, (hP _).2]
        exact ⟨rfl, rfl, rfl⟩
      · rw [fr (10 + 11 * q + 9) (by omega) (by omega), fr (10 + 11 * q + 10) (by omega) (by omega), fr (10 + 11 * q + 8) (by omega) (by omega)]
        exact hM.2.2.2.1 q (by omega)
    · rw [hgM]; exact hM.2.2.2.2.1
    · rw [fr 3 (by omega) (by omega)]; exact hM.2.2.2.2.2.1
    · rw [fr 4 (by omega) (by omega)]; exact hM.2.2.2.2.2.2
    · have h' : q < uQ u + 1 := hq2
      show st' (10 + 11 * q) = nI (uf (uN u) (uQ u) l q).length ∧ (∀ l, l < 6 → st' (10 + 11 * q + 1 + l) = st' (10 + 11 * q + 1 + l)) ∧ (∀ l2 c, (uf (uN u) (uQ u) l q)[l2]? = some c → st' (10 + 11 * q + 1 + l2) = nI c) ∧ st' (10 + 11 * q + 7) = nI (uf (uS u) (uQ u) s q)
      by_cases e : q = uQ u
      · subst e
        rw [uf_eq, uf_eq]
        exact ⟨an.1, fun _ _ => rfl, an.2, a7⟩
      · obtain ⟨u1, u2, u3, u4⟩ := hS'.1 q (by omega)
        rw [uf_ne e, uf_ne e, fr (10 + 11 * q) (by omega) (by omega), fr (10 + 11 * q + 7) (by omega) (by omega)]
        refine ⟨u1, fun _ _ => rfl, fun j c hj => ?_, u4⟩
        have hj2 := (List.getElem?_eq_some_iff.mp hj).1
        have := (hB.2.2.1 q (by omega)).2.1
        rw [fr _ (by omega) (by omega)]
        exact u3 j c hj
    · have hk' : k < uO u := hk
      have := hB.2.1
      obtain ⟨u1, u2⟩ := hS'.2 k hk'
      show st' (80 + 7 * k) = nI (uM u k).length ∧ ∀ l c, (uM u k)[l]? = some c → st' (80 + 7 * k + 1 + l) = nI c
      rw [fr (80 + 7 * k) (by omega) (by omega)]
      refine ⟨u1, fun j c hj => ?_⟩
      have hj2 := (List.getElem?_eq_some_iff.mp hj).1
      have := (hB.2.2.2 k hk').1
      rw [fr _ (by omega) (by omega)]
      exact u2 j c hj
    · have h' : uQ u + 1 ≤ q := hq1
      rw [fr (10 + 11 * q + 8) (by omega) (by omega), fr (10 + 11 * q + 10) (by omega) (by omega)]
      exact hZ q (by omega) hq2
/-- an owner more -/
theorem BU.addO {u : GU} {g : GS} {D : UV} {C : SV} {v : MV} {l : List Nat} (h : BU u g D C (MVSt v)) (ho : uO u < 8) (hl : LTR 6 l) (hS : SPL l v) :
    ∃ N' st', f_X2_add (UVOs D) (pkW l) = some ((), N') ∧ f_X9_addOwner v = some ((), MV_sSt v st') ∧ BU (uAo u l) g (UV_sOs D N') C st' := by
  obtain ⟨hB, hI, hP, hU, hC, hM, hS', hZ⟩ := h
  obtain ⟨N', d1, d2⟩ := addO_c (l := l) hU ho
  obtain ⟨st1, p1, p2, p3⟩ := putName_ok (v := v) (a := 80 + 7 * uO u) (by omega) hS hl.1
  have hQ6 := hB.1
  refine ⟨N', upd st1 1 (nI (uO u + 1)), d1, ?_, ?_⟩
  · unfold f_X9_addOwner f_X9_o
    simp only [if_neg (show ¬ oob 1 500 by decide), show Int32.toNatClampNeg 1 = 1 from by decide]
    rw [hM.1.2.1, Option.bind_some, oadr, p1, bnd2_some]
    simp only [mSt, sS]
    rw [p3 1 (by omega), hM.1.2.1, nI_1]
  · have fr : ∀ n, n ≠ 1 → (n < 80 + 7 * uO u ∨ 80 + 7 * uO u + 7 ≤ n) → upd st1 1 (nI (uO u + 1)) n = MVSt v n := fun n h0 h1 => by rw [upd_ne h0, p3 n h1]
    have a1 : upd st1 1 (nI (uO u + 1)) 1 = nI (uO u + 1) := upd_eq
    have an : NMa (upd st1 1 (nI (uO u + 1))) (80 + 7 * uO u) l := ⟨by rw [upd_ne (by omega)]; exact p2.1, fun j c hj => by rw [upd_ne (by omega)]; exact p2.2 j c hj⟩
    generalize upd st1 1 (nI (uO u + 1)) = st' at fr a1 an ⊢
    have hgM : gM st' = gM (MVSt v) := gM_congr (fun n hn => fr n (by omega) (by omega)) (fr 3 (by omega) (by omega)) (fr 4 (by omega) (by omega))
    have hjf : ∀ k, jf st' k = jf (MVSt v) k := jf_congr (fun n hn => fr n (by omega) (by omega))
    refine ⟨hB.ao ho hl, hI, hP, d2, hC, ⟨⟨?_, a1, ?_⟩, fun i hi => ?_, fun i hi => ?_, fun q hq2 => ?_, ?_, ?_, ?_⟩, ⟨fun q hq2 => ?_, fun k hk => ?_⟩, fun q hq1 hq2 => ?_⟩
    · rw [fr 0 (by omega) (by omega)]; exact hM.1.1
    · rw [fr 2 (by omega) (by omega)]; exact hM.1.2.2
    · rw [hjf, hjf, hjf, hjf, hjf, hgM]; exact hM.2.1 i hi
    · rw [hjf]; exact hM.2.2.1 i hi
    · have h' : q < uQ u := hq2
      rw [fr (10 + 11 * q + 9) (by omega) (by omega), fr (10 + 11 * q + 10) (by omega) (by omega), fr (10 + 11 * q + 8) (by omega) (by omega)]
      exact hM.2.2.2.1 q h'
    · rw [hgM]; exact hM.2.2.2.2.1
    · rw [fr 3 (by omega) (by omega)]; exact hM.2.2.2.2.2.1
    · rw [fr 4 (by omega) (by omega)]; exact hM.2.2.2.2.2.2
    · have h' : q < uQ u := hq2
      obtain ⟨u1, u2, u3, u4⟩ := hS'.1 q h'
      show st' (10 + 11 * q) = nI (uN u q).length ∧ (∀ l, l < 6 → st' (10 + 11 * q + 1 + l) = st' (10 + 11 * q + 1 + l)) ∧ (∀ l2 c, (uN u q)[l2]? = some c → st' (10 + 11 * q + 1 + l2) = nI c) ∧ st' (10 + 11 * q + 7) = nI (uS u q)
      rw [fr (10 + 11 * q) (by omega) (by omega), fr (10 + 11 * q + 7) (by omega) (by omega)]
      refine ⟨u1, fun _ _ => rfl, fun j c hj => ?_, u4⟩
      have hj2 := (List.getElem?_eq_some_iff.mp hj).1
      have := (hB.2.2.1 q h').2.1
      rw [fr _ (by omega) (by omega)]
      exact u3 j c hj
    · have h' : k < uO u + 1 := hk
      show st' (80 + 7 * k) = nI (uf (uM u) (uO u) l k).length ∧ ∀ l2 c, (uf (uM u) (uO u) l k)[l2]? = some c → st' (80 + 7 * k + 1 + l2) = nI c
      by_cases e : k = uO u
      · subst e
        rw [uf_eq]
        exact an
      · obtain ⟨u1, u2⟩ := hS'.2 k (by omega)
        rw [uf_ne e, fr (80 + 7 * k) (by omega) (by omega)]
        refine ⟨u1, fun j c hj => ?_⟩
        have hj2 := (List.getElem?_eq_some_iff.mp hj).1
        have := (hB.2.2.2 k (by omega)).1
        rw [fr _ (by omega) (by omega)]
        exact u2 j c hj
    · have h' : uQ u ≤ q := hq1
      rw [fr (10 + 11 * q + 8) (by omega) (by omega), fr (10 + 11 * q + 10) (by omega) (by omega)]
      exact hZ q h' hq2
theorem US_congr0 {u : GU} {st st' : Nat → Int32} (hB : UB u) (h : frS st st') (hS : US u st) : US u st' := by
  refine ⟨fun q hq => ?_, fun k hk => ?_⟩
  · obtain ⟨h1, h2, h3, h4⟩ := hS.1 q hq
    have hQ := hB.1
    have hn := (hB.2.2.1 q hq).2.1
    refine ⟨?_, fun l _ => rfl, fun l c hc => ?_, ?_⟩
    · rw [h (10 + 11 * q) (fix_q (q := q) (r := 0) (by omega) (by omega))]; exact h1
    · have hl : l < (uN u q).length := (List.getElem?_eq_some_iff.mp hc).1
      rw [show 10 + 11 * q + 1 + l = 10 + 11 * q + (1 + l) by omega, h _ (fix_q (by omega) (by omega)), show 10 + 11 * q + (1 + l) = 10 + 11 * q + 1 + l by omega]
      exact h3 l c hc
    · rw [h _ (fix_q (by omega) (by omega))]; exact h4
  · obtain ⟨h1, h2⟩ := hS.2 k hk
    have hO := hB.2.1
    have hn := (hB.2.2.2 k hk).1
    refine ⟨?_, fun l c hc => ?_⟩
    · rw [h (80 + 7 * k) (fix_o (k := k) (r := 0) (by omega) (by omega))]; exact h1
    · have hl : l < (uM u k).length := (List.getElem?_eq_some_iff.mp hc).1
      rw [show 80 + 7 * k + 1 + l = 80 + 7 * k + (1 + l) by omega, h _ (fix_o (by omega) (by omega)), show 80 + 7 * k + (1 + l) = 80 + 7 * k + 1 + l by omega]
      exact h2 l c hc
/-- a job more -/
theorem BU.addJ {u : GU} {g : GS} {D : UV} {C : SV} {v : MV} {q p n : Nat} {o : Int32} (h : BU u g D C (MVSt v)) (hJ : aJ g < 40) (hq : q < uQ u) (hp : p < 100) (hn : 1 ≤ n ∧ n ≤ 99) :
    ∃ C' st', f_X7_addJob C (nI q) o (nI p) (nI n) = some (nI (aJ g), C') ∧ f_X9_addJob v (nI q) o (nI p) (nI n) = some (nI (aJ g), MV_sSt v st') ∧ BU u (addG g q o p (nI n)) D C' st' := by
  obtain ⟨hB, hI, hP, hU, hC, hM, hS', hZ⟩ := h
  have hQ := hB.1
  obtain ⟨C', c1, c2⟩ := addJob_ok (q := q) (p := p) (o := o) (n := nI n) hI hC hJ (by omega) hp
  obtain ⟨st', m1, m2, m3, m4⟩ := maddJob_ok2 (v := v) (q := q) (p := p) (o := o) (n := nI n) hI hM hJ hq hp
  refine ⟨C', st', c1, m1, hB, hI.add hJ hq hp hn, hP, hU, c2, m2, US_congr0 hB m3 hS', fun k hk1 hk2 => ?_⟩
  rw [m4 (10 + 11 * k + 8) (by omega) (by omega) (by omega) (by omega) (by omega), m4 (10 + 11 * k + 10) (by omega) (by omega) (by omega) (by omega) (by omega)]
  exact hZ k hk1 hk2
/-! nothing yet -/
def u00 : GU := (0, 0, fun _ => 0, fun _ => [], fun _ => [])
def g00 : GS := (0, fun _ => .leaf (), fun _ => 0, fun _ => 0, fun _ => 0, fun _ => 0, fun _ => 0, fun _ => 0, fun _ => false, 0, 0)
theorem GI00 {u : GU} (h : uQ u ≤ 6) : GI u g00 := by
  refine ⟨Nat.zero_le _, ⟨Nat.zero_le _, h⟩, fun q => ⟨List.nodup_nil, True.intro, True.intro⟩, fun q i => ⟨fun h => absurd h List.not_mem_nil, fun h => absurd h.1 (Nat.not_lt_zero _)⟩, fun i hi => absurd hi (Nat.not_lt_zero _), fun _ _ => rfl⟩
theorem x7clear_ok {C : SV} (hC : SCR C) : ∃ C', f_X7_clear C = some ((), C') ∧ CS g00 C' := by
  have hFU : FU = 5000 := rfl
  have main : ∀ (m n k : Nat) (w : SV), 6 - k = m → m < n → k ≤ 6 → SVJc w = 0 → SCR w → HVCm (SVH w) = 0 → HVSw (SVH w) = 0 → (∀ q, q < k → SVRo w q = -1 ∧ SVPd w q = 0 ∧ SVPs w q = 0) → ∃ C', f_X7_clear_h14 n (nI k) w = some ((), C') ∧ CS g00 C' := by
    intro m
    induction m with
    | zero =>
      intro n k w hm hn hk h1 h2 h3 h4 h5
      obtain ⟨n, rfl⟩ : ∃ m, n = m + 1 := ⟨n - 1, by omega⟩
      have e : k = 6 := by omega
      subst e
      rw [f_X7_clear_h14, if_pos (show (6 : Int32) ≤ nI 6 by decide)]
      exact ⟨w, rfl, h1, fun i hi => absurd hi (Nat.not_lt_zero _), h2, fun q hq => h5 q hq, fun q => ⟨True.intro, True.intro⟩, h3, h4⟩
    | succ m ih =>
      intro n k w hm hn hk h1 h2 h3 h4 h5
      obtain ⟨n, rfl⟩ : ∃ m, n = m + 1 := ⟨n - 1, by omega⟩
      have hk2 : k < 6 := by omega
      rw [f_X7_clear_h14, if_neg (show ¬ (6 : Int32) ≤ nI k from nI_ge (b := 6) hk2 (by decide))]
      simp only [if_neg (o6 hk2), c6 hk2]
      rw [nI_1]
      refine ih n (k + 1) _ (by omega) (by omega) (by omega) h1 h2 h3 h4 (fun q hq => ?_)
      show upd (SVRo w) k (-1) q = -1 ∧ upd (SVPd w) k 0 q = 0 ∧ upd (SVPs w) k (vp_nar .boolean 0) q = 0
      by_cases e : q = k
      · subst e
        rw [upd_eq, upd_eq, upd_eq]
        exact ⟨rfl, rfl, by decide⟩
      · rw [upd_ne e, upd_ne e, upd_ne e]
        exact h5 q (by omega)
  unfold f_X7_clear f_X0_clearCounters
  rw [bnd2_some]
  exact main (6 - 0) FU 0 _ rfl (by omega) (Nat.zero_le _) rfl hC rfl rfl (fun q hq => absurd hq (Nat.not_lt_zero _))
theorem x9clear_ok {v : MV} : ∃ st, f_X9_clear v = some ((), MV_sSt v st) ∧ ∀ n, n < 500 → st n = 0 := by
  have hFU : FU = 5000 := rfl
  have main : ∀ (m n k : Nat) (s : Nat → Int32), 500 - k = m → m < n → k ≤ 500 → (∀ j, j < k → s j = 0) → ∃ st, f_X9_clear_h2 n (nI k) (MV_sSt v s) = some ((), MV_sSt v st) ∧ ∀ n, n < 500 → st n = 0 := by
    intro m
    induction m with
    | zero =>
      intro n k s hm hn hk h1
      obtain ⟨n, rfl⟩ : ∃ m, n = m + 1 := ⟨n - 1, by omega⟩
      have e : k = 500 := by omega
      subst e
      rw [f_X9_clear_h2, if_pos e500]
      exact ⟨s, rfl, h1⟩
    | succ m ih =>
      intro n k s hm hn hk h1
      obtain ⟨n, rfl⟩ : ∃ m, n = m + 1 := ⟨n - 1, by omega⟩
      have hk2 : k < 500 := by omega
      rw [f_X9_clear_h2, if_neg (l500 hk2), if_neg (o500 hk2), c500 hk2, nI_1]
      simp only [mSt, sS]
      refine ih n (k + 1) _ (by omega) (by omega) (by omega) (fun j hj => ?_)
      by_cases e : j = k
      · subst e; rw [upd_eq]
      · rw [upd_ne e]; exact h1 j (by omega)
  exact main (500 - 0) FU 0 (MVSt v) rfl (by omega) (Nat.zero_le _) (fun j hj => absurd hj (Nat.not_lt_zero _))
theorem MS00 {st : Nat → Int32} (h : ∀ n, n < 500 → st n = 0) : MS u00 g00 st := by
  refine ⟨⟨h 0 (by decide), h 1 (by decide), h 2 (by decide)⟩, fun i hi => absurd hi (Nat.not_lt_zero _), fun i hi => ⟨0, h _ (by omega), by decide⟩, fun q hq => absurd hq (Nat.not_lt_zero _), fun q => ⟨True.intro, True.intro⟩, h 3 (by decide), h 4 (by decide)⟩
theorem BU00 {D : UV} {C : SV} {st : Nat → Int32} (hC : CS g00 C) (h : ∀ n, n < 500 → st n = 0) (h1 : NVCt (UVQs D) = 0) (h2 : NVCt (UVOs D) = 0) : BU u00 g00 D C st :=
  ⟨⟨by decide, by decide, fun q hq => absurd hq (Nat.not_lt_zero _), fun q hq => absurd hq (Nat.not_lt_zero _)⟩, GI00 (by decide), fun _ => ⟨rfl, rfl⟩, ⟨⟨h1, fun q hq => absurd hq (Nat.not_lt_zero _)⟩, ⟨h2, fun q hq => absurd hq (Nat.not_lt_zero _)⟩, fun q hq => absurd hq (Nat.not_lt_zero _)⟩, hC, MS00 h, ⟨fun q hq => absurd hq (Nat.not_lt_zero _), fun q hq => absurd hq (Nat.not_lt_zero _)⟩, fun q _ hq => ⟨h _ (by omega), h _ (by omega)⟩⟩
