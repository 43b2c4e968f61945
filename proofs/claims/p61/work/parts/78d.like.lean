/-! ===== 78d: the class's answers are the lines' ===== -/
theorem sm_n {f : Nat → Int32} {b : Nat} : ∀ {J : Nat}, (∀ k, k < J → ∃ p, f k = nI p ∧ p ≤ b) → ∃ m, sm f J = nI m ∧ m ≤ b * J
  | 0, _ => ⟨0, rfl, Nat.zero_le _⟩
  | J + 1, h => by
    obtain ⟨m, e, hm⟩ := sm_n (J := J) (fun k hk => h k (by omega))
    obtain ⟨p, e2, hp⟩ := h J (by omega)
    refine ⟨m + p, ?_, ?_⟩
    · rw [sm, e, e2, nI_add]
    · rw [Nat.mul_succ]
      omega
theorem bef_n {u : GU} {g : GS} (hI : GI u g) {i : Nat} (hi : i < aJ g) : ∃ m, gBef g i + aPg g i = nI m ∧ m ≤ 5000 := by
  obtain ⟨m, e, hm⟩ := sm_n (b := 99) (J := aJ g) (f := fun k => if wIn g (aQu g i) k ∧ prc (aPr g) k i = true then aPg g k else 0) (fun k hk => by
    obtain ⟨p, e, h1, h2⟩ := (hI.2.2.2.2.1 k hk).2.2.2
    by_cases c : wIn g (aQu g i) k ∧ prc (aPr g) k i = true
    · exact ⟨p, (if_pos c).trans e, h2⟩
    · exact ⟨0, if_neg c, by omega⟩)
  obtain ⟨p, e2, -, hp⟩ := (hI.2.2.2.2.1 i hi).2.2.2
  have hJ := hI.1
  exact ⟨m + p, by rw [show gBef g i = nI m from e, e2, nI_add], by omega⟩
theorem ceil_div {m s : Nat} (h : 1 ≤ s) : (m + s - 1) / s = if m % s = 0 then m / s else m / s + 1 := by
  have e := Nat.div_add_mod m s
  have l := Nat.mod_lt m (show s > 0 by omega)
  by_cases c : m % s = 0
  · rw [if_pos c]
    refine Nat.div_eq_of_lt_le ?_ ?_
    · rw [Nat.mul_comm]
      omega
    · rw [Nat.succ_mul, Nat.mul_comm]
      omega
  · rw [if_neg c]
    refine Nat.div_eq_of_lt_le ?_ ?_
    · rw [Nat.succ_mul, Nat.mul_comm]
      omega
    · rw [Nat.succ_mul, Nat.succ_mul, Nat.mul_comm]
      omega
theorem min_eq {m s : Nat} (hm : m ≤ 5000) (h1 : 1 ≤ s) (h2 : s ≤ 16) : mnI s (nI m) = nI ((m + s - 1) / s) := by
  unfold mnI
  rw [nI_add, show nI (m + s) - 1 = nI (m + s - 1) from pk_sub (b := 1) (by omega), pk_div (by omega) (by omega) (by omega)]
theorem lo4 {i : Nat} (h : i < 4) : ¬ oob (nI i) 4 := nI_in h (by decide)
theorem lc4 {i : Nat} (h : i < 4) : Int32.toNatClampNeg (nI i) = i := nI_clamp (by omega)
theorem ft_le {u : GU} {g : GS} (hI : GI u g) {i : Nat} (hi : i < aJ g) : nI (aFt g i) ≤ 0 ↔ aFt g i = 0 := by
  have h := nI_leI (a := aFt g i) (b := 0) (by have := (hI.2.2.2.2.1 i hi).2.2.1; omega) (by decide)
  exact h.trans Nat.le_zero
section LL
variable {u : GU} {g : GS} {v : P_QV_Lscu}
theorem j243_ok (hI : GI u g) (hC : CS g (LscuS (P_QV_LscuB v))) (hQ : LQ u g (P_QV_LscuA v)) (hU : UI u) (hu : NVCt (UVQs (LscuU (P_QV_LscuB v))) = nI (uQ u)) (hp : ∀ q, q < uQ u → UVSp (LscuU (P_QV_LscuB v)) q = nI (uS u q)) {kO : Int32 → P_QV_Lscu → Option (Int32 × P_QV_Lscu)} {s : Int32} {j : Nat} (hj : j < aJ g) : f_L_isLike_j243 kO (nI j) s s v = kO (nI (j + 1)) v := by
  have j40 : j < 40 := by have := hI.1; omega
  obtain ⟨a1, a2, a3, a4, a5⟩ := hQ.2.2.2.1 j hj
  rw [f_L_isLike_j243, if_pos rfl]
  simp only [if_neg (o40 j40), c40 j40]
  rw [K_priority hI hC hj, bnd0_ok, a2, if_pos rfl, K_pages hI hC hj, bnd0_ok, a3, if_pos rfl, K_ownerOf hI hC hj, bnd0_ok, a1, if_pos rfl, a4]
  by_cases c : aFt g j = 0
  · have hq := (hI.2.2.2.2.1 j hj).1 c
    have hq4 : aQu g j < 4 := by have := hQ.2.1; omega
    obtain ⟨b1, b2, -⟩ := hQ.2.2.2.2 _ hq
    obtain ⟨m, em, hm⟩ := bef_n hI hj
    have hw : wIn g (aQu g j) j := ⟨c, rfl⟩
    have e1 : f_X8_queueOf (LscuHs (P_QV_LscuB v), LscuS (P_QV_LscuB v)) (nI j) = some (.inl (nI (aQu g j))) := by rw [K_queueOf hI hC hj, if_pos c]
    have e2 : f_X8_jobAt (LscuHs (P_QV_LscuB v), LscuS (P_QV_LscuB v), LscuU (P_QV_LscuB v)) (nI (aQu g j)) (nI (posN g (aQu g j) j)) = some (.inl (nI j)) := by
      rw [K_jobAt hI hC hu hq (pos_lt hj hw), nth_iff hj hw rfl]
      rfl
    rw [if_pos ((ft_le hI hj).mpr c), l_before hI hQ hj c, Option.bind_some, a5 c, if_neg (lo4 hq4), e1, bnd0_ok, if_pos rfl, K_positionOf hI hC hj c, bnd0_ok, l_position hI hQ hj c, Option.bind_some, if_pos rfl, Option.bind_some, gPos_n, e2, bnd0_ok, if_pos rfl, K_pagesBefore hI hC hj c, bnd0_ok, Option.bind_some, if_pos rfl, K_minutes hU hI hC hp hj c, bnd0_ok, lc4 hq4, b1, if_neg (nI_ne0 (by omega) (by omega)), if_neg (nI_ne0 (by omega) (by omega)), em, min_eq hm b2.1 b2.2, pk_rem (by omega) (by omega) (by omega), pk_div (by omega) (by omega) (by omega), ceil_div b2.1]
    by_cases d : m % uS u (aQu g j) = 0
    · rw [d, if_pos (show nI 0 ≤ 0 by decide), if_pos rfl, Int32.add_zero, if_pos rfl, nI_1]
    · rw [if_neg (show ¬ nI (m % uS u (aQu g j)) ≤ 0 from nI_ge (a := 0) (by omega) (by have := Nat.mod_lt m (show uS u (aQu g j) > 0 by omega); omega)), if_neg d, nI_1, if_pos rfl, nI_1]
  · have ho := (hC.2.1 j hj).2.2.2.2.2 c
    have e1 : f_X8_queueOf (LscuHs (P_QV_LscuB v), LscuS (P_QV_LscuB v)) (nI j) = some (.inl (-1)) := by rw [K_queueOf hI hC hj, if_neg c]
    have e2 : f_X8_rank (LscuHs (P_QV_LscuB v), LscuS (P_QV_LscuB v)) (nI j) = some (.inl 0) := (K_rank hI hC hj).trans (congrArg (fun x => some (Sum.inl x)) ho.2.2.2)
    have e3 : f_X8_parent (LscuHs (P_QV_LscuB v), LscuS (P_QV_LscuB v)) (nI j) = some (.inl (-1)) := (K_parent hI hC hj).trans (congrArg (fun x => some (Sum.inl x)) ho.2.2.1)
    have e4 : f_X8_leftChild (LscuHs (P_QV_LscuB v), LscuS (P_QV_LscuB v)) (nI j) = some (.inl (-1)) := (K_leftChild hI hC hj).trans (congrArg (fun x => some (Sum.inl x)) ho.1)
    rw [if_neg (show ¬ nI (aFt g j) ≤ 0 from fun h => c ((ft_le hI hj).mp h)), e1, bnd0_ok, if_pos rfl, e2, bnd0_ok, if_pos rfl, e3, bnd0_ok, if_pos rfl, e4, bnd0_ok, if_pos rfl, nI_1]
theorem j220_ok (hI : GI u g) (hC : CS g (LscuS (P_QV_LscuB v))) (hQ : LQ u g (P_QV_LscuA v)) (hU : UI u) (hu : NVCt (UVQs (LscuU (P_QV_LscuB v))) = nI (uQ u)) (hp : ∀ q, q < uQ u → UVSp (LscuU (P_QV_LscuB v)) q = nI (uS u q)) {kO : Int32 → P_QV_Lscu → Option (Int32 × P_QV_Lscu)} {s : Int32} {j : Nat} (hj : j < aJ g) : f_L_isLike_j220 kO (nI j) s s v = kO (nI (j + 1)) v := by
  have j40 : j < 40 := by have := hI.1; omega
  obtain ⟨a1, a2, a3, a4, a5⟩ := hQ.2.2.2.1 j hj
  rw [f_L_isLike_j220, if_pos rfl, K_isCancelled hI hC hj, bnd0_ok, if_neg (o40 j40), c40 j40, a4]
  by_cases c : nI (aFt g j) = 2
  · rw [if_pos c, if_pos c]
    exact j243_ok hI hC hQ hU hu hp hj
  · rw [if_neg c, if_neg c]
    exact j243_ok hI hC hQ hU hu hp hj
theorem j197_ok (hI : GI u g) (hC : CS g (LscuS (P_QV_LscuB v))) (hQ : LQ u g (P_QV_LscuA v)) (hU : UI u) (hu : NVCt (UVQs (LscuU (P_QV_LscuB v))) = nI (uQ u)) (hp : ∀ q, q < uQ u → UVSp (LscuU (P_QV_LscuB v)) q = nI (uS u q)) {kO : Int32 → P_QV_Lscu → Option (Int32 × P_QV_Lscu)} {s : Int32} {j : Nat} (hj : j < aJ g) : f_L_isLike_j197 kO (nI j) s s v = kO (nI (j + 1)) v := by
  have j40 : j < 40 := by have := hI.1; omega
  obtain ⟨a1, a2, a3, a4, a5⟩ := hQ.2.2.2.1 j hj
  rw [f_L_isLike_j197, if_pos rfl, K_isPrinted hI hC hj, bnd0_ok, if_neg (o40 j40), c40 j40, a4]
  by_cases c : nI (aFt g j) = 1
  · rw [if_pos c, if_pos c]
    exact j220_ok hI hC hQ hU hu hp hj
  · rw [if_neg c, if_neg c]
    exact j220_ok hI hC hQ hU hu hp hj
theorem h170_ok (hI : GI u g) (hC : CS g (LscuS (P_QV_LscuB v))) (hQ : LQ u g (P_QV_LscuA v)) (hU : UI u) (hu : NVCt (UVQs (LscuU (P_QV_LscuB v))) = nI (uQ u)) (hp : ∀ q, q < uQ u → UVSp (LscuU (P_QV_LscuB v)) q = nI (uS u q)) : ∀ (m n j : Nat), aJ g - j = m → m < n → j ≤ aJ g → ∃ C', f_L_isLike_h170 n (nI j) v = some (1, (P_QV_LscuA v, LscuHs (P_QV_LscuB v), LscuS (P_QV_LscuB v), C', LscuU (P_QV_LscuB v))) := by
  have hJ := hI.1
  intro m
  induction m with
  | zero =>
    intro n j hm hn hj
    obtain ⟨n, rfl⟩ : ∃ m, n = m + 1 := ⟨n - 1, by omega⟩
    obtain ⟨C', e, -⟩ := isConsistent_ok (v := P_QV_LscuB v) hI hC hu
    refine ⟨C', ?_⟩
    rw [f_L_isLike_h170, hQ.1.2.2, if_pos (nI_le (by omega) (by omega)), e, bnd2_some, if_neg (show ¬ ¬ ((1 : Int32) = 0 ∨ (1 : Int32) = 1) from fun h => h (Or.inr rfl))]
    rfl
  | succ m ih =>
    intro n j hm hn hj
    obtain ⟨n, rfl⟩ : ∃ m, n = m + 1 := ⟨n - 1, by omega⟩
    obtain ⟨C', e⟩ := ih n (j + 1) (by omega) (by omega) (by omega)
    refine ⟨C', ?_⟩
    have hj' : j < aJ g := by omega
    have j40 : j < 40 := by omega
    rw [f_L_isLike_h170, hQ.1.2.2, if_neg (nI_ge hj' (by omega)), K_isWaiting hI hC hj', bnd0_ok, if_neg (o40 j40), c40 j40, (hQ.2.2.2.1 j hj').2.2.2.1, ← e]
    by_cases c : nI (aFt g j) = 0
    · rw [if_pos c, if_pos c]
      exact j197_ok hI hC hQ hU hu hp hj'
    · rw [if_neg c, if_neg c]
      exact j197_ok hI hC hQ hU hu hp hj'
theorem h116_ok (hI : GI u g) (hC : CS g (LscuS (P_QV_LscuB v))) (hQ : LQ u g (P_QV_LscuA v)) (hu : NVCt (UVQs (LscuU (P_QV_LscuB v))) = nI (uQ u)) {kO : Int32 → P_QV_Lscu → Option (Int32 × P_QV_Lscu)} {q : Nat} (hq : q < uQ u) : f_L_isLike_h116 kO FU (nI q) 0 0 v = kO (nI (q + 1)) v := by
  have hJ := hI.1
  have hq6 : q < 6 := by have := hI.2.1.2; omega
  have h := loop_sm (L := fun n a k => f_L_isLike_h116 kO n (nI q) a k v) (f := wP g q) (J := aJ g) (n := FU) (E := fun a => if gPg g q = a then kO (nI q + 1) v else some (0, v)) (FUbig hI) (fun n a k hk => by
    have k40 : k < 40 := by omega
    show f_L_isLike_h116 kO (n + 1) (nI q) a (nI k) v = f_L_isLike_h116 kO n (nI q) (a + wP g q k) (nI (k + 1)) v
    rw [f_L_isLike_h116, hQ.1.2.2, if_neg (nI_ge hk (by omega)), l_isIn hI hQ hk hq6, Option.bind_some, nI_1]
    by_cases c : wIn g q k
    · rw [if_neg (w1_0 c), if_neg (o40 k40), c40 k40, (hQ.2.2.2.1 k hk).2.2.1]
      unfold wP
      rw [if_pos c]
    · rw [if_pos (w1_1 c)]
      unfold wP
      rw [if_neg c, Int32.add_zero]) (fun n a => by
    show f_L_isLike_h116 kO (n + 1) (nI q) a (nI (aJ g)) v = _
    rw [f_L_isLike_h116, hQ.1.2.2, if_pos (nI_le (Nat.le_refl _) (by omega)), K_waitingPages hI hC hu hq, bnd0_ok])
  refine h.trans ?_
  show (if gPg g q = gPg g q then kO (nI q + 1) v else some (0, v)) = _
  rw [if_pos rfl, nI_1]
end LL
theorem h15_ok {u : GU} {g : GS} {hs : Int32} {S C : SV} {U : UV} (hI : GI u g) (hC : CS g S) (hU : UI u) (hu : NVCt (UVQs U) = nI (uQ u)) (hp : ∀ q, q < uQ u → UVSp U q = nI (uS u q)) : ∀ (m n q : Nat) (Q : QV), uQ u - q = m → m < n → q ≤ uQ u → LQ u g Q → ∃ x C', f_L_isLike_h15 n (nI q) (Q, (hs, S, C, U)) = some (1, (QV_sSn Q x, (hs, S, C', U))) := by
  have hJ := hI.1
  intro m
  induction m with
  | zero =>
    intro n q Q hm hn hq hQ
    obtain ⟨n, rfl⟩ : ∃ m, n = m + 1 := ⟨n - 1, by omega⟩
    have hQ4 := hQ.2.1
    obtain ⟨C', e⟩ := h170_ok (v := (Q, (hs, S, C, U))) hI hC hQ hU hu hp (aJ g) FU 0 rfl (FUbig hI) (Nat.zero_le _)
    refine ⟨QVSn Q, C', ?_⟩
    rw [f_L_isLike_h15, show QVNq (P_QV_LscuA (Q, (hs, S, C, U))) = nI (uQ u) from hQ.1.1, if_pos (nI_le (by omega) (by omega))]
    exact e
  | succ m ih =>
    intro n q Q hm hn hq hQ
    obtain ⟨n, rfl⟩ : ∃ m, n = m + 1 := ⟨n - 1, by omega⟩
    have hQ4 := hQ.2.1
    have hq' : q < uQ u := by omega
    have hq6 : q < 6 := by omega
    have q4 : q < 4 := by omega
    obtain ⟨x1, x2, x3⟩ := hI.2.2.1 q
    obtain ⟨y1, y2⟩ := hC.2.2.2.2.1 q
    have hm' := hI.2.2.2.1 q
    have hlen : (nds (aF g q)).length ≤ 40 := nd_len x1 (fun j hj => by have := ((hm' j).mp hj).1; omega)
    have hht : htT (aF g q) ≤ 40 := Nat.le_trans ht_len hlen
    have hw := isHeap_ok (hs := hs) (S := S) hI hC hq6 (aF g q) (K := []) (n := 50) (Q := QV_sSn Q 0) (hQ.sn _) y1 y2 trivial x1 x2 x3 (fun j hj => ⟨((hm' j).mp hj).1, ((hm' j).mp hj).2⟩) (fun f K' e => by cases e) (by show 0 + htT (aF g q) ≤ 40; omega) (by omega)
    have hsz : QVSn (QV_sSn Q 0) + nI (nds (aF g q)).length = gSz g q := by
      rw [siz_len hI, gSz_n]
      exact Int32.zero_add _
    rw [hsz] at hw
    obtain ⟨x, C', e⟩ := ih n (q + 1) (QV_sSn Q (gSz g q)) (by omega) (by omega) (by omega) (hQ.sn _)
    refine ⟨x, C', ?_⟩
    have b := hQ.2.2.2.2 q hq'
    rw [f_L_isLike_h15, show QVNq (P_QV_LscuA (Q, (hs, S, C, U))) = nI (uQ u) from hQ.1.1, if_neg (nI_ge hq' (by omega))]
    simp only [if_neg (lo4 q4), lc4 q4]
    rw [show f_X8_root (LscuHs (P_QV_LscuB (Q, (hs, S, C, U))), LscuS (P_QV_LscuB (Q, (hs, S, C, U))), LscuU (P_QV_LscuB (Q, (hs, S, C, U)))) (nI q) = _ from K_root hI hC hu hq', bnd0_ok]
    rw [show f_L_first (QV_sSn (P_QV_LscuA (Q, (hs, S, C, U))) 0) (nI q) = _ from l_first hI (hQ.sn 0) hq6, Option.bind_some, if_pos (root_first hI q), bnd0_ok]
    rw [show f_L_isHeap 50 (QV_sSn (P_QV_LscuA (Q, (hs, S, C, U))) 0, (LscuHs (P_QV_LscuB (Q, (hs, S, C, U))), LscuS (P_QV_LscuB (Q, (hs, S, C, U))))) (hv (aF g q)) (nI q) (-1) 0 = _ from hw, bnd2_some, if_neg n10]
    rw [show f_L_size (P_QV_LsA (QV_sSn (QV_sSn Q 0) (gSz g q), (hs, S))) (nI q) = some (gSz g q) from l_size hI ((hQ.sn 0).sn _) hq6, Option.bind_some, if_pos (show QVSn (P_QV_LsA (QV_sSn (QV_sSn Q 0) (gSz g q), (hs, S))) = gSz g q from rfl)]
    rw [show f_X8_size (LsHs (P_QV_LsB (QV_sSn (QV_sSn Q 0) (gSz g q), (hs, S))), LsS (P_QV_LsB (QV_sSn (QV_sSn Q 0) (gSz g q), (hs, S))), LscuU (P_QV_LscuB (Q, (hs, S, C, U)))) (nI q) = _ from K_size hI hC hu hq', bnd0_ok, if_pos (show gSz g q = QVSn (P_QV_LsA (QV_sSn (QV_sSn Q 0) (gSz g q), (hs, S))) from rfl)]
    rw [show f_X8_printedPages (LsHs (P_QV_LsB (QV_sSn (QV_sSn Q 0) (gSz g q), (hs, S))), LsS (P_QV_LsB (QV_sSn (QV_sSn Q 0) (gSz g q), (hs, S))), LscuU (P_QV_LscuB (Q, (hs, S, C, U)))) (nI q) = _ from K_printedPages hI hC hu hq', bnd0_ok, if_pos (show aPd g q = QVPd (P_QV_LsA (QV_sSn (QV_sSn Q 0) (gSz g q), (hs, S))) q from b.2.2.1.symm)]
    rw [show f_X8_isPaused (LsHs (P_QV_LsB (QV_sSn (QV_sSn Q 0) (gSz g q), (hs, S))), LsS (P_QV_LsB (QV_sSn (QV_sSn Q 0) (gSz g q), (hs, S))), LscuU (P_QV_LscuB (Q, (hs, S, C, U)))) (nI q) = _ from K_isPaused hI hC hu hq', bnd0_ok, if_pos (show b2i (aPs g q) = QVPs (P_QV_LsA (QV_sSn (QV_sSn Q 0) (gSz g q), (hs, S))) q from b.2.2.2.symm)]
    refine (h116_ok (v := (QV_sSn Q (gSz g q), (hs, S, C, U))) hI hC (hQ.sn _) hu hq').trans ?_
    exact e
theorem isLike_ok {u : GU} {g : GS} {hs : Int32} {S C : SV} {U : UV} {Q : QV} (hI : GI u g) (hC : CS g S) (hU : UI u) (hu : NVCt (UVQs U) = nI (uQ u)) (hp : ∀ q, q < uQ u → UVSp U q = nI (uS u q)) (hQ : LQ u g Q) : ∃ x C', f_L_isLike (Q, (hs, S, C, U)) = some (1, (QV_sSn Q x, (hs, S, C', U))) := by
  have hQ4 := hQ.2.1
  obtain ⟨x, C', e⟩ := h15_ok (hs := hs) (C := C) hI hC hU hu hp (uQ u) FU 0 Q rfl (by have : FU = 5000 := rfl; omega) (Nat.zero_le _) hQ
  refine ⟨x, C', ?_⟩
  unfold f_L_isLike
  rw [show f_X8_jobCount (LscuHs (P_QV_LscuB (Q, (hs, S, C, U))), LscuS (P_QV_LscuB (Q, (hs, S, C, U)))) = _ from K_jobs hC, Option.bind_some, if_pos (show nI (aJ g) = QVJb (P_QV_LscuA (Q, (hs, S, C, U))) from hQ.1.2.2.symm)]
  exact e
