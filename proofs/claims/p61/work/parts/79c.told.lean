/-! ===== 79c: told (gen79c.py) ===== -/
set_option maxRecDepth 20000 in
theorem m_LW_35 : inALL (.methodLink RL 35 (zY v_J0_length_8abf5)) = true := (inALL_at 611 (by decide +kernel) rfl)
set_option maxRecDepth 20000 in
theorem m_LW_41 : inALL (.methodLink RL 41 (zY v_J0_charAt_5068e)) = true := (inALL_at 612 (by decide +kernel) rfl)
/-- the class's reader, the text told, the words -/
abbrev WTL (hs : Int32) (R : RV) (g : Nat → Int32) (len : Nat) (tail : List AC) : List AC := .inr (8, [.ref 1, .ref 1001001, .ref 1001002, .ref 1001003, .ref 1001004, .ref 1001005, .ref 1001006, .int hs, .ref 1001008, .ref 1001009]) :: .inr (4, [.ref 2, .int (RVLn R), .int (RVEn R), .int (RVNx R), .int (RVTk R), .int (RVAt R), .long (RVWd R), .int (RVVa R), .int (RVEk R), .int (RVEa R)]) :: .inl (0, 600, .inl (RVTx R)) :: .inr (11, [.ref 4, .int 0, .int 0, .int 0]) :: .inl (3, len, .inl g) :: tail
theorem in5 {i : Nat} (h : i < 5) : vp_in (nI i) 5 := nI_in h (by decide)
theorem chT_in {T : List Nat} {k i : Nat} (h : k + i < T.length) : T[k + i]? = some (T.getD (k + i) 32) := by
  rw [List.getD, List.getElem?_eq_getElem h]
  rfl
theorem chT_out {T : List Nat} {k i : Nat} (h : T.length ≤ k + i) : chT T k i = 32 := by
  unfold chT
  rw [List.getD, List.getElem?_eq_none h]
  rfl
set_option maxRecDepth 20000 in
set_option maxHeartbeats 4000000 in
theorem told_in0 {κ : KX} {Q : State → Prop} (X : CX κ z_L_told) (hR : κR κ = rmM 5 4 20) {T : List Nat} {g : Nat → Int32} {hs : Int32} {R : RV} {k : Nat} (hT : ∀ p, T.getD p 32 < 128) (hg : ∀ j c, T[j]? = some c → g j = nI c) (hl : T.length ≤ 100) (hk : k ≤ 100) (K : AW κ Q 70 [some (.ref 0), some (.ref 3), some (.int (nI k)), some (.ref 5), some (.int (nI 20))] [] (WTL hs R g T.length [.inl (0, 5, .inl (fw (chT T k) 20))]) 1 5) : ∀ m i, 20 - i = m → i ≤ 20 → AW κ Q 17 [some (.ref 0), some (.ref 3), some (.int (nI k)), some (.ref 5), some (.int (nI i))] [] (WTL hs R g T.length [.inl (0, 5, .inl (fw (chT T k) i))]) 1 5 := by
  intro m
  induction m with
  | zero =>
    intro i hm hi
    have e : i = 20 := by omega
    subst e
    refine go_s 2 X (pc2 := 21) (st2 := [.int 20, .int (nI 20)]) rfl ?_
    exact r_icmp_ge X 70 rfl rfl (fun _ => K) (fun h => absurd (show (20 : Int32) ≤ nI 20 by decide) h)
  | succ m ih =>
    intro i hm hi
    have hi' : i < 20 := by omega
    have K2 := ih (i + 1) (by omega) (by omega)
    refine go_s 2 X (pc2 := 21) (st2 := [.int 20, .int (nI i)]) rfl ?_
    refine r_icmp_ge X 70 rfl rfl (fun h => absurd h (show ¬ (20 : Int32) ≤ nI i from nI_ge (b := 20) hi' (by decide))) (fun _ => ?_)
    refine go_s 3 X (pc2 := 28) (st2 := [.int 4, .int (nI i), .ref 5]) rfl ?_
    refine r_idiv X rfl (by decide) ?_
    refine go_s 3 X (pc2 := 33) (st2 := [.int 4, .int (nI i), .ref 5, .int (nI i / 4), .ref 5]) rfl ?_
    refine r_idiv X rfl (by decide) ?_
    rw [show nI i / 4 = nI (i / 4) from pk_div (d := 4) (by omega) (by decide) (by decide)]
    refine r_iald X (o := 5) rfl rfl (in5 (by omega)) ?_
    rw [nI_clamp (n := i / 4) (by omega)]
    refine go_s 1 X (pc2 := 37) (st2 := [.int 8, .int (fw (chT T k) i (i / 4)), .int (nI (i / 4)), .ref 5]) rfl ?_
    refine r_ishl X rfl ?_
    have fin : AW κ Q 62 [some (.ref 0), some (.ref 3), some (.int (nI k)), some (.ref 5), some (.int (nI i))] [.int (chT T k i), .int ((fw (chT T k) i (i / 4)) <<< ((8 : Int32) &&& 31)), .int (nI (i / 4)), .ref 5] (WTL hs R g T.length [.inl (0, 5, .inl (fw (chT T k) i))]) 1 5 := by
      refine r_ior X rfl ?_
      refine r_iast X rfl rfl (in5 (by omega)) ?_
      rw [nI_clamp (n := i / 4) (by omega)]
      refine go_l 2 X (pc2 := 17) (ls2 := [some (.ref 0), some (.ref 3), some (.int (nI k)), some (.ref 5), some (.int (nI i + 1))]) (st2 := []) rfl ?_
      rw [nI_1]
      exact K2
    refine go_s 4 X (pc2 := 43) (st2 := [.ref 3, .int (nI k + nI i), .int ((fw (chT T k) i (i / 4)) <<< ((8 : Int32) &&& 31)), .int (nI (i / 4)), .ref 5]) rfl ?_
    refine q_callV X [3, 4] [] (o := 0) (As := []) (rest := [.int (nI k + nI i), .int ((fw (chT T k) i (i / 4)) <<< ((8 : Int32) &&& 31)), .int (nI (i / 4)), .ref 5]) (AH2 := WTL hs R g T.length [.inl (0, 5, .inl (fw (chT T k) i))]) (st2 := .int (nI T.length) :: [.int (nI k + nI i), .int ((fw (chT T k) i (i / 4)) <<< ((8 : Int32) &&& 31)), .int (nI (i / 4)), .ref 5]) (cv_length (g := g) (n := T.length)) ⟨rfl, rfl⟩ rfl kv_J0_length_8abf5 (Or.inl m_LW_35) rfl rfl rfl rfl rfl (fit_of hR (by decide) (by decide) (by decide) (by decide)) (Nat.le_of_ble_eq_true rfl) (by decide) rfl rfl rfl ?_
    rw [nI_add]
    refine r_icmp_ge X 60 rfl rfl (fun h => ?_) (fun h => ?_)
    · have h2 : T.length ≤ k + i := Nat.le_of_not_lt fun h3 => (nI_ge h3 (by omega)) h
      refine go_s 1 X (pc2 := 62) (st2 := [.int 32, .int ((fw (chT T k) i (i / 4)) <<< ((8 : Int32) &&& 31)), .int (nI (i / 4)), .ref 5]) rfl ?_
      rw [chT_out h2] at fin
      exact fin
    · have h2 : k + i < T.length := Nat.lt_of_not_le fun h3 => h (nI_le h3 (by omega))
      refine go_s 4 X (pc2 := 54) (st2 := [.int (nI k + nI i), .ref 3, .int ((fw (chT T k) i (i / 4)) <<< ((8 : Int32) &&& 31)), .int (nI (i / 4)), .ref 5]) rfl ?_
      rw [nI_add]
      refine q_callV X [3, 4] [] (o := 0) (As := [.int (nI (k + i))]) (rest := [.int ((fw (chT T k) i (i / 4)) <<< ((8 : Int32) &&& 31)), .int (nI (i / 4)), .ref 5]) (AH2 := WTL hs R g T.length [.inl (0, 5, .inl (fw (chT T k) i))]) (st2 := [.int (chT T k i), .int ((fw (chT T k) i (i / 4)) <<< ((8 : Int32) &&& 31)), .int (nI (i / 4)), .ref 5]) (cv_charAt (g := g) (n := T.length) (j := k + i) (c := T.getD (k + i) 32) h2 (by omega) (hT _) (hg _ _ (chT_in h2))) ⟨rfl, rfl⟩ rfl kv_J0_charAt_5068e (Or.inl m_LW_41) rfl rfl rfl rfl rfl (fit_of hR (by decide) (by decide) (by decide) (by decide)) (Nat.le_of_ble_eq_true rfl) (by decide) rfl rfl rfl ?_
      refine go_s 1 X (pc2 := 62) (st2 := [.int (chT T k i), .int ((fw (chT T k) i (i / 4)) <<< ((8 : Int32) &&& 31)), .int (nI (i / 4)), .ref 5]) rfl ?_
      exact fin
set_option maxRecDepth 20000 in
set_option maxHeartbeats 4000000 in
theorem told_in1 {κ : KX} {Q : State → Prop} (X : CX κ z_L_told) (hR : κR κ = rmM 5 4 20) {T : List Nat} {g : Nat → Int32} {hs : Int32} {R : RV} {k : Nat} {a0 : Nat → Int32} (hT : ∀ p, T.getD p 32 < 128) (hg : ∀ j c, T[j]? = some c → g j = nI c) (hl : T.length ≤ 100) (hk : k ≤ 100) (K : AW κ Q 70 [some (.ref 0), some (.ref 3), some (.int (nI k)), some (.ref 6), some (.int (nI 20))] [] (WTL hs R g T.length [.inl (0, 5, .inl a0), .inl (0, 5, .inl (fw (chT T k) 20))]) 2 10) : ∀ m i, 20 - i = m → i ≤ 20 → AW κ Q 17 [some (.ref 0), some (.ref 3), some (.int (nI k)), some (.ref 6), some (.int (nI i))] [] (WTL hs R g T.length [.inl (0, 5, .inl a0), .inl (0, 5, .inl (fw (chT T k) i))]) 2 10 := by
  intro m
  induction m with
  | zero =>
    intro i hm hi
    have e : i = 20 := by omega
    subst e
    refine go_s 2 X (pc2 := 21) (st2 := [.int 20, .int (nI 20)]) rfl ?_
    exact r_icmp_ge X 70 rfl rfl (fun _ => K) (fun h => absurd (show (20 : Int32) ≤ nI 20 by decide) h)
  | succ m ih =>
    intro i hm hi
    have hi' : i < 20 := by omega
    have K2 := ih (i + 1) (by omega) (by omega)
    refine go_s 2 X (pc2 := 21) (st2 := [.int 20, .int (nI i)]) rfl ?_
    refine r_icmp_ge X 70 rfl rfl (fun h => absurd h (show ¬ (20 : Int32) ≤ nI i from nI_ge (b := 20) hi' (by decide))) (fun _ => ?_)
    refine go_s 3 X (pc2 := 28) (st2 := [.int 4, .int (nI i), .ref 6]) rfl ?_
    refine r_idiv X rfl (by decide) ?_
    refine go_s 3 X (pc2 := 33) (st2 := [.int 4, .int (nI i), .ref 6, .int (nI i / 4), .ref 6]) rfl ?_
    refine r_idiv X rfl (by decide) ?_
    rw [show nI i / 4 = nI (i / 4) from pk_div (d := 4) (by omega) (by decide) (by decide)]
    refine r_iald X (o := 6) rfl rfl (in5 (by omega)) ?_
    rw [nI_clamp (n := i / 4) (by omega)]
    refine go_s 1 X (pc2 := 37) (st2 := [.int 8, .int (fw (chT T k) i (i / 4)), .int (nI (i / 4)), .ref 6]) rfl ?_
    refine r_ishl X rfl ?_
    have fin : AW κ Q 62 [some (.ref 0), some (.ref 3), some (.int (nI k)), some (.ref 6), some (.int (nI i))] [.int (chT T k i), .int ((fw (chT T k) i (i / 4)) <<< ((8 : Int32) &&& 31)), .int (nI (i / 4)), .ref 6] (WTL hs R g T.length [.inl (0, 5, .inl a0), .inl (0, 5, .inl (fw (chT T k) i))]) 2 10 := by
      refine r_ior X rfl ?_
      refine r_iast X rfl rfl (in5 (by omega)) ?_
      rw [nI_clamp (n := i / 4) (by omega)]
      refine go_l 2 X (pc2 := 17) (ls2 := [some (.ref 0), some (.ref 3), some (.int (nI k)), some (.ref 6), some (.int (nI i + 1))]) (st2 := []) rfl ?_
      rw [nI_1]
      exact K2
    refine go_s 4 X (pc2 := 43) (st2 := [.ref 3, .int (nI k + nI i), .int ((fw (chT T k) i (i / 4)) <<< ((8 : Int32) &&& 31)), .int (nI (i / 4)), .ref 6]) rfl ?_
    refine q_callV X [3, 4] [] (o := 0) (As := []) (rest := [.int (nI k + nI i), .int ((fw (chT T k) i (i / 4)) <<< ((8 : Int32) &&& 31)), .int (nI (i / 4)), .ref 6]) (AH2 := WTL hs R g T.length [.inl (0, 5, .inl a0), .inl (0, 5, .inl (fw (chT T k) i))]) (st2 := .int (nI T.length) :: [.int (nI k + nI i), .int ((fw (chT T k) i (i / 4)) <<< ((8 : Int32) &&& 31)), .int (nI (i / 4)), .ref 6]) (cv_length (g := g) (n := T.length)) ⟨rfl, rfl⟩ rfl kv_J0_length_8abf5 (Or.inl m_LW_35) rfl rfl rfl rfl rfl (fit_of hR (by decide) (by decide) (by decide) (by decide)) (Nat.le_of_ble_eq_true rfl) (by decide) rfl rfl rfl ?_
    rw [nI_add]
    refine r_icmp_ge X 60 rfl rfl (fun h => ?_) (fun h => ?_)
    · have h2 : T.length ≤ k + i := Nat.le_of_not_lt fun h3 => (nI_ge h3 (by omega)) h
      refine go_s 1 X (pc2 := 62) (st2 := [.int 32, .int ((fw (chT T k) i (i / 4)) <<< ((8 : Int32) &&& 31)), .int (nI (i / 4)), .ref 6]) rfl ?_
      rw [chT_out h2] at fin
      exact fin
    · have h2 : k + i < T.length := Nat.lt_of_not_le fun h3 => h (nI_le h3 (by omega))
      refine go_s 4 X (pc2 := 54) (st2 := [.int (nI k + nI i), .ref 3, .int ((fw (chT T k) i (i / 4)) <<< ((8 : Int32) &&& 31)), .int (nI (i / 4)), .ref 6]) rfl ?_
      rw [nI_add]
      refine q_callV X [3, 4] [] (o := 0) (As := [.int (nI (k + i))]) (rest := [.int ((fw (chT T k) i (i / 4)) <<< ((8 : Int32) &&& 31)), .int (nI (i / 4)), .ref 6]) (AH2 := WTL hs R g T.length [.inl (0, 5, .inl a0), .inl (0, 5, .inl (fw (chT T k) i))]) (st2 := [.int (chT T k i), .int ((fw (chT T k) i (i / 4)) <<< ((8 : Int32) &&& 31)), .int (nI (i / 4)), .ref 6]) (cv_charAt (g := g) (n := T.length) (j := k + i) (c := T.getD (k + i) 32) h2 (by omega) (hT _) (hg _ _ (chT_in h2))) ⟨rfl, rfl⟩ rfl kv_J0_charAt_5068e (Or.inl m_LW_41) rfl rfl rfl rfl rfl (fit_of hR (by decide) (by decide) (by decide) (by decide)) (Nat.le_of_ble_eq_true rfl) (by decide) rfl rfl rfl ?_
      refine go_s 1 X (pc2 := 62) (st2 := [.int (chT T k i), .int ((fw (chT T k) i (i / 4)) <<< ((8 : Int32) &&& 31)), .int (nI (i / 4)), .ref 6]) rfl ?_
      exact fin
set_option maxRecDepth 20000 in
set_option maxHeartbeats 4000000 in
theorem told_in2 {κ : KX} {Q : State → Prop} (X : CX κ z_L_told) (hR : κR κ = rmM 5 4 20) {T : List Nat} {g : Nat → Int32} {hs : Int32} {R : RV} {k : Nat} {a0 a1 : Nat → Int32} (hT : ∀ p, T.getD p 32 < 128) (hg : ∀ j c, T[j]? = some c → g j = nI c) (hl : T.length ≤ 100) (hk : k ≤ 100) (K : AW κ Q 70 [some (.ref 0), some (.ref 3), some (.int (nI k)), some (.ref 7), some (.int (nI 20))] [] (WTL hs R g T.length [.inl (0, 5, .inl a0), .inl (0, 5, .inl a1), .inl (0, 5, .inl (fw (chT T k) 20))]) 3 15) : ∀ m i, 20 - i = m → i ≤ 20 → AW κ Q 17 [some (.ref 0), some (.ref 3), some (.int (nI k)), some (.ref 7), some (.int (nI i))] [] (WTL hs R g T.length [.inl (0, 5, .inl a0), .inl (0, 5, .inl a1), .inl (0, 5, .inl (fw (chT T k) i))]) 3 15 := by
  intro m
  induction m with
  | zero =>
    intro i hm hi
    have e : i = 20 := by omega
    subst e
    refine go_s 2 X (pc2 := 21) (st2 := [.int 20, .int (nI 20)]) rfl ?_
    exact r_icmp_ge X 70 rfl rfl (fun _ => K) (fun h => absurd (show (20 : Int32) ≤ nI 20 by decide) h)
  | succ m ih =>
    intro i hm hi
    have hi' : i < 20 := by omega
    have K2 := ih (i + 1) (by omega) (by omega)
    refine go_s 2 X (pc2 := 21) (st2 := [.int 20, .int (nI i)]) rfl ?_
    refine r_icmp_ge X 70 rfl rfl (fun h => absurd h (show ¬ (20 : Int32) ≤ nI i from nI_ge (b := 20) hi' (by decide))) (fun _ => ?_)
    refine go_s 3 X (pc2 := 28) (st2 := [.int 4, .int (nI i), .ref 7]) rfl ?_
    refine r_idiv X rfl (by decide) ?_
    refine go_s 3 X (pc2 := 33) (st2 := [.int 4, .int (nI i), .ref 7, .int (nI i / 4), .ref 7]) rfl ?_
    refine r_idiv X rfl (by decide) ?_
    rw [show nI i / 4 = nI (i / 4) from pk_div (d := 4) (by omega) (by decide) (by decide)]
    refine r_iald X (o := 7) rfl rfl (in5 (by omega)) ?_
    rw [nI_clamp (n := i / 4) (by omega)]
    refine go_s 1 X (pc2 := 37) (st2 := [.int 8, .int (fw (chT T k) i (i / 4)), .int (nI (i / 4)), .ref 7]) rfl ?_
    refine r_ishl X rfl ?_
    have fin : AW κ Q 62 [some (.ref 0), some (.ref 3), some (.int (nI k)), some (.ref 7), some (.int (nI i))] [.int (chT T k i), .int ((fw (chT T k) i (i / 4)) <<< ((8 : Int32) &&& 31)), .int (nI (i / 4)), .ref 7] (WTL hs R g T.length [.inl (0, 5, .inl a0), .inl (0, 5, .inl a1), .inl (0, 5, .inl (fw (chT T k) i))]) 3 15 := by
      refine r_ior X rfl ?_
      refine r_iast X rfl rfl (in5 (by omega)) ?_
      rw [nI_clamp (n := i / 4) (by omega)]
      refine go_l 2 X (pc2 := 17) (ls2 := [some (.ref 0), some (.ref 3), some (.int (nI k)), some (.ref 7), some (.int (nI i + 1))]) (st2 := []) rfl ?_
      rw [nI_1]
      exact K2
    refine go_s 4 X (pc2 := 43) (st2 := [.ref 3, .int (nI k + nI i), .int ((fw (chT T k) i (i / 4)) <<< ((8 : Int32) &&& 31)), .int (nI (i / 4)), .ref 7]) rfl ?_
    refine q_callV X [3, 4] [] (o := 0) (As := []) (rest := [.int (nI k + nI i), .int ((fw (chT T k) i (i / 4)) <<< ((8 : Int32) &&& 31)), .int (nI (i / 4)), .ref 7]) (AH2 := WTL hs R g T.length [.inl (0, 5, .inl a0), .inl (0, 5, .inl a1), .inl (0, 5, .inl (fw (chT T k) i))]) (st2 := .int (nI T.length) :: [.int (nI k + nI i), .int ((fw (chT T k) i (i / 4)) <<< ((8 : Int32) &&& 31)), .int (nI (i / 4)), .ref 7]) (cv_length (g := g) (n := T.length)) ⟨rfl, rfl⟩ rfl kv_J0_length_8abf5 (Or.inl m_LW_35) rfl rfl rfl rfl rfl (fit_of hR (by decide) (by decide) (by decide) (by decide)) (Nat.le_of_ble_eq_true rfl) (by decide) rfl rfl rfl ?_
    rw [nI_add]
    refine r_icmp_ge X 60 rfl rfl (fun h => ?_) (fun h => ?_)
    · have h2 : T.length ≤ k + i := Nat.le_of_not_lt fun h3 => (nI_ge h3 (by omega)) h
      refine go_s 1 X (pc2 := 62) (st2 := [.int 32, .int ((fw (chT T k) i (i / 4)) <<< ((8 : Int32) &&& 31)), .int (nI (i / 4)), .ref 7]) rfl ?_
      rw [chT_out h2] at fin
      exact fin
    · have h2 : k + i < T.length := Nat.lt_of_not_le fun h3 => h (nI_le h3 (by omega))
      refine go_s 4 X (pc2 := 54) (st2 := [.int (nI k + nI i), .ref 3, .int ((fw (chT T k) i (i / 4)) <<< ((8 : Int32) &&& 31)), .int (nI (i / 4)), .ref 7]) rfl ?_
      rw [nI_add]
      refine q_callV X [3, 4] [] (o := 0) (As := [.int (nI (k + i))]) (rest := [.int ((fw (chT T k) i (i / 4)) <<< ((8 : Int32) &&& 31)), .int (nI (i / 4)), .ref 7]) (AH2 := WTL hs R g T.length [.inl (0, 5, .inl a0), .inl (0, 5, .inl a1), .inl (0, 5, .inl (fw (chT T k) i))]) (st2 := [.int (chT T k i), .int ((fw (chT T k) i (i / 4)) <<< ((8 : Int32) &&& 31)), .int (nI (i / 4)), .ref 7]) (cv_charAt (g := g) (n := T.length) (j := k + i) (c := T.getD (k + i) 32) h2 (by omega) (hT _) (hg _ _ (chT_in h2))) ⟨rfl, rfl⟩ rfl kv_J0_charAt_5068e (Or.inl m_LW_41) rfl rfl rfl rfl rfl (fit_of hR (by decide) (by decide) (by decide) (by decide)) (Nat.le_of_ble_eq_true rfl) (by decide) rfl rfl rfl ?_
      refine go_s 1 X (pc2 := 62) (st2 := [.int (chT T k i), .int ((fw (chT T k) i (i / 4)) <<< ((8 : Int32) &&& 31)), .int (nI (i / 4)), .ref 7]) rfl ?_
      exact fin
set_option maxRecDepth 20000 in
set_option maxHeartbeats 4000000 in
theorem told_in3 {κ : KX} {Q : State → Prop} (X : CX κ z_L_told) (hR : κR κ = rmM 5 4 20) {T : List Nat} {g : Nat → Int32} {hs : Int32} {R : RV} {k : Nat} {a0 a1 a2 : Nat → Int32} (hT : ∀ p, T.getD p 32 < 128) (hg : ∀ j c, T[j]? = some c → g j = nI c) (hl : T.length ≤ 100) (hk : k ≤ 100) (K : AW κ Q 70 [some (.ref 0), some (.ref 3), some (.int (nI k)), some (.ref 8), some (.int (nI 20))] [] (WTL hs R g T.length [.inl (0, 5, .inl a0), .inl (0, 5, .inl a1), .inl (0, 5, .inl a2), .inl (0, 5, .inl (fw (chT T k) 20))]) 4 20) : ∀ m i, 20 - i = m → i ≤ 20 → AW κ Q 17 [some (.ref 0), some (.ref 3), some (.int (nI k)), some (.ref 8), some (.int (nI i))] [] (WTL hs R g T.length [.inl (0, 5, .inl a0), .inl (0, 5, .inl a1), .inl (0, 5, .inl a2), .inl (0, 5, .inl (fw (chT T k) i))]) 4 20 := by
  intro m
  induction m with
  | zero =>
    intro i hm hi
    have e : i = 20 := by omega
    subst e
    refine go_s 2 X (pc2 := 21) (st2 := [.int 20, .int (nI 20)]) rfl ?_
    exact r_icmp_ge X 70 rfl rfl (fun _ => K) (fun h => absurd (show (20 : Int32) ≤ nI 20 by decide) h)
  | succ m ih =>
    intro i hm hi
    have hi' : i < 20 := by omega
    have K2 := ih (i + 1) (by omega) (by omega)
    refine go_s 2 X (pc2 := 21) (st2 := [.int 20, .int (nI i)]) rfl ?_
    refine r_icmp_ge X 70 rfl rfl (fun h => absurd h (show ¬ (20 : Int32) ≤ nI i from nI_ge (b := 20) hi' (by decide))) (fun _ => ?_)
    refine go_s 3 X (pc2 := 28) (st2 := [.int 4, .int (nI i), .ref 8]) rfl ?_
    refine r_idiv X rfl (by decide) ?_
    refine go_s 3 X (pc2 := 33) (st2 := [.int 4, .int (nI i), .ref 8, .int (nI i / 4), .ref 8]) rfl ?_
    refine r_idiv X rfl (by decide) ?_
    rw [show nI i / 4 = nI (i / 4) from pk_div (d := 4) (by omega) (by decide) (by decide)]
    refine r_iald X (o := 8) rfl rfl (in5 (by omega)) ?_
    rw [nI_clamp (n := i / 4) (by omega)]
    refine go_s 1 X (pc2 := 37) (st2 := [.int 8, .int (fw (chT T k) i (i / 4)), .int (nI (i / 4)), .ref 8]) rfl ?_
    refine r_ishl X rfl ?_
    have fin : AW κ Q 62 [some (.ref 0), some (.ref 3), some (.int (nI k)), some (.ref 8), some (.int (nI i))] [.int (chT T k i), .int ((fw (chT T k) i (i / 4)) <<< ((8 : Int32) &&& 31)), .int (nI (i / 4)), .ref 8] (WTL hs R g T.length [.inl (0, 5, .inl a0), .inl (0, 5, .inl a1), .inl (0, 5, .inl a2), .inl (0, 5, .inl (fw (chT T k) i))]) 4 20 := by
      refine r_ior X rfl ?_
      refine r_iast X rfl rfl (in5 (by omega)) ?_
      rw [nI_clamp (n := i / 4) (by omega)]
      refine go_l 2 X (pc2 := 17) (ls2 := [some (.ref 0), some (.ref 3), some (.int (nI k)), some (.ref 8), some (.int (nI i + 1))]) (st2 := []) rfl ?_
      rw [nI_1]
      exact K2
    refine go_s 4 X (pc2 := 43) (st2 := [.ref 3, .int (nI k + nI i), .int ((fw (chT T k) i (i / 4)) <<< ((8 : Int32) &&& 31)), .int (nI (i / 4)), .ref 8]) rfl ?_
    refine q_callV X [3, 4] [] (o := 0) (As := []) (rest := [.int (nI k + nI i), .int ((fw (chT T k) i (i / 4)) <<< ((8 : Int32) &&& 31)), .int (nI (i / 4)), .ref 8]) (AH2 := WTL hs R g T.length [.inl (0, 5, .inl a0), .inl (0, 5, .inl a1), .inl (0, 5, .inl a2), .inl (0, 5, .inl (fw (chT T k) i))]) (st2 := .int (nI T.length) :: [.int (nI k + nI i), .int ((fw (chT T k) i (i / 4)) <<< ((8 : Int32) &&& 31)), .int (nI (i / 4)), .ref 8]) (cv_length (g := g) (n := T.length)) ⟨rfl, rfl⟩ rfl kv_J0_length_8abf5 (Or.inl m_LW_35) rfl rfl rfl rfl rfl (fit_of hR (by decide) (by decide) (by decide) (by decide)) (Nat.le_of_ble_eq_true rfl) (by decide) rfl rfl rfl ?_
    rw [nI_add]
    refine r_icmp_ge X 60 rfl rfl (fun h => ?_) (fun h => ?_)
    · have h2 : T.length ≤ k + i := Nat.le_of_not_lt fun h3 => (nI_ge h3 (by omega)) h
      refine go_s 1 X (pc2 := 62) (st2 := [.int 32, .int ((fw (chT T k) i (i / 4)) <<< ((8 : Int32) &&& 31)), .int (nI (i / 4)), .ref 8]) rfl ?_
      rw [chT_out h2] at fin
      exact fin
    · have h2 : k + i < T.length := Nat.lt_of_not_le fun h3 => h (nI_le h3 (by omega))
      refine go_s 4 X (pc2 := 54) (st2 := [.int (nI k + nI i), .ref 3, .int ((fw (chT T k) i (i / 4)) <<< ((8 : Int32) &&& 31)), .int (nI (i / 4)), .ref 8]) rfl ?_
      rw [nI_add]
      refine q_callV X [3, 4] [] (o := 0) (As := [.int (nI (k + i))]) (rest := [.int ((fw (chT T k) i (i / 4)) <<< ((8 : Int32) &&& 31)), .int (nI (i / 4)), .ref 8]) (AH2 := WTL hs R g T.length [.inl (0, 5, .inl a0), .inl (0, 5, .inl a1), .inl (0, 5, .inl a2), .inl (0, 5, .inl (fw (chT T k) i))]) (st2 := [.int (chT T k i), .int ((fw (chT T k) i (i / 4)) <<< ((8 : Int32) &&& 31)), .int (nI (i / 4)), .ref 8]) (cv_charAt (g := g) (n := T.length) (j := k + i) (c := T.getD (k + i) 32) h2 (by omega) (hT _) (hg _ _ (chT_in h2))) ⟨rfl, rfl⟩ rfl kv_J0_charAt_5068e (Or.inl m_LW_41) rfl rfl rfl rfl rfl (fit_of hR (by decide) (by decide) (by decide) (by decide)) (Nat.le_of_ble_eq_true rfl) (by decide) rfl rfl rfl ?_
      refine go_s 1 X (pc2 := 62) (st2 := [.int (chT T k i), .int ((fw (chT T k) i (i / 4)) <<< ((8 : Int32) &&& 31)), .int (nI (i / 4)), .ref 8]) rfl ?_
      exact fin
set_option maxRecDepth 20000 in
set_option maxHeartbeats 4000000 in
theorem told_st0 {κ : KX} {Q : State → Prop} (X : CX κ z_L_told) (hR : κR κ = rmM 5 4 20) {T : List Nat} {g : Nat → Int32} {hs : Int32} {R : RV} {k : Nat} (hT : ∀ p, T.getD p 32 < 128) (hg : ∀ j c, T[j]? = some c → g j = nI c) (hl : T.length ≤ 100) (hk : k ≤ 100) (hRT : RT20 T k R) (hkT : k < T.length)
    (K : ∀ R' a, RT20 T (k + 20) R' → AW κ Q 2 [some (.ref 0), some (.ref 3), some (.int (nI (k + 20))), some (.ref 5), some (.int (nI 20))] [] (WTL hs R' g T.length [.inl (0, 5, .inl (a))]) 1 5) : AW κ Q 10 [some (.ref 0), some (.ref 3), some (.int (nI k)), none, none] [] (WTL hs R g T.length []) 0 0 := by
  refine go_s 1 X (pc2 := 11) (st2 := [.int 5]) rfl ?_
  refine r_newa X 0 .int (a0 := (5, .inl z0)) (N := 5) rfl rfl hkd0 (by decide +kernel) (fun _ => rfl) (fun _ => rfl) (by decide) (by decide) (by decide) ⟨clo_all rfl, rfl, rfl⟩ (Nat.le_of_ble_eq_true rfl) (by rw [hR]; decide) (by rw [hR]; decide) ?_
  refine AW.eq (pc' := 13) (ls' := [some (.ref 0), some (.ref 3), some (.int (nI k)), none, none]) (st' := [.ref 5]) (AH' := WTL hs R g T.length [.inl (0, 5, .inl (z0))]) ?_ rfl rfl rfl rfl
  refine go_l 3 X (pc2 := 17) (ls2 := [some (.ref 0), some (.ref 3), some (.int (nI k)), some (.ref 5), some (.int (nI 0))]) (st2 := []) rfl ?_
  refine told_in0 X hR hT hg hl hk ?_ 20 0 rfl (Nat.zero_le _)
  refine go_s 3 X (pc2 := 73) (st2 := [.int 0, .ref 5, .ref 0]) rfl ?_
  refine r_iald X (o := 5) rfl rfl (in5 (i := 0) (by decide)) ?_
  refine go_s 2 X (pc2 := 76) (st2 := [.int 1, .ref 5, .int (fw (chT T k) 20 0), .ref 0]) rfl ?_
  refine r_iald X (o := 5) rfl rfl (in5 (i := 1) (by decide)) ?_
  refine go_s 2 X (pc2 := 79) (st2 := [.int 2, .ref 5, .int (fw (chT T k) 20 1), .int (fw (chT T k) 20 0), .ref 0]) rfl ?_
  refine r_iald X (o := 5) rfl rfl (in5 (i := 2) (by decide)) ?_
  refine go_s 2 X (pc2 := 82) (st2 := [.int 3, .ref 5, .int (fw (chT T k) 20 2), .int (fw (chT T k) 20 1), .int (fw (chT T k) 20 0), .ref 0]) rfl ?_
  refine r_iald X (o := 5) rfl rfl (in5 (i := 3) (by decide)) ?_
  refine go_s 2 X (pc2 := 85) (st2 := [.int 4, .ref 5, .int (fw (chT T k) 20 3), .int (fw (chT T k) 20 2), .int (fw (chT T k) 20 1), .int (fw (chT T k) 20 0), .ref 0]) rfl ?_
  refine r_iald X (o := 5) rfl rfl (in5 (i := 4) (by decide)) ?_
  obtain ⟨R', e1, e2⟩ := told_k (hs := hs) hT hRT (by omega)
  refine q_callV X [0, 1, 2] [] (o := 0) (As := [.int (fw (chT T k) 20 0), .int (fw (chT T k) 20 1), .int (fw (chT T k) 20 2), .int (fw (chT T k) 20 3), .int (fw (chT T k) 20 4)]) (rest := []) (AH2 := WTL hs R' g T.length [.inl (0, 5, .inl (fw (chT T k) 20))]) (st2 := [.int (nI (k + 20))]) (c_X8_appendInput _ _ _ _ _ _ _ _ e1) ⟨rfl, rfl⟩ rfl k_X8_appendInput l_L_45 rfl rfl rfl rfl rfl (fit_of hR (by decide) (by decide) (by decide) (by decide)) (Nat.le_of_ble_eq_true rfl) (by decide) rfl rfl rfl ?_
  refine go_l 3 X (pc2 := 2) (ls2 := [some (.ref 0), some (.ref 3), some (.int (nI k + 20)), some (.ref 5), some (.int (nI 20))]) (st2 := []) rfl ?_
  rw [show nI k + 20 = nI (k + 20) from nI_add k 20]
  exact K R' _ e2
set_option maxRecDepth 20000 in
set_option maxHeartbeats 4000000 in
theorem told_st1 {κ : KX} {Q : State → Prop} (X : CX κ z_L_told) (hR : κR κ = rmM 5 4 20) {T : List Nat} {g : Nat → Int32} {hs : Int32} {R : RV} {k : Nat} {a0 : Nat → Int32} (hT : ∀ p, T.getD p 32 < 128) (hg : ∀ j c, T[j]? = some c → g j = nI c) (hl : T.length ≤ 100) (hk : k ≤ 100) (hRT : RT20 T k R) (hkT : k < T.length)
    (K : ∀ R' a, RT20 T (k + 20) R' → AW κ Q 2 [some (.ref 0), some (.ref 3), some (.int (nI (k + 20))), some (.ref 6), some (.int (nI 20))] [] (WTL hs R' g T.length [.inl (0, 5, .inl a0), .inl (0, 5, .inl (a))]) 2 10) : AW κ Q 10 [some (.ref 0), some (.ref 3), some (.int (nI k)), some (.ref 5), some (.int (nI 20))] [] (WTL hs R g T.length [.inl (0, 5, .inl a0)]) 1 5 := by
  refine go_s 1 X (pc2 := 11) (st2 := [.int 5]) rfl ?_
  refine r_newa X 0 .int (a0 := (5, .inl z0)) (N := 5) rfl rfl hkd0 (by decide +kernel) (fun _ => rfl) (fun _ => rfl) (by decide) (by decide) (by decide) ⟨clo_all rfl, rfl, rfl⟩ (Nat.le_of_ble_eq_true rfl) (by rw [hR]; decide) (by rw [hR]; decide) ?_
  refine AW.eq (pc' := 13) (ls' := [some (.ref 0), some (.ref 3), some (.int (nI k)), some (.ref 5), some (.int (nI 20))]) (st' := [.ref 6]) (AH' := WTL hs R g T.length [.inl (0, 5, .inl a0), .inl (0, 5, .inl (z0))]) ?_ rfl rfl rfl rfl
  refine go_l 3 X (pc2 := 17) (ls2 := [some (.ref 0), some (.ref 3), some (.int (nI k)), some (.ref 6), some (.int (nI 0))]) (st2 := []) rfl ?_
  refine told_in1 X hR hT hg hl hk ?_ 20 0 rfl (Nat.zero_le _)
  refine go_s 3 X (pc2 := 73) (st2 := [.int 0, .ref 6, .ref 0]) rfl ?_
  refine r_iald X (o := 6) rfl rfl (in5 (i := 0) (by decide)) ?_
  refine go_s 2 X (pc2 := 76) (st2 := [.int 1, .ref 6, .int (fw (chT T k) 20 0), .ref 0]) rfl ?_
  refine r_iald X (o := 6) rfl rfl (in5 (i := 1) (by decide)) ?_
  refine go_s 2 X (pc2 := 79) (st2 := [.int 2, .ref 6, .int (fw (chT T k) 20 1), .int (fw (chT T k) 20 0), .ref 0]) rfl ?_
  refine r_iald X (o := 6) rfl rfl (in5 (i := 2) (by decide)) ?_
  refine go_s 2 X (pc2 := 82) (st2 := [.int 3, .ref 6, .int (fw (chT T k) 20 2), .int (fw (chT T k) 20 1), .int (fw (chT T k) 20 0), .ref 0]) rfl ?_
  refine r_iald X (o := 6) rfl rfl (in5 (i := 3) (by decide)) ?_
  refine go_s 2 X (pc2 := 85) (st2 := [.int 4, .ref 6, .int (fw (chT T k) 20 3), .int (fw (chT T k) 20 2), .int (fw (chT T k) 20 1), .int (fw (chT T k) 20 0), .ref 0]) rfl ?_
  refine r_iald X (o := 6) rfl rfl (in5 (i := 4) (by decide)) ?_
  obtain ⟨R', e1, e2⟩ := told_k (hs := hs) hT hRT (by omega)
  refine q_callV X [0, 1, 2] [] (o := 0) (As := [.int (fw (chT T k) 20 0), .int (fw (chT T k) 20 1), .int (fw (chT T k) 20 2), .int (fw (chT T k) 20 3), .int (fw (chT T k) 20 4)]) (rest := []) (AH2 := WTL hs R' g T.length [.inl (0, 5, .inl a0), .inl (0, 5, .inl (fw (chT T k) 20))]) (st2 := [.int (nI (k + 20))]) (c_X8_appendInput _ _ _ _ _ _ _ _ e1) ⟨rfl, rfl⟩ rfl k_X8_appendInput l_L_45 rfl rfl rfl rfl rfl (fit_of hR (by decide) (by decide) (by decide) (by decide)) (Nat.le_of_ble_eq_true rfl) (by decide) rfl rfl rfl ?_
  refine go_l 3 X (pc2 := 2) (ls2 := [some (.ref 0), some (.ref 3), some (.int (nI k + 20)), some (.ref 6), some (.int (nI 20))]) (st2 := []) rfl ?_
  rw [show nI k + 20 = nI (k + 20) from nI_add k 20]
  exact K R' _ e2
set_option maxRecDepth 20000 in
set_option maxHeartbeats 4000000 in
theorem told_st2 {κ : KX} {Q : State → Prop} (X : CX κ z_L_told) (hR : κR κ = rmM 5 4 20) {T : List Nat} {g : Nat → Int32} {hs : Int32} {R : RV} {k : Nat} {a0 a1 : Nat → Int32} (hT : ∀ p, T.getD p 32 < 128) (hg : ∀ j c, T[j]? = some c → g j = nI c) (hl : T.length ≤ 100) (hk : k ≤ 100) (hRT : RT20 T k R) (hkT : k < T.length)
    (K : ∀ R' a, RT20 T (k + 20) R' → AW κ Q 2 [some (.ref 0), some (.ref 3), some (.int (nI (k + 20))), some (.ref 7), some (.int (nI 20))] [] (WTL hs R' g T.length [.inl (0, 5, .inl a0), .inl (0, 5, .inl a1), .inl (0, 5, .inl (a))]) 3 15) : AW κ Q 10 [some (.ref 0), some (.ref 3), some (.int (nI k)), some (.ref 6), some (.int (nI 20))] [] (WTL hs R g T.length [.inl (0, 5, .inl a0), .inl (0, 5, .inl a1)]) 2 10 := by
  refine go_s 1 X (pc2 := 11) (st2 := [.int 5]) rfl ?_
  refine r_newa X 0 .int (a0 := (5, .inl z0)) (N := 5) rfl rfl hkd0 (by decide +kernel) (fun _ => rfl) (fun _ => rfl) (by decide) (by decide) (by decide) ⟨clo_all rfl, rfl, rfl⟩ (Nat.le_of_ble_eq_true rfl) (by rw [hR]; decide) (by rw [hR]; decide) ?_
  refine AW.eq (pc' := 13) (ls' := [some (.ref 0), some (.ref 3), some (.int (nI k)), some (.ref 6), some (.int (nI 20))]) (st' := [.ref 7]) (AH' := WTL hs R g T.length [.inl (0, 5, .inl a0), .inl (0, 5, .inl a1), .inl (0, 5, .inl (z0))]) ?_ rfl rfl rfl rfl
  refine go_l 3 X (pc2 := 17) (ls2 := [some (.ref 0), some (.ref 3), some (.int (nI k)), some (.ref 7), some (.int (nI 0))]) (st2 := []) rfl ?_
  refine told_in2 X hR hT hg hl hk ?_ 20 0 rfl (Nat.zero_le _)
  refine go_s 3 X (pc2 := 73) (st2 := [.int 0, .ref 7, .ref 0]) rfl ?_
  refine r_iald X (o := 7) rfl rfl (in5 (i := 0) (by decide)) ?_
  refine go_s 2 X (pc2 := 76) (st2 := [.int 1, .ref 7, .int (fw (chT T k) 20 0), .ref 0]) rfl ?_
  refine r_iald X (o := 7) rfl rfl (in5 (i := 1) (by decide)) ?_
  refine go_s 2 X (pc2 := 79) (st2 := [.int 2, .ref 7, .int (fw (chT T k) 20 1), .int (fw (chT T k) 20 0), .ref 0]) rfl ?_
  refine r_iald X (o := 7) rfl rfl (in5 (i := 2) (by decide)) ?_
  refine go_s 2 X (pc2 := 82) (st2 := [.int 3, .ref 7, .int (fw (chT T k) 20 2), .int (fw (chT T k) 20 1), .int (fw (chT T k) 20 0), .ref 0]) rfl ?_
  refine r_iald X (o := 7) rfl rfl (in5 (i := 3) (by decide)) ?_
  refine go_s 2 X (pc2 := 85) (st2 := [.int 4, .ref 7, .int (fw (chT T k) 20 3), .int (fw (chT T k) 20 2), .int (fw (chT T k) 20 1), .int (fw (chT T k) 20 0), .ref 0]) rfl ?_
  refine r_iald X (o := 7) rfl rfl (in5 (i := 4) (by decide)) ?_
  obtain ⟨R', e1, e2⟩ := told_k (hs := hs) hT hRT (by omega)
  refine q_callV X [0, 1, 2] [] (o := 0) (As := [.int (fw (chT T k) 20 0), .int (fw (chT T k) 20 1), .int (fw (chT T k) 20 2), .int (fw (chT T k) 20 3), .int (fw (chT T k) 20 4)]) (rest := []) (AH2 := WTL hs R' g T.length [.inl (0, 5, .inl a0), .inl (0, 5, .inl a1), .inl (0, 5, .inl (fw (chT T k) 20))]) (st2 := [.int (nI (k + 20))]) (c_X8_appendInput _ _ _ _ _ _ _ _ e1) ⟨rfl, rfl⟩ rfl k_X8_appendInput l_L_45 rfl rfl rfl rfl rfl (fit_of hR (by decide) (by decide) (by decide) (by decide)) (Nat.le_of_ble_eq_true rfl) (by decide) rfl rfl rfl ?_
  refine go_l 3 X (pc2 := 2) (ls2 := [some (.ref 0), some (.ref 3), some (.int (nI k + 20)), some (.ref 7), some (.int (nI 20))]) (st2 := []) rfl ?_
  rw [show nI k + 20 = nI (k + 20) from nI_add k 20]
  exact K R' _ e2
set_option maxRecDepth 20000 in
set_option maxHeartbeats 4000000 in
theorem told_st3 {κ : KX} {Q : State → Prop} (X : CX κ z_L_told) (hR : κR κ = rmM 5 4 20) {T : List Nat} {g : Nat → Int32} {hs : Int32} {R : RV} {k : Nat} {a0 a1 a2 : Nat → Int32} (hT : ∀ p, T.getD p 32 < 128) (hg : ∀ j c, T[j]? = some c → g j = nI c) (hl : T.length ≤ 100) (hk : k ≤ 100) (hRT : RT20 T k R) (hkT : k < T.length)
    (K : ∀ R' a, RT20 T (k + 20) R' → AW κ Q 2 [some (.ref 0), some (.ref 3), some (.int (nI (k + 20))), some (.ref 8), some (.int (nI 20))] [] (WTL hs R' g T.length [.inl (0, 5, .inl a0), .inl (0, 5, .inl a1), .inl (0, 5, .inl a2), .inl (0, 5, .inl (a))]) 4 20) : AW κ Q 10 [some (.ref 0), some (.ref 3), some (.int (nI k)), some (.ref 7), some (.int (nI 20))] [] (WTL hs R g T.length [.inl (0, 5, .inl a0), .inl (0, 5, .inl a1), .inl (0, 5, .inl a2)]) 3 15 := by
  refine go_s 1 X (pc2 := 11) (st2 := [.int 5]) rfl ?_
  refine r_newa X 0 .int (a0 := (5, .inl z0)) (N := 5) rfl rfl hkd0 (by decide +kernel) (fun _ => rfl) (fun _ => rfl) (by decide) (by decide) (by decide) ⟨clo_all rfl, rfl, rfl⟩ (Nat.le_of_ble_eq_true rfl) (by rw [hR]; decide) (by rw [hR]; decide) ?_
  refine AW.eq (pc' := 13) (ls' := [some (.ref 0), some (.ref 3), some (.int (nI k)), some (.ref 7), some (.int (nI 20))]) (st' := [.ref 8]) (AH' := WTL hs R g T.length [.inl (0, 5, .inl a0), .inl (0, 5, .inl a1), .inl (0, 5, .inl a2), .inl (0, 5, .inl (z0))]) ?_ rfl rfl rfl rfl
  refine go_l 3 X (pc2 := 17) (ls2 := [some (.ref 0), some (.ref 3), some (.int (nI k)), some (.ref 8), some (.int (nI 0))]) (st2 := []) rfl ?_
  refine told_in3 X hR hT hg hl hk ?_ 20 0 rfl (Nat.zero_le _)
  refine go_s 3 X (pc2 := 73) (st2 := [.int 0, .ref 8, .ref 0]) rfl ?_
  refine r_iald X (o := 8) rfl rfl (in5 (i := 0) (by decide)) ?_
  refine go_s 2 X (pc2 := 76) (st2 := [.int 1, .ref 8, .int (fw (chT T k) 20 0), .ref 0]) rfl ?_
  refine r_iald X (o := 8) rfl rfl (in5 (i := 1) (by decide)) ?_
  refine go_s 2 X (pc2 := 79) (st2 := [.int 2, .ref 8, .int (fw (chT T k) 20 1), .int (fw (chT T k) 20 0), .ref 0]) rfl ?_
  refine r_iald X (o := 8) rfl rfl (in5 (i := 2) (by decide)) ?_
  refine go_s 2 X (pc2 := 82) (st2 := [.int 3, .ref 8, .int (fw (chT T k) 20 2), .int (fw (chT T k) 20 1), .int (fw (chT T k) 20 0), .ref 0]) rfl ?_
  refine r_iald X (o := 8) rfl rfl (in5 (i := 3) (by decide)) ?_
  refine go_s 2 X (pc2 := 85) (st2 := [.int 4, .ref 8, .int (fw (chT T k) 20 3), .int (fw (chT T k) 20 2), .int (fw (chT T k) 20 1), .int (fw (chT T k) 20 0), .ref 0]) rfl ?_
  refine r_iald X (o := 8) rfl rfl (in5 (i := 4) (by decide)) ?_
  obtain ⟨R', e1, e2⟩ := told_k (hs := hs) hT hRT (by omega)
  refine q_callV X [0, 1, 2] [] (o := 0) (As := [.int (fw (chT T k) 20 0), .int (fw (chT T k) 20 1), .int (fw (chT T k) 20 2), .int (fw (chT T k) 20 3), .int (fw (chT T k) 20 4)]) (rest := []) (AH2 := WTL hs R' g T.length [.inl (0, 5, .inl a0), .inl (0, 5, .inl a1), .inl (0, 5, .inl a2), .inl (0, 5, .inl (fw (chT T k) 20))]) (st2 := [.int (nI (k + 20))]) (c_X8_appendInput _ _ _ _ _ _ _ _ e1) ⟨rfl, rfl⟩ rfl k_X8_appendInput l_L_45 rfl rfl rfl rfl rfl (fit_of hR (by decide) (by decide) (by decide) (by decide)) (Nat.le_of_ble_eq_true rfl) (by decide) rfl rfl rfl ?_
  refine go_l 3 X (pc2 := 2) (ls2 := [some (.ref 0), some (.ref 3), some (.int (nI k + 20)), some (.ref 8), some (.int (nI 20))]) (st2 := []) rfl ?_
  rw [show nI k + 20 = nI (k + 20) from nI_add k 20]
  exact K R' _ e2
/-- all told: the reader has the text; some rows are left behind -/
def PTO (hs : Int32) (g : Nat → Int32) (T : List Nat) : PO := fun r A => r = .inl none ∧ ∃ R' tail, RVLn R' = nI T.length ∧ TXc T (RVTx R') ∧ tail.length ≤ 4 ∧ (∀ c, c ∈ tail → ∃ a, c = (.inl (0, 5, .inl a) : AC)) ∧ A = WTL hs R' g T.length tail
set_option maxRecDepth 20000 in
set_option maxHeartbeats 4000000 in
theorem told_hd0 {κ : KX} (X : CX κ z_L_told) (hR : κR κ = rmM 5 4 20) {T : List Nat} {g : Nat → Int32} {hs : Int32} {R : RV} {k : Nat} (hT : ∀ p, T.getD p 32 < 128) (hg : ∀ j c, T[j]? = some c → g j = nI c) (hl : T.length ≤ 100) (hk : k ≤ 100) (hRT : RT20 T k R)
    (K : k < T.length → AW κ (QM κ (PTO hs g T) 4 20) 10 [some (.ref 0), some (.ref 3), some (.int (nI k)), none, none] [] (WTL hs R g T.length []) 0 0) : AW κ (QM κ (PTO hs g T) 4 20) 2 [some (.ref 0), some (.ref 3), some (.int (nI k)), none, none] [] (WTL hs R g T.length []) 0 0 := by
  refine go_s 2 X (pc2 := 4) (st2 := [.ref 3, .int (nI k)]) rfl ?_
  refine q_callV X [3, 4] [] (o := 0) (As := []) (rest := [.int (nI k)]) (AH2 := WTL hs R g T.length []) (st2 := .int (nI T.length) :: [.int (nI k)]) (cv_length (g := g) (n := T.length)) ⟨rfl, rfl⟩ rfl kv_J0_length_8abf5 (Or.inl m_LW_35) rfl rfl rfl rfl rfl (fit_of hR (by decide) (by decide) (by decide) (by decide)) (Nat.le_of_ble_eq_true rfl) (by decide) rfl rfl rfl ?_
  refine r_icmp_ge X 96 rfl rfl (fun h => ?_) (fun h => K (Nat.lt_of_not_le fun h3 => h (nI_le h3 (by omega))))
  have h2 : T.length ≤ k := Nat.le_of_not_lt fun h3 => (nI_ge h3 (by omega)) h
  refine go_s 2 X (pc2 := 98) (st2 := [.ref 3, .ref 0]) rfl ?_
  refine q_callV X [3, 4] [] (o := 0) (As := []) (rest := [.ref 0]) (AH2 := WTL hs R g T.length []) (st2 := .int (nI T.length) :: [.ref 0]) (cv_length (g := g) (n := T.length)) ⟨rfl, rfl⟩ rfl kv_J0_length_8abf5 (Or.inl m_LW_35) rfl rfl rfl rfl rfl (fit_of hR (by decide) (by decide) (by decide) (by decide)) (Nat.le_of_ble_eq_true rfl) (by decide) rfl rfl rfl ?_
  obtain ⟨R', e1, e2, e3⟩ := trunc_k (hs := hs) hRT h2 (by omega)
  refine q_callV X [0, 1, 2] [] (o := 0) (As := [.int (nI T.length)]) (rest := []) (AH2 := WTL hs R' g T.length []) (st2 := [.int 1]) (c_X8_truncateInput _ _ _ _ e1) ⟨rfl, rfl⟩ rfl k_X8_truncateInput l_L_51 rfl rfl rfl rfl rfl (fit_of hR (by decide) (by decide) (by decide) (by decide)) (Nat.le_of_ble_eq_true rfl) (by decide) rfl rfl rfl ?_
  refine go_s 1 X (pc2 := 105) (st2 := []) rfl ?_
  refine r_vret X rfl rfl ⟨rfl, R', [], e2, e3, by simp, fun c hc => ?_, rfl⟩ (by decide) (by decide)
  simp only [List.mem_cons, List.not_mem_nil, or_false] at hc
  
set_option maxRecDepth 20000 in
set_option maxHeartbeats 4000000 in
theorem told_hd1 {κ : KX} (X : CX κ z_L_told) (hR : κR κ = rmM 5 4 20) {T : List Nat} {g : Nat → Int32} {hs : Int32} {R : RV} {k : Nat} {a0 : Nat → Int32} (hT : ∀ p, T.getD p 32 < 128) (hg : ∀ j c, T[j]? = some c → g j = nI c) (hl : T.length ≤ 100) (hk : k ≤ 100) (hRT : RT20 T k R)
    (K : k < T.length → AW κ (QM κ (PTO hs g T) 4 20) 10 [some (.ref 0), some (.ref 3), some (.int (nI k)), some (.ref 5), some (.int (nI 20))] [] (WTL hs R g T.length [.inl (0, 5, .inl a0)]) 1 5) : AW κ (QM κ (PTO hs g T) 4 20) 2 [some (.ref 0), some (.ref 3), some (.int (nI k)), some (.ref 5), some (.int (nI 20))] [] (WTL hs R g T.length [.inl (0, 5, .inl a0)]) 1 5 := by
  refine go_s 2 X (pc2 := 4) (st2 := [.ref 3, .int (nI k)]) rfl ?_
  refine q_callV X [3, 4] [] (o := 0) (As := []) (rest := [.int (nI k)]) (AH2 := WTL hs R g T.length [.inl (0, 5, .inl a0)]) (st2 := .int (nI T.length) :: [.int (nI k)]) (cv_length (g := g) (n := T.length)) ⟨rfl, rfl⟩ rfl kv_J0_length_8abf5 (Or.inl m_LW_35) rfl rfl rfl rfl rfl (fit_of hR (by decide) (by decide) (by decide) (by decide)) (Nat.le_of_ble_eq_true rfl) (by decide) rfl rfl rfl ?_
  refine r_icmp_ge X 96 rfl rfl (fun h => ?_) (fun h => K (Nat.lt_of_not_le fun h3 => h (nI_le h3 (by omega))))
  have h2 : T.length ≤ k := Nat.le_of_not_lt fun h3 => (nI_ge h3 (by omega)) h
  refine go_s 2 X (pc2 := 98) (st2 := [.ref 3, .ref 0]) rfl ?_
  refine q_callV X [3, 4] [] (o := 0) (As := []) (rest := [.ref 0]) (AH2 := WTL hs R g T.length [.inl (0, 5, .inl a0)]) (st2 := .int (nI T.length) :: [.ref 0]) (cv_length (g := g) (n := T.length)) ⟨rfl, rfl⟩ rfl kv_J0_length_8abf5 (Or.inl m_LW_35) rfl rfl rfl rfl rfl (fit_of hR (by decide) (by decide) (by decide) (by decide)) (Nat.le_of_ble_eq_true rfl) (by decide) rfl rfl rfl ?_
  obtain ⟨R', e1, e2, e3⟩ := trunc_k (hs := hs) hRT h2 (by omega)
  refine q_callV X [0, 1, 2] [] (o := 0) (As := [.int (nI T.length)]) (rest := []) (AH2 := WTL hs R' g T.length [.inl (0, 5, .inl a0)]) (st2 := [.int 1]) (c_X8_truncateInput _ _ _ _ e1) ⟨rfl, rfl⟩ rfl k_X8_truncateInput l_L_51 rfl rfl rfl rfl rfl (fit_of hR (by decide) (by decide) (by decide) (by decide)) (Nat.le_of_ble_eq_true rfl) (by decide) rfl rfl rfl ?_
  refine go_s 1 X (pc2 := 105) (st2 := []) rfl ?_
  refine r_vret X rfl rfl ⟨rfl, R', [.inl (0, 5, .inl a0)], e2, e3, by simp, fun c hc => ?_, rfl⟩ (by decide) (by decide)
  simp only [List.mem_cons, List.not_mem_nil, or_false] at hc
  exact ⟨_, hc⟩
set_option maxRecDepth 20000 in
set_option maxHeartbeats 4000000 in
theorem told_hd2 {κ : KX} (X : CX κ z_L_told) (hR : κR κ = rmM 5 4 20) {T : List Nat} {g : Nat → Int32} {hs : Int32} {R : RV} {k : Nat} {a0 a1 : Nat → Int32} (hT : ∀ p, T.getD p 32 < 128) (hg : ∀ j c, T[j]? = some c → g j = nI c) (hl : T.length ≤ 100) (hk : k ≤ 100) (hRT : RT20 T k R)
    (K : k < T.length → AW κ (QM κ (PTO hs g T) 4 20) 10 [some (.ref 0), some (.ref 3), some (.int (nI k)), some (.ref 6), some (.int (nI 20))] [] (WTL hs R g T.length [.inl (0, 5, .inl a0), .inl (0, 5, .inl a1)]) 2 10) : AW κ (QM κ (PTO hs g T) 4 20) 2 [some (.ref 0), some (.ref 3), some (.int (nI k)), some (.ref 6), some (.int (nI 20))] [] (WTL hs R g T.length [.inl (0, 5, .inl a0), .inl (0, 5, .inl a1)]) 2 10 := by
  refine go_s 2 X (pc2 := 4) (st2 := [.ref 3, .int (nI k)]) rfl ?_
  refine q_callV X [3, 4] [] (o := 0) (As := []) (rest := [.int (nI k)]) (AH2 := WTL hs R g T.length [.inl (0, 5, .inl a0), .inl (0, 5, .inl a1)]) (st2 := .int (nI T.length) :: [.int (nI k)]) (cv_length (g := g) (n := T.length)) ⟨rfl, rfl⟩ rfl kv_J0_length_8abf5 (Or.inl m_LW_35) rfl rfl rfl rfl rfl (fit_of hR (by decide) (by decide) (by decide) (by decide)) (Nat.le_of_ble_eq_true rfl) (by decide) rfl rfl rfl ?_
  refine r_icmp_ge X 96 rfl rfl (fun h => ?_) (fun h => K (Nat.lt_of_not_le fun h3 => h (nI_le h3 (by omega))))
  have h2 : T.length ≤ k := Nat.le_of_not_lt fun h3 => (nI_ge h3 (by omega)) h
  refine go_s 2 X (pc2 := 98) (st2 := [.ref 3, .ref 0]) rfl ?_
  refine q_callV X [3, 4] [] (o := 0) (As := []) (rest := [.ref 0]) (AH2 := WTL hs R g T.length [.inl (0, 5, .inl a0), .inl (0, 5, .inl a1)]) (st2 := .int (nI T.length) :: [.ref 0]) (cv_length (g := g) (n := T.length)) ⟨rfl, rfl⟩ rfl kv_J0_length_8abf5 (Or.inl m_LW_35) rfl rfl rfl rfl rfl (fit_of hR (by decide) (by decide) (by decide) (by decide)) (Nat.le_of_ble_eq_true rfl) (by decide) rfl rfl rfl ?_
  obtain ⟨R', e1, e2, e3⟩ := trunc_k (hs := hs) hRT h2 (by omega)
  refine q_callV X [0, 1, 2] [] (o := 0) (As := [.int (nI T.length)]) (rest := []) (AH2 := WTL hs R' g T.length [.inl (0, 5, .inl a0), .inl (0, 5, .inl a1)]) (st2 := [.int 1]) (c_X8_truncateInput _ _ _ _ e1) ⟨rfl, rfl⟩ rfl k_X8_truncateInput l_L_51 rfl rfl rfl rfl rfl (fit_of hR (by decide) (by decide) (by decide) (by decide)) (Nat.le_of_ble_eq_true rfl) (by decide) rfl rfl rfl ?_
  refine go_s 1 X (pc2 := 105) (st2 := []) rfl ?_
  refine r_vret X rfl rfl ⟨rfl, R', [.inl (0, 5, .inl a0), .inl (0, 5, .inl a1)], e2, e3, by simp, fun c hc => ?_, rfl⟩ (by decide) (by decide)
  simp only [List.mem_cons, List.not_mem_nil, or_false] at hc
  rcases hc with hc | hc <;> exact ⟨_, hc⟩
set_option maxRecDepth 20000 in
set_option maxHeartbeats 4000000 in
theorem told_hd3 {κ : KX} (X : CX κ z_L_told) (hR : κR κ = rmM 5 4 20) {T : List Nat} {g : Nat → Int32} {hs : Int32} {R : RV} {k : Nat} {a0 a1 a2 : Nat → Int32} (hT : ∀ p, T.getD p 32 < 128) (hg : ∀ j c, T[j]? = some c → g j = nI c) (hl : T.length ≤ 100) (hk : k ≤ 100) (hRT : RT20 T k R)
    (K : k < T.length → AW κ (QM κ (PTO hs g T) 4 20) 10 [some (.ref 0), some (.ref 3), some (.int (nI k)), some (.ref 7), some (.int (nI 20))] [] (WTL hs R g T.length [.inl (0, 5, .inl a0), .inl (0, 5, .inl a1), .inl (0, 5, .inl a2)]) 3 15) : AW κ (QM κ (PTO hs g T) 4 20) 2 [some (.ref 0), some (.ref 3), some (.int (nI k)), some (.ref 7), some (.int (nI 20))] [] (WTL hs R g T.length [.inl (0, 5, .inl a0), .inl (0, 5, .inl a1), .inl (0, 5, .inl a2)]) 3 15 := by
  refine go_s 2 X (pc2 := 4) (st2 := [.ref 3, .int (nI k)]) rfl ?_
  refine q_callV X [3, 4] [] (o := 0) (As := []) (rest := [.int (nI k)]) (AH2 := WTL hs R g T.length [.inl (0, 5, .inl a0), .inl (0, 5, .inl a1), .inl (0, 5, .inl a2)]) (st2 := .int (nI T.length) :: [.int (nI k)]) (cv_length (g := g) (n := T.length)) ⟨rfl, rfl⟩ rfl kv_J0_length_8abf5 (Or.inl m_LW_35) rfl rfl rfl rfl rfl (fit_of hR (by decide) (by decide) (by decide) (by decide)) (Nat.le_of_ble_eq_true rfl) (by decide) rfl rfl rfl ?_
  refine r_icmp_ge X 96 rfl rfl (fun h => ?_) (fun h => K (Nat.lt_of_not_le fun h3 => h (nI_le h3 (by omega))))
  have h2 : T.length ≤ k := Nat.le_of_not_lt fun h3 => (nI_ge h3 (by omega)) h
  refine go_s 2 X (pc2 := 98) (st2 := [.ref 3, .ref 0]) rfl ?_
  refine q_callV X [3, 4] [] (o := 0) (As := []) (rest := [.ref 0]) (AH2 := WTL hs R g T.length [.inl (0, 5, .inl a0), .inl (0, 5, .inl a1), .inl (0, 5, .inl a2)]) (st2 := .int (nI T.length) :: [.ref 0]) (cv_length (g := g) (n := T.length)) ⟨rfl, rfl⟩ rfl kv_J0_length_8abf5 (Or.inl m_LW_35) rfl rfl rfl rfl rfl (fit_of hR (by decide) (by decide) (by decide) (by decide)) (Nat.le_of_ble_eq_true rfl) (by decide) rfl rfl rfl ?_
  obtain ⟨R', e1, e2, e3⟩ := trunc_k (hs := hs) hRT h2 (by omega)
  refine q_callV X [0, 1, 2] [] (o := 0) (As := [.int (nI T.length)]) (rest := []) (AH2 := WTL hs R' g T.length [.inl (0, 5, .inl a0), .inl (0, 5, .inl a1), .inl (0, 5, .inl a2)]) (st2 := [.int 1]) (c_X8_truncateInput _ _ _ _ e1) ⟨rfl, rfl⟩ rfl k_X8_truncateInput l_L_51 rfl rfl rfl rfl rfl (fit_of hR (by decide) (by decide) (by decide) (by decide)) (Nat.le_of_ble_eq_true rfl) (by decide) rfl rfl rfl ?_
  refine go_s 1 X (pc2 := 105) (st2 := []) rfl ?_
  refine r_vret X rfl rfl ⟨rfl, R', [.inl (0, 5, .inl a0), .inl (0, 5, .inl a1), .inl (0, 5, .inl a2)], e2, e3, by simp, fun c hc => ?_, rfl⟩ (by decide) (by decide)
  simp only [List.mem_cons, List.not_mem_nil, or_false] at hc
  rcases hc with hc | hc | hc <;> exact ⟨_, hc⟩
set_option maxRecDepth 20000 in
set_option maxHeartbeats 4000000 in
theorem told_hd4 {κ : KX} (X : CX κ z_L_told) (hR : κR κ = rmM 5 4 20) {T : List Nat} {g : Nat → Int32} {hs : Int32} {R : RV} {k : Nat} {a0 a1 a2 a3 : Nat → Int32} (hT : ∀ p, T.getD p 32 < 128) (hg : ∀ j c, T[j]? = some c → g j = nI c) (hl : T.length ≤ 100) (hk : k ≤ 100) (hRT : RT20 T k R)
    (K : k < T.length → AW κ (QM κ (PTO hs g T) 4 20) 10 [some (.ref 0), some (.ref 3), some (.int (nI k)), some (.ref 8), some (.int (nI 20))] [] (WTL hs R g T.length [.inl (0, 5, .inl a0), .inl (0, 5, .inl a1), .inl (0, 5, .inl a2), .inl (0, 5, .inl a3)]) 4 20) : AW κ (QM κ (PTO hs g T) 4 20) 2 [some (.ref 0), some (.ref 3), some (.int (nI k)), some (.ref 8), some (.int (nI 20))] [] (WTL hs R g T.length [.inl (0, 5, .inl a0), .inl (0, 5, .inl a1), .inl (0, 5, .inl a2), .inl (0, 5, .inl a3)]) 4 20 := by
  refine go_s 2 X (pc2 := 4) (st2 := [.ref 3, .int (nI k)]) rfl ?_
  refine q_callV X [3, 4] [] (o := 0) (As := []) (rest := [.int (nI k)]) (AH2 := WTL hs R g T.length [.inl (0, 5, .inl a0), .inl (0, 5, .inl a1), .inl (0, 5, .inl a2), .inl (0, 5, .inl a3)]) (st2 := .int (nI T.length) :: [.int (nI k)]) (cv_length (g := g) (n := T.length)) ⟨rfl, rfl⟩ rfl kv_J0_length_8abf5 (Or.inl m_LW_35) rfl rfl rfl rfl rfl (fit_of hR (by decide) (by decide) (by decide) (by decide)) (Nat.le_of_ble_eq_true rfl) (by decide) rfl rfl rfl ?_
  refine r_icmp_ge X 96 rfl rfl (fun h => ?_) (fun h => K (Nat.lt_of_not_le fun h3 => h (nI_le h3 (by omega))))
  have h2 : T.length ≤ k := Nat.le_of_not_lt fun h3 => (nI_ge h3 (by omega)) h
  refine go_s 2 X (pc2 := 98) (st2 := [.ref 3, .ref 0]) rfl ?_
  refine q_callV X [3, 4] [] (o := 0) (As := []) (rest := [.ref 0]) (AH2 := WTL hs R g T.length [.inl (0, 5, .inl a0), .inl (0, 5, .inl a1), .inl (0, 5, .inl a2), .inl (0, 5, .inl a3)]) (st2 := .int (nI T.length) :: [.ref 0]) (cv_length (g := g) (n := T.length)) ⟨rfl, rfl⟩ rfl kv_J0_length_8abf5 (Or.inl m_LW_35) rfl rfl rfl rfl rfl (fit_of hR (by decide) (by decide) (by decide) (by decide)) (Nat.le_of_ble_eq_true rfl) (by decide) rfl rfl rfl ?_
  obtain ⟨R', e1, e2, e3⟩ := trunc_k (hs := hs) hRT h2 (by omega)
  refine q_callV X [0, 1, 2] [] (o := 0) (As := [.int (nI T.length)]) (rest := []) (AH2 := WTL hs R' g T.length [.inl (0, 5, .inl a0), .inl (0, 5, .inl a1), .inl (0, 5, .inl a2), .inl (0, 5, .inl a3)]) (st2 := [.int 1]) (c_X8_truncateInput _ _ _ _ e1) ⟨rfl, rfl⟩ rfl k_X8_truncateInput l_L_51 rfl rfl rfl rfl rfl (fit_of hR (by decide) (by decide) (by decide) (by decide)) (Nat.le_of_ble_eq_true rfl) (by decide) rfl rfl rfl ?_
  refine go_s 1 X (pc2 := 105) (st2 := []) rfl ?_
  refine r_vret X rfl rfl ⟨rfl, R', [.inl (0, 5, .inl a0), .inl (0, 5, .inl a1), .inl (0, 5, .inl a2), .inl (0, 5, .inl a3)], e2, e3, by simp, fun c hc => ?_, rfl⟩ (by decide) (by decide)
  simp only [List.mem_cons, List.not_mem_nil, or_false] at hc
  rcases hc with hc | hc | hc | hc <;> exact ⟨_, hc⟩
set_option maxRecDepth 20000 in
set_option maxHeartbeats 4000000 in
theorem c_L_told {T : List Nat} {g : Nat → Int32} {hs : Int32} {R : RV} (hT : ∀ p, T.getD p 32 < 128) (hg : ∀ j c, T[j]? = some c → g j = nI c) (hl : T.length ≤ 80) (h0 : RVLn R = 0) : Sem z_L_told 5 4 20 [.ref 0, .ref 3] (WTL hs R g T.length []) (PTO hs g T) := by
  have hl' : T.length ≤ 100 := by omega
  refine Sem.of zo_L_told (by decide +kernel) (Nat.le_of_ble_eq_true rfl) fun κ X hE hR hN => ?_
  refine AW.eq (pc' := 0) (ls' := [some (.ref 0), some (.ref 3), none, none, none]) (st' := []) (AH' := WTL hs R g T.length []) ?_ rfl rfl rfl rfl
  refine go_l 2 X (pc2 := 2) (ls2 := [some (.ref 0), some (.ref 3), some (.int (nI 0)), none, none]) (st2 := []) rfl ?_
  have hR0 : RT20 T 0 R := ⟨h0, fun j c hj => by cases j <;> cases hj⟩
  refine told_hd0 X hR hT hg hl' (by decide) hR0 (fun k0 => ?_)
  refine told_st0 X hR hT hg hl' (by decide) hR0 k0 (fun R1 a0 h1 => ?_)
  refine told_hd1 X hR hT hg hl' (by decide) h1 (fun k1 => ?_)
  refine told_st1 X hR hT hg hl' (by decide) h1 k1 (fun R2 a1 h2 => ?_)
  refine told_hd2 X hR hT hg hl' (by decide) h2 (fun k2 => ?_)
  refine told_st2 X hR hT hg hl' (by decide) h2 k2 (fun R3 a2 h3 => ?_)
  refine told_hd3 X hR hT hg hl' (by decide) h3 (fun k3 => ?_)
  refine told_st3 X hR hT hg hl' (by decide) h3 k3 (fun R4 a3 h4 => ?_)
  exact told_hd4 X hR hT hg hl' (by decide) h4 (fun k4 => absurd k4 (by omega))
