/-! ===== 78c: the walk over a heap (gen78c.py) ===== -/
/-- the walk behind its four questions for the children and their ranks -/
def hpT (n : Nat) (v : P_QV_Ls) (a b c d L R rl rr : Int32) : Option (Int32 × P_QV_Ls) :=
  (f_L_isIn (QV_sSn (P_QV_LsA v) ((QVSn (P_QV_LsA v)) + 1)) a b).bind fun r17 =>
  if r17 = 0 then
    some (0, (P_QV_Ls_sA v (QV_sSn (P_QV_LsA v) ((QVSn (P_QV_LsA v)) + 1))))
  else
    bnd0 (f_X8_parent (P_QV_LsB v) a) fun r21 =>
    if r21 = c then
      bnd0 (f_X8_depth (P_QV_LsB v) a) fun r25 =>
      if r25 = d then
        if c < 0 then
          if rl < rr then
            some (0, (P_QV_Ls_sA v (QV_sSn (P_QV_LsA v) ((QVSn (P_QV_LsA v)) + 1))))
          else
            bnd0 (f_X8_rank (P_QV_LsB v) a) fun r31 =>
            if r31 = (rr + 1) then
              bnd2 (f_L_isHeap n ((QV_sSn (P_QV_LsA v) ((QVSn (P_QV_LsA v)) + 1)), (P_QV_LsB v)) L b a (d + 1)) fun r35 w36 =>
              if r35 = 0 then
                some (0, ((P_QV_LsA w36), (P_QV_LsB w36)))
              else
                bnd2 (f_L_isHeap n ((P_QV_LsA w36), (P_QV_LsB w36)) R b a (d + 1)) fun r39 w40 =>
                if r39 = 0 then
                  some (0, ((P_QV_LsA w40), (P_QV_LsB w40)))
                else
                  some (1, ((P_QV_LsA w40), (P_QV_LsB w40)))
            else
              some (0, (P_QV_Ls_sA v (QV_sSn (P_QV_LsA v) ((QVSn (P_QV_LsA v)) + 1))))
        else
          (f_L_isBefore (QV_sSn (P_QV_LsA v) ((QVSn (P_QV_LsA v)) + 1)) a c).bind fun r43 =>
          if r43 = 0 then
            if rl < rr then
              some (0, (P_QV_Ls_sA v (QV_sSn (P_QV_LsA v) ((QVSn (P_QV_LsA v)) + 1))))
            else
              bnd0 (f_X8_rank (P_QV_LsB v) a) fun r48 =>
              if r48 = (rr + 1) then
                bnd2 (f_L_isHeap n ((QV_sSn (P_QV_LsA v) ((QVSn (P_QV_LsA v)) + 1)), (P_QV_LsB v)) L b a (d + 1)) fun r52 w53 =>
                if r52 = 0 then
                  some (0, ((P_QV_LsA w53), (P_QV_LsB w53)))
                else
                  bnd2 (f_L_isHeap n ((P_QV_LsA w53), (P_QV_LsB w53)) R b a (d + 1)) fun r56 w57 =>
                  if r56 = 0 then
                    some (0, ((P_QV_LsA w57), (P_QV_LsB w57)))
                  else
                    some (1, ((P_QV_LsA w57), (P_QV_LsB w57)))
              else
                some (0, (P_QV_Ls_sA v (QV_sSn (P_QV_LsA v) ((QVSn (P_QV_LsA v)) + 1))))
          else
            some (0, (P_QV_Ls_sA v (QV_sSn (P_QV_LsA v) ((QVSn (P_QV_LsA v)) + 1))))
      else
        some (0, (P_QV_Ls_sA v (QV_sSn (P_QV_LsA v) ((QVSn (P_QV_LsA v)) + 1))))
    else
      some (0, (P_QV_Ls_sA v (QV_sSn (P_QV_LsA v) ((QVSn (P_QV_LsA v)) + 1))))
theorem n00 : ¬ (0 : Int32) < 0 := by decide
theorem isHeap_t {n : Nat} {v : P_QV_Ls} {a b c d L R rl rr : Int32} (ha : 0 ≤ a) (hL : f_X8_leftChild (P_QV_LsB v) a = some (.inl L)) (hR : f_X8_rightChild (P_QV_LsB v) a = some (.inl R)) (h1 : (0 ≤ L → f_X8_rank (P_QV_LsB v) L = some (.inl rl)) ∧ (¬ 0 ≤ L → rl = 0)) (h2 : (0 ≤ R → f_X8_rank (P_QV_LsB v) R = some (.inl rr)) ∧ (¬ 0 ≤ R → rr = 0)) : f_L_isHeap (n + 1) v a b c d = hpT n v a b c d L R rl rr := by
  rw [f_L_isHeap, if_pos ha, hL, bnd0_ok, hR, bnd0_ok]
  by_cases c1 : 0 ≤ L
  · rw [if_pos c1, h1.1 c1, bnd0_ok]
    by_cases c2 : 0 ≤ R
    · rw [if_pos c2, h2.1 c2, bnd0_ok]
      rfl
    · rw [if_neg c2, h2.2 c2]
      rfl
  · rw [if_neg c1, h1.2 c1]
    by_cases c2 : 0 ≤ R
    · rw [if_pos c2, h2.1 c2, bnd0_ok]
      rfl
    · rw [if_neg c2, h2.2 c2]
      simp only [hpT, if_neg n00]
theorem hpT_ok {n : Nat} {v w w' : P_QV_Ls} {a b c d L R rl rr r1 : Int32} (h1 : f_L_isIn (QV_sSn (P_QV_LsA v) ((QVSn (P_QV_LsA v)) + 1)) a b = some r1) (h10 : ¬ r1 = 0) (h2 : f_X8_parent (P_QV_LsB v) a = some (.inl c)) (h3 : f_X8_depth (P_QV_LsB v) a = some (.inl d)) (h4 : c < 0 ∨ (¬ c < 0 ∧ f_L_isBefore (QV_sSn (P_QV_LsA v) ((QVSn (P_QV_LsA v)) + 1)) a c = some 0)) (h5 : ¬ rl < rr) (h6 : f_X8_rank (P_QV_LsB v) a = some (.inl (rr + 1))) (h7 : f_L_isHeap n ((QV_sSn (P_QV_LsA v) ((QVSn (P_QV_LsA v)) + 1)), (P_QV_LsB v)) L b a (d + 1) = some (1, w)) (h8 : f_L_isHeap n ((P_QV_LsA w), (P_QV_LsB w)) R b a (d + 1) = some (1, w')) : hpT n v a b c d L R rl rr = some (1, ((P_QV_LsA w'), (P_QV_LsB w'))) := by
  unfold hpT
  rw [h1, Option.bind_some, if_neg h10, h2, bnd0_ok, if_pos rfl, h3, bnd0_ok, if_pos rfl]
  rcases h4 with h4 | ⟨h4, h9⟩
  · rw [if_pos h4, if_neg h5, h6, bnd0_ok, if_pos rfl, h7, bnd2_some, if_neg n10, h8, bnd2_some, if_neg n10]
  · rw [if_neg h4, h9, Option.bind_some, if_pos rfl, if_neg h5, h6, bnd0_ok, if_pos rfl, h7, bnd2_some, if_neg n10, h8, bnd2_some, if_neg n10]
theorem le40 {i : Nat} (h : i < 40) : (0 : Int32) ≤ nI i := i32nlt.mp (p40 h)
theorem nle1 : ¬ (0 : Int32) ≤ -1 := by decide
theorem rank_t {u : GU} {g : GS} {hs : Int32} {S : SV} (hI : GI u g) (hC : CS g S) {t : Tr} (hS : sub (gH (SVH S)) t) (hm : ∀ j, j ∈ nds t → j < aJ g) : (0 ≤ hv t → f_X8_rank (hs, S) (hv t) = some (.inl (nI (rkT t)))) ∧ (¬ 0 ≤ hv t → nI (rkT t) = 0) := by
  cases t with
  | leaf x => exact ⟨fun h => absurd h nle1, fun _ => rfl⟩
  | branch j l r => exact ⟨fun _ => (K_rank hI hC (hm j (by simp [nds]))).trans (congrArg (fun x => some (Sum.inl x)) hS.2.2.2.1), fun h => absurd (le40 hS.1) h⟩
theorem isHeap_ok {u : GU} {g : GS} {hs : Int32} {S : SV} (hI : GI u g) (hC : CS g S) {q : Nat} (hq : q < 6) : ∀ (t : Tr) {K : Ctx} {n : Nat} {Q : QV}, LQ u g Q → sub (gH (SVH S)) t → upK (gH (SVH S)) t (top K) → cx (gH (SVH S)) K (hv t) → (nds t).Nodup → lft t → hpo (aPr g) t → (∀ j, j ∈ nds t → j < aJ g ∧ wIn g q j) → (∀ f K', K = f :: K' → f.2.1 < aJ g ∧ ∀ j, j ∈ nds t → prc (aPr g) f.2.1 j = true) → cxL K + htT t ≤ 40 → htT t < n → f_L_isHeap n (Q, (hs, S)) (hv t) (nI q) (top K) (nI (cxL K)) = some (1, (QV_sSn Q (QVSn Q + nI (nds t).length), (hs, S))) := by
  intro t
  induction t with
  | leaf x =>
    intro K n Q hQ _ _ _ _ _ _ _ _ _ hn
    obtain ⟨n, rfl⟩ : ∃ m, n = m + 1 := ⟨n - 1, by omega⟩
    rw [f_L_isHeap, if_neg (show ¬ (0 : Int32) ≤ hv (.leaf x) from nle1)]
    show some (1, (Q, (hs, S))) = some (1, (QV_sSn Q (QVSn Q + 0), (hs, S)))
    rw [Int32.add_zero]
    rfl
  | branch i l r ihl ihr =>
    intro K n Q hQ hS hu hc hnd hl hh hm hK hd hn
    obtain ⟨n, rfl⟩ : ∃ m, n = m + 1 := ⟨n - 1, by omega⟩
    obtain ⟨y1, y2, y3, y4, y5, y6, y7, y8⟩ := hS
    obtain ⟨l1, l2, l3⟩ := hl
    obtain ⟨p1, p2, p3⟩ := hh
    obtain ⟨-, -, -, nl, nr⟩ := nd_br hnd
    have hJ := hI.1
    have hi := hm i (by simp [nds])
    have ml : ∀ j, j ∈ nds l → j < aJ g ∧ wIn g q j := fun j hj => hm j (by simp [nds, hj])
    have mr : ∀ j, j ∈ nds r → j < aJ g ∧ wIn g q j := fun j hj => hm j (by simp [nds, hj])
    have ht : htT (.branch i l r) = 1 + max (htT l) (htT r) := rfl
    rw [ht] at hd hn
    have hu' : HVUp (SVH S) i = top K := hu
    have rkl : rkT l ≤ 40 := Nat.le_trans rk_len (nd_len nl (fun j hj => by have := (ml j hj).1; omega))
    have h4 : top K < 0 ∨ (¬ top K < 0 ∧ f_L_isBefore (QV_sSn Q (QVSn Q + 1)) (nI i) (top K) = some 0) := by
      cases K with
      | nil => exact Or.inl m1
      | cons f K' =>
        obtain ⟨b, j, s⟩ := f
        obtain ⟨hj, hp⟩ := hK (b, j, s) K' rfl
        have h9 := prc_asym (hp i (by simp [nds]))
        refine Or.inr ⟨p40 (Nat.lt_of_lt_of_le hj hJ), ?_⟩
        show f_L_isBefore (QV_sSn Q (QVSn Q + 1)) (nI i) (nI j) = some 0
        rw [l_isBefore hI (hQ.sn _) hi.1 hj, h9]
        rfl
    have d1 : nI (cxL K) + 1 = nI (cxL K + 1) := nI_1 _
    have hL := ihl (K := (true, i, r) :: K) (n := n) (Q := QV_sSn Q (QVSn Q + 1)) (hQ.sn _) y7 y5 ⟨y1, y2, y3, y8, y6, hu, hc⟩ nl l2 p2 ml (fun f K' e => by
      injection e with e1 e2
      subst e1
      exact ⟨hi.1, fun j hj => p1 j (Or.inl hj)⟩) (by show cxL K + 1 + htT l ≤ 40; omega) (by omega)
    have hR := ihr (K := (false, i, l) :: K) (n := n) (Q := QV_sSn Q (QVSn Q + 1 + nI (nds l).length)) (hQ.sn _) y8 y6 ⟨y1, y2, y3, y7, y5, hu, hc⟩ nr l3 p3 mr (fun f K' e => by
      injection e with e1 e2
      subst e1
      exact ⟨hi.1, fun j hj => p1 j (Or.inr hj)⟩) (by show cxL K + 1 + htT r ≤ 40; omega) (by omega)
    refine (isHeap_t (v := (Q, (hs, S))) (L := hv l) (R := hv r) (rl := nI (rkT l)) (rr := nI (rkT r)) (le40 y1) ((K_leftChild hI hC hi.1).trans (congrArg (fun x => some (Sum.inl x)) y2)) ((K_rightChild hI hC hi.1).trans (congrArg (fun x => some (Sum.inl x)) y3)) (rank_t hI hC y7 (fun j hj => (ml j hj).1)) (rank_t hI hC y8 (fun j hj => (mr j hj).1))).trans ?_
    refine (hpT_ok (v := (Q, (hs, S))) (w := (QV_sSn Q (QVSn Q + 1 + nI (nds l).length), (hs, S))) (w' := (QV_sSn Q (QVSn Q + 1 + nI (nds l).length + nI (nds r).length), (hs, S))) (l_isIn hI (hQ.sn _) hi.1 hq) (w1_0 hi.2) ((K_parent hI hC hi.1).trans (congrArg (fun x => some (Sum.inl x)) hu')) (K_depth hI hC hi.1 hi.2.1 hc hu' (by omega)) h4 (nI_nlt (by omega) (by omega)) ((K_rank hI hC hi.1).trans (congrArg (fun x => some (Sum.inl x)) (y4.trans (by rw [nI_1, Nat.add_comm])))) (by rw [d1]; exact hL) (by rw [d1]; exact hR)).trans ?_
    show some (1, (QV_sSn Q (QVSn Q + 1 + nI (nds l).length + nI (nds r).length), (hs, S))) = _
    rw [show (nds (.branch i l r)).length = 1 + (nds l).length + (nds r).length by simp only [nds, List.length_cons, List.length_append]; omega, ← nI_add, ← nI_add, ← Int32.add_assoc, ← Int32.add_assoc]
    rfl
