/-! ===== 21: the class's heaps: one step, merging, taking out ===== -/
def gH (v : HV) : HG := (HVLf v, HVRt v, HVUp v, HVRk v, HVCm v, HVSw v)
def mkH (v : HV) (G : HG) (pa : Nat → Int32) : HV := (HVPr v, gL G, gR G, gU G, gK G, gC G, gS G, pa)
theorem upd_twice (f : Nat → Int32) (i : Nat) (x y : Int32) : upd (upd f i x) i y = upd f i y := by
  funext k
  unfold upd
  split <;> rfl
theorem upd_same {f : Nat → Int32} {i : Nat} {x : Int32} (h : f i = x) : upd f i x = f := by
  funext k
  unfold upd
  split
  · rename_i e; rw [e, h]
  · rfl
theorem oob_no {i n : Nat} (h : i < n) (hn : n < 2 ^ 31) : ¬ oob (nI i) n := nI_in h hn
theorem o40 {i : Nat} (h : i < 40) : ¬ oob (nI i) 40 := nI_in h (by decide)
theorem c40 {i : Nat} (h : i < 40) : Int32.toNatClampNeg (nI i) = i := nI_clamp (by omega)
theorem p40 {i : Nat} (h : i < 40) : ¬ nI i < 0 := nI_pos (by omega)
theorem l40 {i : Nat} (h : i < 40) : ¬ (40 : Int32) ≤ nI i := nI_ge (b := 40) h (by decide)
theorem m1 : ((-1 : Int32) < 0) := by decide
theorem isNode_n {i : Nat} (h : i < 40) : f_X0_isNode (nI i) = some 1 := by
  unfold f_X0_isNode
  rw [if_neg (p40 h), if_neg (l40 h)]
theorem isNode_m : f_X0_isNode (-1) = some 0 := by
  unfold f_X0_isNode
  rw [if_pos m1]
theorem rankOf_n {v : HV} {i : Nat} (h : i < 40) : f_X0_rankOf v (nI i) = some (HVRk v i) := by
  unfold f_X0_rankOf
  rw [if_neg (p40 h), if_neg (l40 h), if_neg (o40 h), c40 h]
theorem rankOf_m {v : HV} : f_X0_rankOf v (-1) = some 0 := by
  unfold f_X0_rankOf
  rw [if_pos m1]
theorem rankOf_t {v : HV} {t : Tr} (h : sub (gH v) t) : f_X0_rankOf v (hv t) = some (nI (rkT t)) := by
  cases t with
  | leaf u => exact rankOf_m
  | branch i l r =>
    show f_X0_rankOf v (nI i) = _
    rw [rankOf_n h.1]
    exact congrArg some h.2.2.2.1
theorem setAbove_t {v : HV} {t : Tr} {p : Int32} (h : ∀ j ∈ nds t, j < 40) : f_X0_setAbove v (hv t) p = some ((), mkH v (setU (gH v) t p) (HVPa v)) := by
  unfold f_X0_setAbove
  cases t with
  | leaf u =>
    show (f_X0_isNode (-1)).bind _ = _
    rw [isNode_m]
    rfl
  | branch i l r =>
    have hi : i < 40 := h i (by simp [nds])
    show (f_X0_isNode (nI i)).bind _ = _
    rw [isNode_n hi, Option.bind_some, if_neg (by decide), show hv (.branch i l r) = nI i from rfl, if_neg (o40 hi), c40 hi]
    rfl
theorem rk_len : ∀ {t : Tr}, rkT t ≤ (nds t).length
  | .leaf _ => Nat.le_refl _
  | .branch i l r => by
    have := @rk_len r
    simp only [rkT, nds, List.length_cons, List.length_append]
    omega
theorem one_nI (n : Nat) : (1 : Int32) + nI n = nI (1 + n) := nI_add 1 n
/-- settle: the children are l and m, whose ranks stand in the rows -/
theorem settle_ok {v : HV} {i : Nat} {l m : Tr} (hi : i < 40) (hl : HVLf v i = hv l) (hm : HVRt v i = hv m) (kl : ∀ w : HV, HVRk w = HVRk v → f_X0_rankOf w (hv l) = some (nI (rkT l))) (km : ∀ w : HV, HVRk w = HVRk v → f_X0_rankOf w (hv m) = some (nI (rkT m))) (bl : rkT l ≤ 100) (bm : rkT m ≤ 100) :
    f_X0_settle v (nI i) = some ((), mkH v (upd (HVLf v) i (hv (if rkT l < rkT m then m else l)), upd (HVRt v) i (hv (if rkT l < rkT m then l else m)), HVUp v, upd (HVRk v) i (nI (1 + rkT (if rkT l < rkT m then l else m))), HVCm v, HVSw v + nI (swT l m)) (HVPa v)) := by
  unfold f_X0_settle
  simp only [if_neg (o40 hi), c40 hi]
  rw [hl, hm, kl v rfl, Option.bind_some, km v rfl, Option.bind_some]
  by_cases h : rkT l < rkT m
  · have k9 : ∀ a b c, f_X0_rankOf (HV_sSw (HV_sRt (HV_sLf v a) b) c) (hv l) = some (nI (rkT l)) := fun a b c => kl _ rfl
    rw [if_neg (show ¬ nI (rkT m) ≤ nI (rkT l) by rw [nI_leI (by omega) (by omega)]; omega), upd_eq, k9, Option.bind_some, one_nI]
    simp only [if_pos h, swT]
    rfl
  · rw [if_pos (show nI (rkT m) ≤ nI (rkT l) by rw [nI_leI (by omega) (by omega)]; omega), Option.bind_some, one_nI]
    simp only [if_neg h, swT]
    have e1 : upd (HVLf v) i (hv l) = HVLf v := upd_same hl
    have e2 : upd (HVRt v) i (hv m) = HVRt v := upd_same hm
    rw [e1, e2, show HVSw v + nI 0 = HVSw v from Int32.add_zero _]
    rfl
/-- right of i becomes m; i is settled -/
theorem stepUp {v : HV} {i : Nat} {l m : Tr} (hi : i < 40) (hl : HVLf v i = hv l) (sl : sub (gH v) l) (sm : sub (gH v) m) (bl : rkT l ≤ 100) (bm : rkT m ≤ 100) :
    ∃ w, f_X0_setAbove (HV_sRt v (upd (HVRt v) i (hv m))) (hv m) (nI i) = some ((), w) ∧ f_X0_settle w (nI i) = some ((), mkH v (stp (gH v) i l m) (HVPa v)) := by
  refine ⟨_, setAbove_t (sub_lt sm), ?_⟩
  have rk : ∀ (w : HV), HVRk w = HVRk v → ∀ t : Tr, sub (gH v) t → f_X0_rankOf w (hv t) = some (nI (rkT t)) := by
    intro w hw t ht
    cases t with
    | leaf u => exact rankOf_m
    | branch j a b =>
      show f_X0_rankOf w (nI j) = _
      rw [rankOf_n ht.1, hw]
      exact congrArg some ht.2.2.2.1
  have e : ∀ G : HG, G = setU (gH (HV_sRt v (upd (HVRt v) i (hv m)))) m (nI i) → gL G = HVLf v ∧ gR G = upd (HVRt v) i (hv m) ∧ gU G = gU (setU (gH v) m (nI i)) ∧ gK G = HVRk v ∧ gC G = HVCm v ∧ gS G = HVSw v := by
    intro G hG
    subst hG
    cases m <;> exact ⟨rfl, rfl, rfl, rfl, rfl, rfl⟩
  obtain ⟨e1, e2, e3, e4, e5, e6⟩ := e _ rfl
  refine (settle_ok (v := mkH (HV_sRt v (upd (HVRt v) i (hv m))) (setU (gH (HV_sRt v (upd (HVRt v) i (hv m)))) m (nI i)) (HVPa v)) (l := l) (m := m) hi (by show gL _ i = _; rw [e1, hl]) (by show gR _ i = _; rw [e2, upd_eq]) (fun w hw => rk w (hw.trans e4) l sl) (fun w hw => rk w (hw.trans e4) m sm) bl bm).trans ?_
  show some ((), (HVPr v, upd (gL (setU (gH (HV_sRt v (upd (HVRt v) i (hv m)))) m (nI i))) i _, upd (gR (setU (gH (HV_sRt v (upd (HVRt v) i (hv m)))) m (nI i))) i _, gU (setU (gH (HV_sRt v (upd (HVRt v) i (hv m)))) m (nI i)), upd (gK (setU (gH (HV_sRt v (upd (HVRt v) i (hv m)))) m (nI i))) i _, gC (setU (gH (HV_sRt v (upd (HVRt v) i (hv m)))) m (nI i)), gS (setU (gH (HV_sRt v (upd (HVRt v) i (hv m)))) m (nI i)) + _, HVPa v)) = _
  rw [e1, e2, e3, e4, e5, e6, upd_twice]
  rfl
def ix (k : Nat) : Int32 := match k with
  | 0 => -1
  | k + 1 => nI k
theorem ix_dec (k : Nat) : nI k + (-1) = ix k := by
  cases k with
  | zero => decide
  | succ k => rw [← Int32.sub_eq_add_neg]; exact nI_pred k
theorem ix_sub (k : Nat) : nI k - 1 = ix k := by
  cases k with
  | zero => decide
  | succ k => exact nI_pred k
theorem prec_ok {v : HV} {pr : Nat → Nat} {i j : Nat} (hi : i < 40) (hj : j < 40) (hp : ∀ k, k < 40 → HVPr v k = nI (pr k) ∧ pr k < 2 ^ 31) : f_X0_precedes v (nI i) (nI j) = some (if prc pr i j = true then 1 else 0) := by
  unfold f_X0_precedes
  rw [isNode_n hi, Option.bind_some, if_neg (by decide), isNode_n hj, Option.bind_some, if_neg (by decide), if_neg (o40 hj), c40 hj]
  have h2 : f_X0_comesBefore v (nI i) (nI j) (HVPr v j) = some (if prc pr i j = true then 1 else 0) := by
    unfold f_X0_comesBefore
    simp only [if_neg (o40 hi), c40 hi, (hp i hi).1, (hp j hj).1]
    have e1 := @nI_ltI (pr i) (pr j) (hp i hi).2 (hp j hj).2
    have e2 := @nI_eq (pr i) (pr j) (hp i hi).2 (hp j hj).2
    have e3 := @nI_leI j i (by omega) (by omega)
    have e4 := @prc_iff pr i j
    by_cases c1 : pr i < pr j
    · rw [if_pos (e1.mpr c1), if_pos (e4.mpr (Or.inl c1))]
    · rw [if_neg (fun h => c1 (e1.mp h))]
      by_cases c2 : pr i = pr j
      · rw [if_pos (e2.mpr c2)]
        by_cases c3 : j ≤ i
        · rw [if_pos (e3.mpr c3), if_neg (fun h => by have := e4.mp h; omega)]
        · rw [if_neg (fun h => c3 (e3.mp h)), if_pos (e4.mpr (Or.inr ⟨c2, by omega⟩))]
      · rw [if_neg (fun h => c2 (e2.mp h)), if_neg (fun h => by have := e4.mp h; omega)]
  rw [h2, Option.bind_some, if_neg]
  intro h
  apply h
  split
  · exact Or.inr rfl
  · exact Or.inl rfl
theorem cc_le {pr : Nat → Nat} : ∀ {a b : Tr}, (mg pr a b).2.1 ≤ (nds a).length + (nds b).length := by
  intro a
  induction a with
  | leaf u => intro b; rw [mg_l]; exact Nat.zero_le _
  | branch i la ra _ iha =>
    intro b
    induction b with
    | leaf u => rw [mg_r]; exact Nat.zero_le _
    | branch j lb rb _ ihb =>
      cases e : prc pr i j with
      | true =>
        rw [mg_1 e]
        have := @iha (.branch j lb rb)
        simp only [nds, List.length_cons, List.length_append] at this ⊢
        omega
      | false =>
        rw [mg_2 e]
        simp only [nds, List.length_cons, List.length_append] at ihb ⊢
        omega
theorem hv_fix {i : Nat} {l m : Tr} : hv (fixT i l m) = nI i := by
  unfold fixT
  split <;> rfl
/-- one round of the way up -/
theorem up_1 {n : Nat} {l1 l2 l3 l4 l5 : Int32} {d i : Nat} {l m : Tr} {v : HV} (hd : d < 40) (hi : i < 40) (hp : HVPa v d = nI i) (hl : HVLf v i = hv l) (sl : sub (gH v) l) (sm : sub (gH v) m) (bl : rkT l ≤ 100) (bm : rkT m ≤ 100) :
    f_X0_merge_h113 (n + 1) l1 l2 l3 l4 l5 (hv m) (ix (d + 1)) v = f_X0_merge_h113 n l1 l2 l3 l4 l5 (nI i) (ix d) (mkH v (stp (gH v) i l m) (HVPa v)) := by
  rw [f_X0_merge_h113]
  show (if nI d < 0 then _ else _) = _
  obtain ⟨w, h1, h2⟩ := stepUp hi hl sl sm bl bm
  rw [if_neg (p40 hd), show ix (d + 1) = nI d from rfl, if_neg (o40 hd), c40 hd, hp, if_neg (o40 hi), c40 hi, h1, bnd2_some, h2, bnd2_some, ix_dec]
theorem up_0 {n : Nat} {l1 l2 l3 l4 l5 : Int32} {m : Tr} {v : HV} (sm : ∀ j ∈ nds m, j < 40) : f_X0_merge_h113 (n + 1) l1 l2 l3 l4 l5 (hv m) (ix 0) v = some (hv m, mkH v (setU (gH v) m (-1)) (HVPa v)) := by
  rw [f_X0_merge_h113]
  show (if (-1 : Int32) < 0 then _ else _) = _
  rw [if_pos m1, setAbove_t sm, bnd2_some]
theorem nd_len {l : List Nat} (hn : l.Nodup) (hl : ∀ j ∈ l, j < 40) : l.length ≤ 40 := by
  have h := List.Nodup.length_le_of_subset hn (l₂ := List.range 40) (fun j hj => List.mem_range.mpr (hl j hj))
  rwa [List.length_range] at h
/-- the way down, and what is left of the way up -/
theorem down_ok {pr : Nat → Nat} : ∀ (N : Nat) {a b : Tr} {d n : Nat} {v : HV} {l1 l2 : Int32}, (nds a).length + (nds b).length ≤ N → d + N ≤ 40 → N < n → sub (gH v) a → sub (gH v) b → (nds a).Nodup → (nds b).Nodup → dsj a b → (∀ k, k < 40 → HVPr v k = nI (pr k) ∧ pr k < 2 ^ 31) →
    ∃ x3 x4 x5 w, f_X0_merge_h8 n l1 l2 (hv a) (hv b) (nI d) v = f_X0_merge_h113 (FU - (mg pr a b).2.1) l1 l2 x3 x4 x5 (hv (mg pr a b).1) (ix d) w ∧ MSp pr (gH v) (gH w) a b ∧ HVPr w = HVPr v ∧ ∀ k, k < d → HVPa w k = HVPa v k := by
  intro N
  induction N with
  | zero =>
    intro a b d n v l1 l2 hN hd hn sa sb na nb hab hp
    cases a with
    | branch i la ra => simp [nds] at hN
    | leaf ua =>
    cases b with
    | branch i la ra => simp [nds] at hN
    | leaf ub =>
    obtain ⟨n, rfl⟩ : ∃ k, n = k + 1 := ⟨n - 1, by omega⟩
    rw [f_X0_merge_h8]
    rw [show hv (.leaf ua) = -1 from rfl]
    simp only [isNode_m, Option.bind_some, if_true, ite_self]
    refine ⟨_, _, _, v, by rw [ix_sub, mg_l]; show _ = f_X0_merge_h113 (FU - 0) l1 l2 _ _ _ (-1) (ix d) v; rw [Nat.sub_zero], ⟨trivial, fun _ _ _ => eqG.rf, (Int32.add_zero _).symm, (Int32.add_zero _).symm⟩, rfl, fun _ _ => rfl⟩
  | succ N ih =>
    intro a b d n v l1 l2 hN hd hn sa sb na nb hab hp
    obtain ⟨n, rfl⟩ : ∃ k, n = k + 1 := ⟨n - 1, by omega⟩
    have hd40 : d < 40 := by omega
    cases a with
    | leaf ua =>
      rw [f_X0_merge_h8, if_neg (l40 hd40), show hv (.leaf ua) = -1 from rfl]
      simp only [isNode_m, Option.bind_some, if_true]
      refine ⟨_, _, _, v, by rw [ix_sub, mg_l]; show _ = f_X0_merge_h113 (FU - 0) l1 l2 _ _ _ (hv b) (ix d) v; rw [Nat.sub_zero], ⟨sb, fun _ _ _ => eqG.rf, (Int32.add_zero _).symm, (Int32.add_zero _).symm⟩, rfl, fun _ _ => rfl⟩
    | branch i la ra =>
      have hi : i < 40 := sa.1
      cases b with
      | leaf ub =>
        rw [f_X0_merge_h8, if_neg (l40 hd40), show hv (.branch i la ra) = nI i from rfl, show hv (.leaf ub) = -1 from rfl]
        simp only [isNode_m, isNode_n hi, Option.bind_some, if_true, if_neg (show ¬ (1 : Int32) = 0 by decide)]
        refine ⟨_, _, _, v, by rw [ix_sub, mg_r]; show _ = f_X0_merge_h113 (FU - 0) l1 l2 _ _ _ (nI i) (ix d) v; rw [Nat.sub_zero], ⟨by rw [mg_r]; exact sa, fun _ _ _ => eqG.rf, by rw [mg_r]; exact (Int32.add_zero _).symm, by rw [mg_r]; exact (Int32.add_zero _).symm⟩, rfl, fun _ _ => rfl⟩
      | branch j lb rb =>
        have hj : j < 40 := sb.1
        have hpp : ∀ k, k < 40 → HVPr (HV_sCm v (HVCm v + 1)) k = nI (pr k) ∧ pr k < 2 ^ 31 := hp
        rw [f_X0_merge_h8, if_neg (l40 hd40), show hv (.branch i la ra) = nI i from rfl, show hv (.branch j lb rb) = nI j from rfl]
        simp only [isNode_n hi, isNode_n hj, Option.bind_some]
        rw [if_neg (by decide), if_neg (by decide), prec_ok hi hj hpp, Option.bind_some]
        have one : ∀ (x : Int32) (c : Nat), x + 1 + nI c = x + nI (c + 1) := fun x c => by
          rw [Int32.add_assoc, Nat.add_comm c 1]
          exact congrArg (x + ·) (one_nI c)
        cases e : prc pr i j with
        | true =>
          rw [if_pos rfl, if_neg (by decide), if_neg (o40 hd40), if_neg (o40 hi), c40 hi, c40 hd40]
          generalize hv2 : HV_sPa (HV_sCm v (HVCm v + 1)) (upd (HVPa v) d (nI i)) = v2
          have g2 : gH v2 = (HVLf v, HVRt v, HVUp v, HVRk v, HVCm v + 1, HVSw v) := by rw [← hv2]; rfl
          have eq2 : ∀ k, eqG (gH v) (gH v2) k := fun k => by rw [g2]; exact ⟨rfl, rfl, rfl, rfl⟩
          have hr : HVRt v i = hv ra := sa.2.2.1
          rw [hr, show nI d + 1 = nI (d + 1) from nI_add d 1]
          have na2 := nd_br na
          simp only [nds, List.length_cons, List.length_append] at hN
          obtain ⟨x3, x4, x5, w, h1, ⟨h2, h3, h4, h5⟩, h6, h7⟩ := @ih ra (.branch j lb rb) (d + 1) n v2 l1 l2 (by simp only [nds, List.length_cons, List.length_append]; omega) (by omega) (by omega) (sub_congr (fun k _ => eq2 k) sa.2.2.2.2.2.2.2) (sub_congr (fun k _ => eq2 k) sb) na2.2.2.2.2 nb (fun k g1 g3 => hab k (by simp [nds, g1]) g3) (by rw [← hv2]; exact hp)
          rw [show hv (.branch j lb rb) = nI j from rfl] at h1
          have hc := @cc_le pr ra (.branch j lb rb)
          simp only [nds, List.length_cons, List.length_append] at hc
          obtain ⟨q1, q2⟩ := MSp.step (G1 := gH w) (sub_congr (fun k _ => eq2 k) sa) na nb hab h2 h3
          have hlw : HVLf w i = hv la := by
            have := (h3 i (fun g => na2.2.1 g) (fun g => hab i (by simp [nds]) g)).1
            exact (this.trans (eq2 i).1).trans sa.2.1
          have slw : sub (gH w) la := sub_congr (fun k hk => (eq2 k).tr (h3 k (fun g => na2.2.2.1 k hk g) (fun g => hab k (by simp [nds, hk]) g))) sa.2.2.2.2.2.2.1
          have b1 := @rk_len la
          have b2 := @rk_len (mg pr ra (.branch j lb rb)).1
          have b3 := (@nds_mg pr ra (.branch j lb rb)).length_eq
          simp only [nds, List.length_append, List.length_cons] at b3
          refine ⟨x3, x4, x5, mkH w (stp (gH w) i la (mg pr ra (.branch j lb rb)).1) (HVPa w), ?_, ?_, h6.trans (by rw [← hv2]; rfl), fun k hk => (h7 k (by omega)).trans ?_⟩
          · rw [h1, mg_1 e, hv_fix]
            have hF : FU - (mg pr ra (.branch j lb rb)).2.1 = (FU - ((mg pr ra (.branch j lb rb)).2.1 + 1)) + 1 := by have : FU = 5000 := rfl; omega
            rw [hF]
            refine up_1 hd40 hi ?_ hlw slw h2 (by omega) (by omega)
            rw [h7 d (by omega), ← hv2]
            exact upd_eq
          · refine ⟨by rw [mg_1 e]; exact q1, fun k k1 k2 => (eq2 k).tr (q2 k k1 k2), ?_, ?_⟩
            · rw [mg_1 e]
              show gC (gH w) = _
              rw [h4, g2]
              exact one _ _
            · rw [mg_1 e]
              show gS (gH w) + nI _ = _
              rw [h5, g2, Int32.add_assoc, nI_add]
              rfl
          · rw [← hv2]
            exact upd_ne (by omega)
        | false =>
          rw [if_neg Bool.false_ne_true, if_pos rfl, if_neg (o40 hd40), if_neg (o40 hj), c40 hj, c40 hd40]
          generalize hv2 : HV_sPa (HV_sCm v (HVCm v + 1)) (upd (HVPa v) d (nI j)) = v2
          have g2 : gH v2 = (HVLf v, HVRt v, HVUp v, HVRk v, HVCm v + 1, HVSw v) := by rw [← hv2]; rfl
          have eq2 : ∀ k, eqG (gH v) (gH v2) k := fun k => by rw [g2]; exact ⟨rfl, rfl, rfl, rfl⟩
          have hr : HVRt v j = hv rb := sb.2.2.1
          rw [hr, show nI d + 1 = nI (d + 1) from nI_add d 1]
          have nb2 := nd_br nb
          simp only [nds, List.length_cons, List.length_append] at hN
          obtain ⟨x3, x4, x5, w, h1, ⟨h2, h3, h4, h5⟩, h6, h7⟩ := @ih (.branch i la ra) rb (d + 1) n v2 l1 l2 (by simp only [nds, List.length_cons, List.length_append]; omega) (by omega) (by omega) (sub_congr (fun k _ => eq2 k) sa) (sub_congr (fun k _ => eq2 k) sb.2.2.2.2.2.2.2) na nb2.2.2.2.2 (fun k g1 g3 => hab k g1 (by simp [nds, g3])) (by rw [← hv2]; exact hp)
          rw [show hv (.branch i la ra) = nI i from rfl] at h1
          have hc := @cc_le pr (.branch i la ra) rb
          simp only [nds, List.length_cons, List.length_append] at hc
          have hcm : mg pr (.branch i la ra) rb = mg pr rb (.branch i la ra) := mg_comm (fun k g1 g3 => hab k g1 (by simp [nds, g3]))
          obtain ⟨q1, q2⟩ := MSp.step (pr := pr) (G1 := gH w) (sub_congr (fun k _ => eq2 k) sb) nb na hab.symm (by rw [← hcm]; exact h2) (fun k k1 k2 => h3 k k2 k1)
          rw [← hcm] at q1 q2
          have hlw : HVLf w j = hv lb := by
            have := (h3 j (fun g => hab j g (by simp [nds])) (fun g => nb2.2.1 g)).1
            exact (this.trans (eq2 j).1).trans sb.2.1
          have slw : sub (gH w) lb := sub_congr (fun k hk => (eq2 k).tr (h3 k (fun g => hab k g (by simp [nds, hk])) (fun g => nb2.2.2.1 k hk g))) sb.2.2.2.2.2.2.1
          have b1 := @rk_len lb
          have b2 := @rk_len (mg pr (.branch i la ra) rb).1
          have b3 := (@nds_mg pr (.branch i la ra) rb).length_eq
          simp only [nds, List.length_append, List.length_cons] at b3
          refine ⟨x3, x4, x5, mkH w (stp (gH w) j lb (mg pr (.branch i la ra) rb).1) (HVPa w), ?_, ?_, h6.trans (by rw [← hv2]; rfl), fun k hk => (h7 k (by omega)).trans ?_⟩
          · rw [h1, mg_2 e, hv_fix]
            have hF : FU - (mg pr (.branch i la ra) rb).2.1 = (FU - ((mg pr (.branch i la ra) rb).2.1 + 1)) + 1 := by have : FU = 5000 := rfl; omega
            rw [hF]
            refine up_1 hd40 hj ?_ hlw slw h2 (by omega) (by omega)
            rw [h7 d (by omega), ← hv2]
            exact upd_eq
          · refine ⟨by rw [mg_2 e]; exact q1, fun k k1 k2 => (eq2 k).tr (q2 k k2 k1), ?_, ?_⟩
            · rw [mg_2 e]
              show gC (gH w) = _
              rw [h4, g2]
              exact one _ _
            · rw [mg_2 e]
              show gS (gH w) + nI _ = _
              rw [h5, g2, Int32.add_assoc, nI_add]
              rfl
          · rw [← hv2]
            exact upd_ne (by omega)
def prOK (v : HV) (pr : Nat → Nat) : Prop := ∀ k, k < 40 → HVPr v k = nI (pr k) ∧ pr k < 2 ^ 31
theorem merge_ok {v : HV} {pr : Nat → Nat} {a b : Tr} (sa : sub (gH v) a) (sb : sub (gH v) b) (na : (nds a).Nodup) (nb : (nds b).Nodup) (hab : dsj a b) (hp : prOK v pr) :
    ∃ w, f_X0_merge v (hv a) (hv b) = some (hv (mg pr a b).1, w) ∧ MSp pr (gH v) (gH w) a b ∧ upK (gH w) (mg pr a b).1 (-1) ∧ HVPr w = HVPr v := by
  have hlen : (nds a).length + (nds b).length ≤ 40 := by
    have h := nd_len (l := nds a ++ nds b) (List.nodup_append.mpr ⟨na, nb, fun x hx y hy e => hab x hx (e ▸ hy)⟩) (fun j hj => (List.mem_append.mp hj).elim (sub_lt sa j) (sub_lt sb j))
    rwa [List.length_append] at h
  obtain ⟨x3, x4, x5, w, h1, ⟨h2, h3, h4, h5⟩, h6, -⟩ := @down_ok pr 40 a b 0 FU v (hv a) (hv b) hlen (by omega) (by decide) sa sb na nb hab hp
  have hc := @cc_le pr a b
  have hF : FU - (mg pr a b).2.1 = (FU - (mg pr a b).2.1 - 1) + 1 := by have : FU = 5000 := rfl; omega
  have nm := nodup_of_mg (pr := pr) na nb hab
  have hU : ∀ j, j ∉ nds a → j ∉ nds b → gU (setU (gH w) (mg pr a b).1 (-1)) j = gU (gH w) j := fun j k1 k2 => setU_ne (fun e => (mem_mg.mp e).elim k1 k2)
  refine ⟨mkH w (setU (gH w) (mg pr a b).1 (-1)) (HVPa w), ?_, ?_, ?_, h6⟩
  · unfold f_X0_merge
    rw [show (0 : Int32) = nI 0 from rfl, h1, hF]
    exact up_0 (sub_lt h2)
  · have eG : gH (mkH w (setU (gH w) (mg pr a b).1 (-1)) (HVPa w)) = (gL (gH w), gR (gH w), gU (setU (gH w) (mg pr a b).1 (-1)), gK (gH w), gC (gH w), gS (gH w)) := by
      cases (mg pr a b).1 <;> rfl
    rw [eG]
    exact ⟨sub_congr' (G := gH w) (fun j _ => ⟨rfl, rfl, rfl⟩) (fun j hj => setU_tail nm hj) h2, fun j k1 k2 => (h3 j k1 k2).tr ⟨rfl, rfl, hU j k1 k2, rfl⟩, h4, h5⟩
  · cases hm : (mg pr a b).1 with
    | leaf u => trivial
    | branch k x y => exact upd_eq
