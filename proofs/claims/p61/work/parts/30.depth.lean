/-! ===== 30: depths, heights, what a merge would cost, the rank it would have ===== -/
def dpt (i : Nat) (t : Tr) : Nat := cxL (zp i t []).1
def htT : Tr → Nat
  | .leaf _ => 0
  | .branch _ l r => 1 + max (htT l) (htT r)
theorem ht_le {i : Nat} : ∀ {t : Tr} {K : Ctx}, i ∈ nds t → cxL (zp i t K).1 + 1 ≤ cxL K + htT t := by
  intro t
  induction t with
  | leaf u => intro K h; simp [nds] at h
  | branch j l r ihl ihr =>
    intro K h
    rw [zp, htT]
    split
    · show cxL K + 1 ≤ _
      omega
    · rename_i e
      split
      · rename_i hl
        have := @ihl ((true, j, r) :: K) hl
        rw [show cxL ((true, j, r) :: K) = cxL K + 1 from rfl] at this
        omega
      · rename_i hl
        have hr : i ∈ nds r := by
          simp only [nds, List.mem_cons, List.mem_append] at h
          exact (h.resolve_left e).resolve_left hl
        have := @ihr ((false, j, l) :: K) hr
        rw [show cxL ((false, j, l) :: K) = cxL K + 1 from rfl] at this
        omega
theorem ht_ex : ∀ {t : Tr} {K : Ctx}, (nds t).Nodup → 0 < htT t → ∃ i, i ∈ nds t ∧ cxL (zp i t K).1 + 1 = cxL K + htT t := by
  intro t
  induction t with
  | leaf u => intro K _ h; exact absurd h (Nat.lt_irrefl _)
  | branch j l r ihl ihr =>
    intro K hn h
    obtain ⟨h1, h2, h3, h4, h5⟩ := nd_br hn
    by_cases c : htT l = 0 ∧ htT r = 0
    · refine ⟨j, by simp [nds], ?_⟩
      rw [zp, if_pos rfl, htT, c.1, c.2]
      show cxL K + 1 = _
      omega
    · by_cases c2 : htT r ≤ htT l
      · obtain ⟨i, hi, e⟩ := @ihl ((true, j, r) :: K) h4 (by omega)
        refine ⟨i, by simp [nds, hi], ?_⟩
        rw [zp, if_neg (show ¬ i = j from fun e => h1 (e ▸ hi)), if_pos hi, e, htT]
        show cxL K + 1 + htT l = _
        omega
      · obtain ⟨i, hi, e⟩ := @ihr ((false, j, l) :: K) h5 (by omega)
        refine ⟨i, by simp [nds, hi], ?_⟩
        rw [zp, if_neg (show ¬ i = j from fun e => h2 (e ▸ hi)), if_neg (fun hl => h3 i hl hi), e, htT]
        show cxL K + 1 + htT r = _
        omega
theorem ht_len : ∀ {t : Tr}, htT t ≤ (nds t).length
  | .leaf _ => Nat.le_refl _
  | .branch j l r => by
    have h1 := @ht_len l
    have h2 := @ht_len r
    simp only [htT, nds, List.length_cons, List.length_append]
    omega
theorem len40 {G : HG} {t : Tr} (hs : sub G t) (hn : (nds t).Nodup) : (nds t).length ≤ 40 := nd_len hn (sub_lt hs)
theorem dpt_lt {G : HG} {t : Tr} {i : Nat} (hs : sub G t) (hn : (nds t).Nodup) (hi : i ∈ nds t) : dpt i t < 40 := by
  have h1 := @ht_le i t [] hi
  have h2 := @ht_len t
  have h3 := len40 hs hn
  rw [show cxL [] = 0 from rfl] at h1
  unfold dpt
  omega
theorem anc_up {v : HV} {l1 : Int32} : ∀ (K : Ctx) {c : Int32} {i d n : Nat}, cx (gH v) K c → HVUp v i = top K → i < 40 → cxL K + d < 40 → cxL K < n → f_X0_ancestors_h4 n l1 (nI d) (nI i) v = some (nI (d + cxL K)) := by
  intro K
  induction K with
  | nil =>
    intro c i d n _ hu hi hd hn
    obtain ⟨n, rfl⟩ : ∃ m, n = m + 1 := ⟨n - 1, by omega⟩
    rw [f_X0_ancestors_h4, if_neg (l40 (by omega)), isNode_n hi, Option.bind_some, if_neg n10]
    simp only [if_neg (o40 hi), c40 hi]
    rw [hu, show top [] = -1 from rfl, isNode_m, Option.bind_some, if_pos rfl]
    rfl
  | cons f K ih =>
    obtain ⟨b, j, s⟩ := f
    intro c i d n hc hu hi hd hn
    obtain ⟨n, rfl⟩ : ∃ m, n = m + 1 := ⟨n - 1, by omega⟩
    obtain ⟨y1, y2, y3, y4, y5, y6, y7⟩ := hc
    have hl : cxL ((b, j, s) :: K) = cxL K + 1 := rfl
    rw [hl] at hd hn
    rw [f_X0_ancestors_h4, if_neg (l40 (by omega)), isNode_n hi, Option.bind_some, if_neg n10]
    simp only [if_neg (o40 hi), c40 hi]
    rw [hu, show top ((b, j, s) :: K) = nI j from rfl, isNode_n y1, Option.bind_some, if_neg n10]
    rw [nI_1, ih y7 y6 y1 (by omega) (by omega), hl]
    congr 2
    omega
theorem ctx_of {G : HG} {t : Tr} {i : Nat} (hs : sub G t) (hu : upK G t (-1)) (hi : i ∈ nds t) : gU G i = top (zp i t []).1 ∧ cx G (zp i t []).1 (nI i) := by
  have e := zp_pl (K := []) hi
  have et : plT (zp i t []).1 (.branch i (zp i t []).2.1 (zp i t []).2.2) = t := e
  obtain ⟨-, h2, h3⟩ := sub_pl (G := G) (K := (zp i t []).1) (t := .branch i (zp i t []).2.1 (zp i t []).2.2) (by rw [et]; exact hs) (by rw [et]; exact hu)
  exact ⟨h2, h3⟩
theorem ancestors_ok {v : HV} {t : Tr} {i : Nat} (hs : sub (gH v) t) (hu : upK (gH v) t (-1)) (hn : (nds t).Nodup) (hi : i ∈ nds t) : f_X0_ancestors v (nI i) = some (nI (dpt i t)) := by
  obtain ⟨h1, h2⟩ := ctx_of hs hu hi
  have h3 := dpt_lt hs hn hi
  unfold dpt at h3 ⊢
  have := anc_up (l1 := nI i) (zp i t []).1 (d := 0) (n := FU) h2 h1 (sub_lt hs i hi) (by omega) (by have : FU = 5000 := rfl; omega)
  rw [Nat.zero_add] at this
  exact this
theorem mdepth_up {v : MV} {l1 : Int32} : ∀ (K : Ctx) {c : Int32} {d n : Nat}, cx (gM (MVSt v)) K c → cxL K < n → f_X9_depth_h20 n l1 (nI d) (top K) v = some (nI (d + cxL K), v) := by
  intro K
  induction K with
  | nil =>
    intro c d n _ hn
    obtain ⟨n, rfl⟩ : ∃ m, n = m + 1 := ⟨n - 1, by omega⟩
    rw [f_X9_depth_h20, if_pos (show top [] = -1 from rfl)]
    rfl
  | cons f K ih =>
    obtain ⟨b, j, s⟩ := f
    intro c d n hc hn
    obtain ⟨n, rfl⟩ : ∃ m, n = m + 1 := ⟨n - 1, by omega⟩
    obtain ⟨y1, y2, y3, y4, y5, y6, y7⟩ := hc
    have hl : cxL ((b, j, s) :: K) = cxL K + 1 := rfl
    rw [hl] at hn
    rw [f_X9_depth_h20, show top ((b, j, s) :: K) = nI j from rfl, if_neg (nI_m y1), get_7 y1, Option.bind_some, show jf (MVSt v) 7 j = top K from y6, nI_1, ih y7 (by omega), hl]
    congr 3
    omega
theorem mdepth_ok {v : MV} {t : Tr} {i : Nat} {l1 : Int32} (hs : sub (gM (MVSt v)) t) (hu : upK (gM (MVSt v)) t (-1)) (hn : (nds t).Nodup) (hi : i ∈ nds t) : (f_X9_get v (nI i) 7).bind (fun r => f_X9_depth_h20 FU l1 0 r v) = some (nI (dpt i t), v) := by
  obtain ⟨h1, h2⟩ := ctx_of hs hu hi
  have h3 := dpt_lt hs hn hi
  unfold dpt at h3 ⊢
  rw [get_7 (sub_lt hs i hi), Option.bind_some, show jf (MVSt v) 7 i = top (zp i t []).1 from h1]
  have := mdepth_up (v := v) (l1 := l1) (zp i t []).1 (d := 0) (n := FU) h2 (by have : FU = 5000 := rfl; omega)
  rw [Nat.zero_add] at this
  exact this
/-! heights -/
theorem loop_acc {R : Type} {L : Nat → Int32 → Int32 → R} {A : Nat → Int32} {J : Nat} {r : R} (hs : ∀ n k, k < J → L (n + 1) (A k) (nI k) = L n (A (k + 1)) (nI (k + 1))) (he : ∀ n, L (n + 1) (A J) (nI J) = r) : ∀ (m n k : Nat), J - k = m → m < n → k ≤ J → L n (A k) (nI k) = r := by
  intro m
  induction m with
  | zero =>
    intro n k hm hn hk
    obtain ⟨n, rfl⟩ : ∃ m, n = m + 1 := ⟨n - 1, by omega⟩
    have : k = J := by omega
    subst this
    exact he n
  | succ m ih =>
    intro n k hm hn hk
    obtain ⟨n, rfl⟩ : ∃ m, n = m + 1 := ⟨n - 1, by omega⟩
    rw [hs n k (by omega)]
    exact ih n (k + 1) (by omega) (by omega) (by omega)
def mxd (g : GS) (q : Nat) : Nat → Nat
  | 0 => 0
  | k + 1 => if wIn g q k then max (mxd g q k) (1 + dpt k (aF g q)) else mxd g q k
theorem mxd_le {g : GS} {q : Nat} : ∀ {n : Nat}, (∀ k, k < n → wIn g q k → k ∈ nds (aF g q)) → mxd g q n ≤ htT (aF g q)
  | 0, _ => Nat.zero_le _
  | n + 1, h => by
    have ih := @mxd_le g q n (fun k hk => h k (by omega))
    rw [mxd]
    split
    · rename_i hw
      have h1 := @ht_le n (aF g q) [] (h n (by omega) hw)
      rw [show cxL [] = 0 from rfl] at h1
      unfold dpt
      omega
    · exact ih
theorem mxd_ge {g : GS} {q i : Nat} : ∀ {n : Nat}, i < n → wIn g q i → dpt i (aF g q) + 1 ≤ mxd g q n
  | 0, h, _ => absurd h (Nat.not_lt_zero _)
  | n + 1, h, hw => by
    rw [mxd]
    by_cases e : i = n
    · subst e
      rw [if_pos hw]
      omega
    · have ih := @mxd_ge g q i n (by omega) hw
      split
      · omega
      · exact ih
theorem mxd_ht {u : GU} {g : GS} (hI : GI u g) {q : Nat} : mxd g q (aJ g) = htT (aF g q) := by
  refine Nat.le_antisymm (mxd_le (fun k hk hw => (hI.2.2.2.1 q k).mpr ⟨hk, hw.1, hw.2⟩)) ?_
  by_cases c : 0 < htT (aF g q)
  · obtain ⟨i, hi, e⟩ := @ht_ex (aF g q) [] (hI.2.2.1 q).1 c
    have hm := (hI.2.2.2.1 q i).mp hi
    have := @mxd_ge g q i (aJ g) hm.1 hm.2
    rw [show cxL [] = 0 from rfl] at e
    unfold dpt at this
    omega
  · omega
theorem nI_max {a b : Nat} (ha : a < 1000) (hb : b < 1000) : (if nI a < nI b then nI b else nI a) = nI (max a b) := by
  by_cases c : a < b
  · rw [if_pos (nI_lt c (by omega)), Nat.max_eq_right (by omega)]
  · rw [if_neg (fun h => c ((nI_ltI (by omega) (by omega)).mp h)), Nat.max_eq_left (by omega)]
theorem nI_min {a b : Nat} (ha : a < 1000) (hb : b < 1000) : (if nI a < nI b then nI a else nI b) = nI (min a b) := by
  by_cases c : a < b
  · rw [if_pos (nI_lt c (by omega)), Nat.min_eq_left (by omega)]
  · rw [if_neg (fun h => c ((nI_ltI (by omega) (by omega)).mp h)), Nat.min_eq_right (by omega)]
theorem longestPath_ok {u : GU} {g : GS} {v : SV} (hI : GI u g) (hC : CS g v) {q : Nat} (hq : q < 6) : f_X7_longestPath v (nI q) = some (nI (htT (aF g q))) := by
  have hJ := hI.1
  have hFU := FUbig hI
  rw [← mxd_ht hI]
  refine loop_acc (L := fun n a k => f_X7_longestPath_h4 n (nI q) a k v) (A := fun k => nI (mxd g q k)) (J := aJ g) (fun n k hk => ?_) (fun n => ?_) (aJ g - 0) FU 0 rfl (by omega) (Nat.zero_le _)
  · show f_X7_longestPath_h4 (n + 1) (nI q) (nI (mxd g q k)) (nI k) v = f_X7_longestPath_h4 n (nI q) (nI (mxd g q (k + 1))) (nI (k + 1)) v
    have k40 : k < 40 := by omega
    rw [f_X7_longestPath_h4, hC.1, if_neg (nI_ge hk (by omega)), if_neg (l40 k40)]
    simp only [if_neg (o40 k40), c40 k40]
    rw [nI_1, mxd]
    by_cases c : wIn g q k
    · have hin : k ∈ nds (aF g q) := (hI.2.2.2.1 q k).mpr ⟨hk, c.1, c.2⟩
      have hF := hC.2.2.2.2.1 q
      have h1 := dpt_lt hF.1 (hI.2.2.1 q).1 hin
      have h2 := @mxd_le g q k (fun j hj hw => (hI.2.2.2.1 q j).mpr ⟨by omega, hw.1, hw.2⟩)
      have h3 := @ht_len (aF g q)
      have h4 := len40 hF.1 (hI.2.2.1 q).1
      rw [if_pos ((quI hI hC hk hq).mpr c), if_pos c, ancestors_ok hF.1 hF.2 (hI.2.2.1 q).1 hin, Option.bind_some, one_nI, nI_max (by omega) (by omega)]
    · rw [if_neg (fun h => c ((quI hI hC hk hq).mp h)), if_neg c]
  · show f_X7_longestPath_h4 (n + 1) (nI q) (nI (mxd g q (aJ g))) (nI (aJ g)) v = _
    rw [f_X7_longestPath_h4, hC.1, if_pos (nI_le (Nat.le_refl _) (by omega))]
theorem heightFrom_ok {v : MV} : ∀ {t : Tr} {n : Nat}, sub (gM (MVSt v)) t → htT t < n → htT t ≤ 100 → f_X9_heightFrom n v (hv t) = some (nI (htT t)) := by
  intro t
  induction t with
  | leaf u =>
    intro n _ hn _
    obtain ⟨n, rfl⟩ : ∃ m, n = m + 1 := ⟨n - 1, by omega⟩
    rw [f_X9_heightFrom, if_pos hvl]
    rfl
  | branch i l r ihl ihr =>
    intro n hs hn hb
    obtain ⟨n, rfl⟩ : ∃ m, n = m + 1 := ⟨n - 1, by omega⟩
    obtain ⟨g1, g2, g3, g4, g5, g6, g7, g8⟩ := hs
    rw [htT] at hn hb
    rw [f_X9_heightFrom, show hv (.branch i l r) = nI i from rfl, if_neg (nI_m g1), get_5 g1, Option.bind_some, show jf (MVSt v) 5 i = hv l from g2, ihl g7 (by omega) (by omega), Option.bind_some, get_6 g1, Option.bind_some, show jf (MVSt v) 6 i = hv r from g3, ihr g8 (by omega) (by omega), Option.bind_some, nI_max (by omega) (by omega), one_nI, htT]
/-! what a merge costs -/
theorem cost_ok {v : HV} {pr : Nat → Nat} {l1 l2 : Int32} (hp : prOK v pr) : ∀ (N : Nat) {a b : Tr} {d n : Nat}, (nds a).length + (nds b).length ≤ N → d + N ≤ 40 → N < n → sub (gH v) a → sub (gH v) b → f_X0_comparisonsToMerge_h8 n l1 l2 (hv a) (hv b) (nI d) v = some (nI (d + (mg pr a b).2.1)) := by
  intro N
  induction N with
  | zero =>
    intro a b d n hN hd hn _ _
    obtain ⟨n, rfl⟩ : ∃ m, n = m + 1 := ⟨n - 1, by omega⟩
    cases a with
    | branch i la ra => simp [nds] at hN
    | leaf ua =>
      rw [mg_l, f_X0_comparisonsToMerge_h8, hvl, isNode_m, Option.bind_some, if_pos rfl]
      split <;> rfl
  | succ N ih =>
    intro a b d n hN hd hn sa sb
    obtain ⟨n, rfl⟩ : ∃ m, n = m + 1 := ⟨n - 1, by omega⟩
    rw [f_X0_comparisonsToMerge_h8, if_neg (l40 (by omega))]
    cases a with
    | leaf ua =>
      rw [mg_l, hvl, isNode_m, Option.bind_some, if_pos rfl]
      rfl
    | branch i la ra =>
      obtain ⟨g1, g2, g3, g4, g5, g6, g7, g8⟩ := id sa
      rw [show hv (.branch i la ra) = nI i from rfl, isNode_n g1, Option.bind_some, if_neg n10]
      cases b with
      | leaf ub =>
        rw [mg_r, hvl, isNode_m, Option.bind_some, if_pos rfl]
        rfl
      | branch j lb rb =>
        obtain ⟨k1, k2, k3, k4, k5, k6, k7, k8⟩ := id sb
        rw [show hv (.branch j lb rb) = nI j from rfl, isNode_n k1, Option.bind_some, if_neg n10, prec_ok g1 k1 hp, Option.bind_some]
        simp only [if_neg (o40 g1), if_neg (o40 k1), c40 g1, c40 k1]
        rw [nI_1]
        simp only [nds, List.length_cons, List.length_append] at hN
        cases e : prc pr i j with
        | true =>
          rw [if_pos rfl, if_neg n10, mg_1 e, show HVRt v i = hv ra from g3, show nI j = hv (.branch j lb rb) from rfl, ih (by simp only [nds, List.length_cons, List.length_append]; omega) (by omega) (by omega) g8 sb]
          congr 2
          show d + 1 + _ = d + (_ + 1)
          omega
        | false =>
          rw [if_neg Bool.false_ne_true, if_pos rfl, mg_2 e, show HVRt v j = hv rb from k3, show nI i = hv (.branch i la ra) from rfl, ih (by simp only [nds, List.length_cons, List.length_append]; omega) (by omega) (by omega) sa k8]
          congr 2
          show d + 1 + _ = d + (_ + 1)
          omega
theorem comparisonsToMerge_ok {v : HV} {pr : Nat → Nat} {a b : Tr} (sa : sub (gH v) a) (sb : sub (gH v) b) (na : (nds a).Nodup) (nb : (nds b).Nodup) (hab : dsj a b) (hp : prOK v pr) : f_X0_comparisonsToMerge v (hv a) (hv b) = some (nI (mg pr a b).2.1) := by
  have hlen : (nds a).length + (nds b).length ≤ 40 := by
    have h := nd_len (l := nds a ++ nds b) (List.nodup_append.mpr ⟨na, nb, fun x hx y hy e => hab x hx (e ▸ hy)⟩) (fun j hj => (List.mem_append.mp hj).elim (sub_lt sa j) (sub_lt sb j))
    rwa [List.length_append] at h
  have := cost_ok (l1 := hv a) (l2 := hv b) hp 40 (a := a) (b := b) (d := 0) (n := FU) hlen (by omega) (by decide) sa sb
  rw [Nat.zero_add] at this
  exact this
theorem rk_fix {i : Nat} {l m : Tr} : rkT (fixT i l m) = 1 + min (rkT l) (rkT m) := by
  unfold fixT
  split
  · rw [rkT]; omega
  · rw [rkT]; omega
theorem rkm_ok {pr : Nat → Nat} {l1 l2 : Int32} : ∀ (N : Nat) {a b : Tr} {d n : Nat} {v : HV}, (nds a).length + (nds b).length ≤ N → d + N ≤ 40 → N < n → sub (gH v) a → sub (gH v) b → prOK v pr →
    ∃ P, (∀ k, k < d → P k = HVPa v k) ∧ f_X0_rankOfMerged_h8 n l1 l2 (hv a) (hv b) (nI d) v = f_X0_rankOfMerged_h117 (FU - (mg pr a b).2.1) (nI (d + (mg pr a b).2.1)) (nI (rkT (mg pr a b).1)) (ix d) (HV_sPa v P) := by
  have base : ∀ {a b : Tr} {d : Nat} {v : HV}, sub (gH v) a → sub (gH v) b → (a = .leaf () ∨ b = .leaf ()) → f_X0_rankOfMerged_j92 (hv a) (hv b) (nI d) v = f_X0_rankOfMerged_h117 FU (nI d) (nI (rkT (mg pr a b).1)) (ix d) (HV_sPa v (HVPa v)) := by
    intro a b d v sa sb h
    unfold f_X0_rankOfMerged_j92 f_X0_rankOfMerged_j106
    cases a with
    | leaf ua =>
      rw [hvl, isNode_m, Option.bind_some, if_pos rfl, rankOf_t sb, Option.bind_some, mg_l, ix_sub]
      rfl
    | branch i la ra =>
      have hb : b = .leaf () := h.resolve_left (fun e => by cases e)
      subst hb
      rw [show hv (.branch i la ra) = nI i from rfl, isNode_n sa.1, Option.bind_some, if_neg n10, show nI i = hv (.branch i la ra) from rfl, rankOf_t sa, Option.bind_some, mg_r, ix_sub]
      rfl
  intro N
  induction N with
  | zero =>
    intro a b d n v hN hd hn sa sb hp
    obtain ⟨n, rfl⟩ : ∃ m, n = m + 1 := ⟨n - 1, by omega⟩
    cases a with
    | branch i la ra => simp [nds] at hN
    | leaf ua =>
      refine ⟨HVPa v, fun _ _ => rfl, ?_⟩
      have hb := base (d := d) sa sb (Or.inl rfl)
      rw [mg_l] at hb ⊢
      rw [f_X0_rankOfMerged_h8, hvl, isNode_m, Option.bind_some, if_pos rfl]
      rw [hvl] at hb
      split
      · exact hb
      · exact hb
  | succ N ih =>
    intro a b d n v hN hd hn sa sb hp
    obtain ⟨n, rfl⟩ : ∃ m, n = m + 1 := ⟨n - 1, by omega⟩
    rw [f_X0_rankOfMerged_h8, if_neg (l40 (by omega))]
    have d40 : d < 40 := by omega
    cases a with
    | leaf ua =>
      refine ⟨HVPa v, fun _ _ => rfl, ?_⟩
      have hb := base (d := d) sa sb (Or.inl rfl)
      rw [mg_l] at hb ⊢
      rw [hvl, isNode_m, Option.bind_some, if_pos rfl]
      rw [hvl] at hb
      exact hb
    | branch i la ra =>
      obtain ⟨g1, g2, g3, g4, g5, g6, g7, g8⟩ := id sa
      cases b with
      | leaf ub =>
        refine ⟨HVPa v, fun _ _ => rfl, ?_⟩
        have hb := base (d := d) sa sb (Or.inr rfl)
        rw [mg_r] at hb ⊢
        rw [show hv (.branch i la ra) = nI i from rfl, isNode_n g1, Option.bind_some, if_neg n10, hvl, isNode_m, Option.bind_some, if_pos rfl]
        rw [show hv (.branch i la ra) = nI i from rfl, hvl] at hb
        exact hb
      | branch j lb rb =>
        obtain ⟨k1, k2, k3, k4, k5, k6, k7, k8⟩ := id sb
        rw [show hv (.branch i la ra) = nI i from rfl, isNode_n g1, Option.bind_some, if_neg n10, show hv (.branch j lb rb) = nI j from rfl, isNode_n k1, Option.bind_some, if_neg n10, prec_ok g1 k1 hp, Option.bind_some]
        simp only [if_neg (o40 g1), if_neg (o40 k1), if_neg (o40 d40), c40 g1, c40 k1, c40 d40]
        rw [nI_1]
        simp only [nds, List.length_cons, List.length_append] at hN
        have hrk : ∀ {t : Tr}, sub (gH v) t → rkT t ≤ (nds t).length := fun _ => rk_len
        have fin : ∀ {w : Nat} {l m : Tr} {c : Nat} {P : Nat → Int32}, sub (gH v) l → rkT l < 1000 → rkT m < 1000 → c < FU → P d = hv l → f_X0_rankOfMerged_h117 (FU - c) (nI (d + 1 + c)) (nI (rkT m)) (ix (d + 1)) (HV_sPa v P) = f_X0_rankOfMerged_h117 (FU - (c + 1)) (nI (d + (c + 1))) (nI (rkT (fixT w l m))) (ix d) (HV_sPa v P) := by
          intro w l m c P sl hl hm hc hP
          rw [show FU - c = (FU - (c + 1)) + 1 by omega, f_X0_rankOfMerged_h117, show ix (d + 1) = nI d from rfl, if_neg (p40 d40)]
          simp only [if_neg (o40 d40), c40 d40]
          rw [show HVPa (HV_sPa v P) d = hv l from hP, rankOf_t (v := HV_sPa v P) sl, Option.bind_some, nI_min hl hm, one_nI, ix_dec, rk_fix, show d + 1 + c = d + (c + 1) by omega]
        cases e : prc pr i j with
        | true =>
          rw [if_pos rfl, if_neg n10, mg_1 e, show HVRt v i = hv ra from g3, show HVLf v i = hv la from g2, show nI j = hv (.branch j lb rb) from rfl]
          obtain ⟨P, h1, h2⟩ := @ih ra (.branch j lb rb) (d + 1) n (HV_sPa v (upd (HVPa v) d (hv la))) (by simp only [nds, List.length_cons, List.length_append]; omega) (by omega) (by omega) g8 sb hp
          have b1 := @rk_len la
          have b2 := @rk_len (mg pr ra (.branch j lb rb)).1
          have b3 := (@nds_mg pr ra (.branch j lb rb)).length_eq
          have b4 := @cc_le pr ra (.branch j lb rb)
          simp only [nds, List.length_cons, List.length_append] at b3 b4
          refine ⟨P, fun k hk => ?_, ?_⟩
          · rw [h1 k (by omega)]
            exact upd_ne (by omega)
          · rw [h2]
            exact fin g7 (by omega) (by omega) (by have : FU = 5000 := rfl; omega) (by rw [h1 d (by omega)]; exact upd_eq)
        | false =>
          rw [if_neg Bool.false_ne_true, if_pos rfl, mg_2 e, show HVRt v j = hv rb from k3, show HVLf v j = hv lb from k2, show nI i = hv (.branch i la ra) from rfl]
          obtain ⟨P, h1, h2⟩ := @ih (.branch i la ra) rb (d + 1) n (HV_sPa v (upd (HVPa v) d (hv lb))) (by simp only [nds, List.length_cons, List.length_append]; omega) (by omega) (by omega) sa k8 hp
          have b1 := @rk_len lb
          have b2 := @rk_len (mg pr (.branch i la ra) rb).1
          have b3 := (@nds_mg pr (.branch i la ra) rb).length_eq
          have b4 := @cc_le pr (.branch i la ra) rb
          simp only [nds, List.length_cons, List.length_append] at b3 b4
          refine ⟨P, fun k hk => ?_, ?_⟩
          · rw [h1 k (by omega)]
            exact upd_ne (by omega)
          · rw [h2]
            exact fin k7 (by omega) (by omega) (by have : FU = 5000 := rfl; omega) (by rw [h1 d (by omega)]; exact upd_eq)
theorem rankOfMerged_ok {v : HV} {pr : Nat → Nat} {a b : Tr} (sa : sub (gH v) a) (sb : sub (gH v) b) (na : (nds a).Nodup) (nb : (nds b).Nodup) (hab : dsj a b) (hp : prOK v pr) : ∃ P, f_X0_rankOfMerged v (hv a) (hv b) = some (nI (rkT (mg pr a b).1), HV_sPa v P) := by
  have hlen : (nds a).length + (nds b).length ≤ 40 := by
    have h := nd_len (l := nds a ++ nds b) (List.nodup_append.mpr ⟨na, nb, fun x hx y hy e => hab x hx (e ▸ hy)⟩) (fun j hj => (List.mem_append.mp hj).elim (sub_lt sa j) (sub_lt sb j))
    rwa [List.length_append] at h
  obtain ⟨P, -, h2⟩ := rkm_ok (l1 := hv a) (l2 := hv b) 40 (a := a) (b := b) (d := 0) (n := FU) (v := v) hlen (by omega) (by decide) sa sb hp
  refine ⟨P, ?_⟩
  have b4 := @cc_le pr a b
  have h3 : f_X0_rankOfMerged v (hv a) (hv b) = _ := h2
  rw [h3, show FU - (mg pr a b).2.1 = (FU - (mg pr a b).2.1 - 1) + 1 by have : FU = 5000 := rfl; omega, f_X0_rankOfMerged_h117, show ix 0 = -1 from rfl, if_pos m1]
