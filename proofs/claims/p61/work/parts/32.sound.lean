/-! ===== 32: the heaps are sound, on both sides ===== -/
theorem pl_root : ∀ {K : Ctx} {t : Tr}, K ≠ [] → ∃ j ∈ cNds K, hv (plT K t) = nI j := by
  intro K
  induction K with
  | nil => intro t h; exact absurd rfl h
  | cons f K ih =>
    obtain ⟨b, j, s⟩ := f
    intro t _
    by_cases e : K = []
    · subst e
      refine ⟨j, by simp [cNds], ?_⟩
      cases b <;> rfl
    · cases b with
      | true =>
        obtain ⟨x, h1, h2⟩ := @ih (.branch j t s) e
        exact ⟨x, by simp [cNds, h1], h2⟩
      | false =>
        obtain ⟨x, h1, h2⟩ := @ih (.branch j s t) e
        exact ⟨x, by simp [cNds, h1], h2⟩
/-- all about a job in its heap -/
theorem node_info {G : HG} {pr : Nat → Nat} {t : Tr} {i : Nat} (hs : sub G t) (hu : upK G t (-1)) (hn : (nds t).Nodup) (hl : lft t) (hh : hpo pr t) (hi : i ∈ nds t) :
    ∃ l r, sub G (.branch i l r) ∧ rkT r ≤ rkT l ∧ rkT l ≤ 40 ∧ (∀ k, k ∈ nds l ∨ k ∈ nds r → k ∈ nds t) ∧ ((gU G i = -1 ∧ hv t = nI i) ∨ (∃ j, j ∈ nds t ∧ gU G i = nI j ∧ (gL G j = nI i ∨ gR G j = nI i) ∧ prc pr j i = true ∧ hv t ≠ nI i)) := by
  have e := zp_pl (K := []) hi
  have hpp := @pl_perm (zp i t []).1 (.branch i (zp i t []).2.1 (zp i t []).2.2)
  obtain ⟨h1, h2⟩ := ctx_of hs hu hi
  have hmem := fun k => @zp_mem i k t hi
  generalize (zp i t []).1 = K at *
  generalize (zp i t []).2.1 = l at *
  generalize (zp i t []).2.2 = r at *
  have et : plT K (.branch i l r) = t := e
  rw [et] at hpp
  obtain ⟨k1, -, -⟩ := sub_pl (G := G) (K := K) (t := .branch i l r) (by rw [et]; exact hs) (by rw [et]; exact hu)
  have kl := (@rm_lft K (.branch i l r) (by rw [et]; exact hl)).2
  have hn2 := hpp.nodup_iff.mp hn
  have hn3 := List.nodup_append.mp hn2
  have hb := nd_br hn3.1
  have hlen := nd_len hb.2.2.2.1 (sub_lt k1.2.2.2.2.2.2.1)
  have hrk := @rk_len l
  refine ⟨l, r, k1, kl.1, by omega, hmem, ?_⟩
  cases K with
  | nil => exact Or.inl ⟨h1, by rw [← et]; rfl⟩
  | cons f K =>
    obtain ⟨b, j, s⟩ := f
    obtain ⟨y1, y2, y3, y4, y5, y6, y7⟩ := h2
    have hj : j ∈ nds t := hpp.mem_iff.mpr (List.mem_append_right _ (by simp [cNds]))
    refine Or.inr ⟨j, hj, h1, ?_, ?_, fun hv1 => ?_⟩
    · cases b with
      | true => rw [if_pos rfl] at y2; exact Or.inl y2
      | false => rw [if_neg Bool.false_ne_true] at y3; exact Or.inr y3
    · cases b with
      | true =>
        have kh := (@rm_hpo pr K (.branch j (.branch i l r) s) (by rw [show plT K (.branch j (.branch i l r) s) = t from et]; exact hh)).2
        exact kh.1 i (Or.inl (by simp [nds]))
      | false =>
        have kh := (@rm_hpo pr K (.branch j s (.branch i l r)) (by rw [show plT K (.branch j s (.branch i l r)) = t from et]; exact hh)).2
        exact kh.1 i (Or.inr (by simp [nds]))
    · obtain ⟨x, x1, x2⟩ := @pl_root ((b, j, s) :: K) (.branch i l r) (by simp)
      rw [et, hv1] at x2
      have i40 := k1.1
      have x40 : x < 40 := sub_lt hs x (hpp.mem_iff.mpr (List.mem_append_right _ x1))
      have : x = i := ((nI_eq (by omega) (by omega)).mp x2).symm
      subst this
      exact hn3.2.2 x (by simp [nds]) x x1 rfl
theorem isChildOf_t {v : HV} {t : Tr} {i : Nat} (h : ∀ j ∈ nds t, j < 40) (hu : upK (gH v) t (nI i)) : f_X0_isChildOf v (hv t) (nI i) = some 1 := by
  unfold f_X0_isChildOf
  cases t with
  | leaf u => rw [hvl, isNode_m, Option.bind_some, if_pos rfl]
  | branch j l r =>
    have hj := h j (by simp [nds])
    rw [show hv (.branch j l r) = nI j from rfl, isNode_n hj, Option.bind_some, if_neg n10]
    simp only [if_neg (o40 hj), c40 hj]
    rw [if_pos (show HVUp v j = nI i from hu)]
theorem x0sound {u : GU} {g : GS} {v : SV} (hI : GI u g) (hC : CS g v) {i : Nat} (hi : i < aJ g) (hf : aFt g i = 0) : f_X0_isSound (SVH v) (nI i) = some 1 := by
  have hJ := hI.1
  have i40 : i < 40 := by omega
  have hF := hC.2.2.2.2.1 (aQu g i)
  have hT := hI.2.2.1 (aQu g i)
  obtain ⟨l, r, s1, s2, s3, s4, s5⟩ := node_info hF.1 hF.2 hT.1 hT.2.1 hT.2.2 (hI.inn hi hf)
  obtain ⟨g1, g2, g3, g4, g5, g6, g7, g8⟩ := s1
  have hprec : f_X0_precedes (SVH v) (nI i) (HVUp (SVH v) i) = some 0 := by
    rcases s5 with ⟨e, -⟩ | ⟨j, h1, h2, h3, h4, h5⟩
    · rw [show HVUp (SVH v) i = -1 from e]
      unfold f_X0_precedes
      rw [isNode_n i40, Option.bind_some, if_neg n10, isNode_m, Option.bind_some, if_pos rfl]
    · rw [show HVUp (SVH v) i = nI j from h2, prec_ij hI hC hi (hI.lt h1), prc_asym h4, if_neg Bool.false_ne_true]
  unfold f_X0_isSound
  rw [isNode_n i40, Option.bind_some, if_neg n10]
  simp only [if_neg (o40 i40), c40 i40]
  rw [hprec, Option.bind_some, if_pos rfl, show HVLf (SVH v) i = hv l from g2, show HVRt (SVH v) i = hv r from g3, isChildOf_t (sub_lt g7) g5, Option.bind_some, if_neg n10, isChildOf_t (sub_lt g8) g6, Option.bind_some, if_neg n10, rankOf_t g7, Option.bind_some, rankOf_t g8, Option.bind_some, if_neg (nI_nlt s2 (by omega)), Option.bind_some, show HVRk (SVH v) i = nI (1 + rkT r) from g4, one_nI, if_pos rfl]
  rcases s5 with ⟨e, -⟩ | ⟨j, h1, h2, h3, h4, h5⟩
  · rw [show HVUp (SVH v) i = -1 from e, isNode_m, Option.bind_some, if_pos rfl]
  · have j40 := sub_lt hF.1 j h1
    rw [show HVUp (SVH v) i = nI j from h2, isNode_n j40, Option.bind_some, if_neg n10]
    simp only [if_neg (o40 j40), c40 j40]
    by_cases c : HVLf (SVH v) j = nI i
    · rw [if_pos c]
    · rw [if_neg c, if_pos (show HVRt (SVH v) j = nI i from h3.resolve_left c)]
theorem sound_job {u : GU} {g : GS} {v : SV} (hI : GI u g) (hC : CS g v) {i : Nat} (hi : i < aJ g) : f_X7_isSound v (nI i) = some 1 := by
  have hJ := hI.1
  have i40 : i < 40 := by omega
  have h5 := hI.2.2.2.2.1 i hi
  obtain ⟨e1, e2, e3, e4, e5, e6⟩ := hC.2.1 i hi
  unfold f_X7_isSound
  rw [waits_ok hI hC hi]
  simp only [if_neg (o40 i40), c40 i40]
  by_cases hf : aFt g i = 0
  · rw [if_pos hf] at e5
    have hq := q6 hI hi hf
    have hF := hC.2.2.2.2.1 (aQu g i)
    have hT := hI.2.2.1 (aQu g i)
    obtain ⟨l, r, s1, s2, s3, s4, s5⟩ := node_info hF.1 hF.2 hT.1 hT.2.1 hT.2.2 (hI.inn hi hf)
    rw [if_pos hf, Option.bind_some, if_neg n10, e5]
    simp only [if_neg (o6 hq), c6 hq]
    rw [(hC.2.2.2.1 _ hq).1, x0sound hI hC hi hf, Option.bind_some, Option.bind_some, if_neg n10, if_neg n10]
    rcases s5 with ⟨e, e'⟩ | ⟨j, h1, h2, h3, h4, h5⟩
    · rw [if_pos e', if_pos (show HVUp (SVH v) i = -1 from e)]
    · rw [if_neg h5, if_neg (show ¬ HVUp (SVH v) i = -1 by rw [show HVUp (SVH v) i = nI j from h2]; exact nI_m (sub_lt hF.1 j h1))]
  · rw [if_neg hf] at e5
    obtain ⟨o1, o2, o3, o4⟩ := e6 hf
    have hout : f_X0_isOutside (SVH v) (nI i) = some 1 := by
      unfold f_X0_isOutside
      rw [isNode_n i40, Option.bind_some, if_neg n10]
      simp only [if_neg (o40 i40), c40 i40]
      rw [if_pos (show HVLf (SVH v) i = -1 from o1), if_pos (show HVRt (SVH v) i = -1 from o2), if_pos (show HVUp (SVH v) i = -1 from o3), if_pos (show HVRk (SVH v) i = 0 from o4)]
    rw [if_neg hf, Option.bind_some, if_pos rfl, e4, e5, hout, Option.bind_some, if_pos rfl, if_neg n10]
    have : aFt g i = 1 ∨ aFt g i = 2 := by omega
    rcases this with c | c
    · rw [c, if_pos (show nI 1 = 1 from rfl)]
    · rw [c, if_neg (show ¬ nI 2 = 1 by decide), if_pos (show nI 2 = 2 from rfl)]
theorem isLinked_ok {u : GU} {g : GS} {v : MV} (hI : GI u g) (hM : MS u g (MVSt v)) {i : Nat} {t : Tr} (hi : i < aJ g) (hf : aFt g i = 0) (hs : ∀ k, k ∈ nds t → k ∈ nds (aF g (aQu g i))) (hu : upK (gM (MVSt v)) t (nI i)) : f_X9_isLinked v (nI i) (hv t) = some 1 := by
  have hJ := hI.1
  unfold f_X9_isLinked
  cases t with
  | leaf u => rw [if_pos hvl]
  | branch j l r =>
    have hj := hs j (by simp [nds])
    have hj2 := (hI.2.2.2.1 _ j).mp hj
    rw [show hv (.branch j l r) = nI j from rfl, if_neg (nI_m (by omega)), mwaits_ok hI hM hj2.1, if_pos hj2.2.1, Option.bind_some, if_neg n10, get_7 (by omega), Option.bind_some, if_pos (show jf (MVSt v) 7 j = nI i from hu), get_4 (by omega), Option.bind_some, get_4 (by omega), Option.bind_some, (hM.2.1 j hj2.1).2.2.2.2.1 hj2.2.1, (hM.2.1 i hi).2.2.2.2.1 hf, hj2.2.2, if_pos rfl]
theorem isNodeConsistent_ok {u : GU} {g : GS} {v : MV} (hI : GI u g) (hM : MS u g (MVSt v)) {i : Nat} (hi : i < aJ g) (hf : aFt g i = 0) : f_X9_isNodeConsistent v (nI i) = some 1 := by
  have hJ := hI.1
  have i40 : i < 40 := by omega
  have hF := hM.2.2.2.2.1 (aQu g i)
  have hT := hI.2.2.1 (aQu g i)
  obtain ⟨l, r, s1, s2, s3, s4, s5⟩ := node_info hF.1 hF.2 hT.1 hT.2.1 hT.2.2 (hI.inn hi hf)
  obtain ⟨g1, g2, g3, g4, g5, g6, g7, g8⟩ := s1
  unfold f_X9_isNodeConsistent
  rw [get_5 i40, Option.bind_some, get_6 i40, Option.bind_some, get_7 i40, Option.bind_some, show jf (MVSt v) 5 i = hv l from g2, show jf (MVSt v) 6 i = hv r from g3, mrank_t g7, mrank_t g8, get_8 i40, show jf (MVSt v) 8 i = nI (1 + rkT r) from g4, isLinked_ok hI hM hi hf (fun k hk => s4 k (Or.inl hk)) g5, isLinked_ok hI hM hi hf (fun k hk => s4 k (Or.inr hk)) g6]
  simp only [Option.bind_some, if_neg (nI_nlt s2 (show rkT l < 2 ^ 31 by omega)), one_nI, if_neg n10, if_true]
  rcases s5 with ⟨e, e'⟩ | ⟨j, h1, h2, h3, h4, h5⟩
  · rw [if_pos (show jf (MVSt v) 7 i = -1 from e)]
  · rw [if_neg (show ¬ jf (MVSt v) 7 i = -1 by rw [show jf (MVSt v) 7 i = nI j from h2]; exact nI_m (sub_lt hF.1 j h1)), show jf (MVSt v) 7 i = nI j from h2, mprec_ij hI hM hi (hI.lt h1), prc_asym h4, if_neg Bool.false_ne_true, Option.bind_some, if_pos rfl]
/-! counting the heaps -/
theorem cnt_filter {P : Nat → Bool} : ∀ {n : Nat}, cnt P n = ((List.range n).filter P).length
  | 0 => rfl
  | n + 1 => by
    rw [cnt, cnt_filter, List.range_succ, List.filter_append, List.length_append]
    congr 1
    cases e : P n <;> simp [e]
theorem cnt_list {P : Nat → Bool} {n : Nat} {L : List Nat} (hn : L.Nodup) (h : ∀ k, k ∈ L ↔ (k < n ∧ P k = true)) : L.length = cnt P n := by
  rw [cnt_filter]
  refine List.Perm.length_eq ((List.perm_ext_iff_of_nodup hn (List.Nodup.sublist List.filter_sublist List.nodup_range)).mpr (fun k => ?_))
  rw [h k, List.mem_filter, List.mem_range]
theorem siz_len {u : GU} {g : GS} (hI : GI u g) {q : Nat} : (nds (aF g q)).length = sizN g q :=
  cnt_list (hI.2.2.1 q).1 (fun k => by rw [hI.2.2.2.1 q k, wB_iff])
theorem countFrom_ok {v : MV} : ∀ {t : Tr} {n : Nat}, sub (gM (MVSt v)) t → htT t < n → f_X9_countFrom n v (hv t) = some (nI (nds t).length) := by
  intro t
  induction t with
  | leaf u =>
    intro n _ hn
    obtain ⟨n, rfl⟩ : ∃ m, n = m + 1 := ⟨n - 1, by omega⟩
    rw [f_X9_countFrom, if_pos hvl]
    rfl
  | branch i l r ihl ihr =>
    intro n hs hn
    obtain ⟨n, rfl⟩ : ∃ m, n = m + 1 := ⟨n - 1, by omega⟩
    obtain ⟨g1, g2, g3, g4, g5, g6, g7, g8⟩ := hs
    rw [htT] at hn
    rw [f_X9_countFrom, show hv (.branch i l r) = nI i from rfl, if_neg (nI_m g1), get_5 g1, Option.bind_some, show jf (MVSt v) 5 i = hv l from g2, ihl g7 (by omega), Option.bind_some, get_6 g1, Option.bind_some, show jf (MVSt v) 6 i = hv r from g3, ihr g8 (by omega), Option.bind_some, one_nI, nI_add]
    congr 2
    simp only [nds, List.length_cons, List.length_append]
    omega
def totN (g : GS) (n : Nat) : Nat → Nat
  | 0 => 0
  | q + 1 => totN g n q + cnt (wB g q) n
theorem tot_step {g : GS} {n : Nat} : ∀ {Q : Nat}, totN g (n + 1) Q = totN g n Q + (if aFt g n = 0 ∧ aQu g n < Q then 1 else 0)
  | 0 => by rw [totN, totN, if_neg (fun h => Nat.not_lt_zero _ h.2)]
  | Q + 1 => by
    rw [totN, totN, tot_step, cnt]
    by_cases hf : aFt g n = 0
    · by_cases c : aQu g n = Q
      · rw [if_neg (fun h => by omega), if_pos (wB_iff.mpr ⟨hf, c⟩), if_pos ⟨hf, by omega⟩]
        omega
      · rw [if_neg (fun h => c (wB_iff.mp h).2)]
        by_cases c2 : aQu g n < Q
        · rw [if_pos ⟨hf, c2⟩, if_pos ⟨hf, by omega⟩]; omega
        · rw [if_neg (fun h => c2 h.2), if_neg (fun h => by omega)]; omega
    · rw [if_neg (fun h => hf h.1), if_neg (fun h => hf (wB_iff.mp h).1), if_neg (fun h => hf h.1)]; omega
theorem tot_all {g : GS} {Q : Nat} : ∀ {n : Nat}, (∀ k, k < n → aFt g k = 0 → aQu g k < Q) → totN g n Q = cnt (fun k => decide (aFt g k = 0)) n
  | 0, _ => by
    rw [cnt]
    induction Q with
    | zero => rfl
    | succ Q ih => rw [totN, ih (fun k hk => absurd hk (Nat.not_lt_zero _))]; rfl
  | n + 1, h => by
    rw [tot_step, cnt, tot_all (fun k hk => h k (by omega))]
    by_cases hf : aFt g n = 0
    · rw [if_pos ⟨hf, h n (by omega) hf⟩, if_pos (decide_eq_true_iff.mpr hf)]
    · rw [if_neg (fun h => hf h.1), if_neg (fun h => hf (decide_eq_true_iff.mp h))]
theorem gWt_n {u : GU} {g : GS} (hI : GI u g) : gWt g = nI (totN g (aJ g) (uQ u)) := by
  rw [tot_all (fun k hk hf => (hI.2.2.2.2.1 k hk).1 hf), ← sm_cnt]
  refine sm_congr (fun k _ => ?_)
  by_cases c : aFt g k = 0
  · rw [if_pos c, if_pos (decide_eq_true_iff.mpr c)]
  · rw [if_neg c, if_neg (fun h => c (decide_eq_true_iff.mp h))]
theorem cl0 : Int32.toNatClampNeg 0 = 0 := by decide
theorem o0 : ¬ oob 0 500 := by decide
theorem areHeapsWhole_ok {u : GU} {g : GS} {v : MV} (hI : GI u g) (hM : MS u g (MVSt v)) : f_X9_areHeapsWhole v = some 1 := by
  have hJ := hI.1
  have hQ := hI.2.1.2
  refine loop_acc (L := fun n a k => f_X9_areHeapsWhole_h4 n a k v) (A := fun k => nI (totN g (aJ g) k)) (J := uQ u) (fun n k hk => ?_) (fun n => ?_) (uQ u - 0) FU 0 rfl (by have : FU = 5000 := rfl; omega) (Nat.zero_le _)
  · show f_X9_areHeapsWhole_h4 (n + 1) (nI (totN g (aJ g) k)) (nI k) v = f_X9_areHeapsWhole_h4 n (nI (totN g (aJ g) (k + 1))) (nI (k + 1)) v
    have hF := hM.2.2.2.2.1 k
    have h1 := @ht_len (aF g k)
    have h2 := len40 hF.1 (hI.2.2.1 k).1
    rw [f_X9_areHeapsWhole_h4]
    simp only [if_neg o0, cl0]
    rw [hM.1.1, if_neg (nI_ge hk (by omega)), rootOf_ok (by omega), Option.bind_some, (hM.2.2.2.1 k hk).1, countFrom_ok hF.1 (by omega), Option.bind_some, sizeOf_ok hI hM (by omega), Option.bind_some, gSz_n, siz_len hI, if_pos rfl, nI_add, nI_1]
    rfl
  · show f_X9_areHeapsWhole_h4 (n + 1) (nI (totN g (aJ g) (uQ u))) (nI (uQ u)) v = some 1
    rw [f_X9_areHeapsWhole_h4]
    simp only [if_neg o0, cl0]
    rw [hM.1.1, if_pos (nI_le (Nat.le_refl _) (by omega)), mwaitingCount_ok hI hM, Option.bind_some, gWt_n hI, if_pos rfl]
