/-! ===== 60: a constructor is called: the world grows ===== -/
def grow (AH : List AC) (ι δ : List Nat) (W2 : List AC) : List AC :=
  putB AH ι ((W2.take ι.length).map (rnE (iof ι δ AH.length))) ++ (W2.drop ι.length).map (rnE (iof ι δ AH.length))
def adG (ad ads : Nat → Nat) (n a m : Nat) : Nat → Nat := fun j => if n ≤ j ∧ j < n + m then ads (a + (j - n)) else ad j
section GROW
variable {s : State} {D : va_G} {cA : Nat → ClassId} {A : Nat → Prop} {n0 : Nat} {ad0 ad ads : Nat → Nat} {AH AHs W2 : List AC} {ι δ : List Nat} {H H1 : Heap} {locs : List Loc} {m : Nat}
theorem adG_old {n a j : Nat} (h : j < n ∨ n + m ≤ j) : adG ad ads n a m j = ad j := if_neg (by omega)
theorem adG_new {n a i : Nat} (h : i < m) : adG ad ads n a m (n + i) = ads (a + i) := by
  unfold adG
  rw [if_pos (by omega), show n + i - n = i by omega]
theorem iof_lt {n k : Nat} (h : k < ι.length) : iof ι δ n k = ι[k] := by
  unfold iof
  rw [show Nat.blt k ι.length = true from Nat.ble_eq_true_of_le h]
  simp [h]
theorem iof_mid {n k : Nat} (h : ι.length ≤ k) (h2 : k < SB) : iof ι δ n k = n + (k - ι.length) := by
  unfold iof
  rw [show Nat.blt k ι.length = false from blt_no (by omega), show Nat.blt k SB = true from Nat.ble_eq_true_of_le h2]
  rfl
theorem iof_hi {n k : Nat} (h : SD ≤ k) (h2 : ι.length ≤ SB) : iof ι δ n k = δ.getD (k - SD) k := by
  have hsd : SB ≤ SD := by unfold SD; omega
  unfold iof
  rw [show Nat.blt k ι.length = false from blt_no (by omega), show Nat.blt k SB = false from blt_no (by omega), show Nat.blt k SD = false from blt_no (by omega)]
  rfl
theorem adG_iof {n : Nat} (hι : ∀ i ∈ ι, i < n) (hδ : ∀ q ∈ δ, q < n ∨ SB ≤ q) (hnm : n + m ≤ SB) (hm : ι.length + m ≤ SB) (hag : ∀ k, k < ι.length ∨ SB ≤ k → ads k = ad (iof ι δ n k)) (k : Nat) (hk : k < ι.length + m ∨ SB ≤ k) : adG ad ads n ι.length m (iof ι δ n k) = ads k := by
  have hsd : SB ≤ SD := by unfold SD; omega
  by_cases c1 : k < ι.length
  · rw [hag k (Or.inl c1), adG_old]
    rw [iof_lt c1]
    exact Or.inl (hι _ (List.getElem_mem c1))
  · by_cases c2 : SB ≤ k
    · rw [hag k (Or.inr c2), adG_old]
      by_cases c3 : k < SD
      · rw [iof_sb c2 c3 (by omega)]
        exact Or.inr (by omega)
      · rw [iof_hi (by omega) (by omega)]
        by_cases c4 : k - SD < δ.length
        · have e : δ.getD (k - SD) k = δ[k - SD] := by simp [List.getD, c4]
          rw [e]
          rcases hδ _ (List.getElem_mem c4) with h | h
          · exact Or.inl h
          · exact Or.inr (by omega)
        · have e : δ.getD (k - SD) k = k := by simp [List.getD, List.getElem?_eq_none (show δ.length ≤ k - SD by omega)]
          rw [e]
          exact Or.inr (by omega)
    · rw [iof_mid (by omega) (by omega), adG_new (by omega), show ι.length + (k - ι.length) = k by omega]
theorem PK.lt (hk : PK ι δ AH AHs) : ∀ i ∈ ι, i < AH.length := by
  intro i hi
  obtain ⟨k, hk2⟩ := List.getElem?_of_mem hi
  have hkl : k < AHs.length := by rw [← hk.len]; exact (List.getElem?_eq_some_iff.mp hk2).1
  obtain ⟨j, g1, g2, g3⟩ := hk.at (List.getElem?_eq_getElem hkl)
  cases hk2.symm.trans g1
  exact (List.getElem?_eq_some_iff.mp g3).1
theorem grow_len (h : W2.length = ι.length + m) : (grow AH ι δ W2).length = AH.length + m := by
  unfold grow
  rw [List.length_append, putB_len, List.length_map, List.length_drop]
  omega
theorem grow_back (hk : PK ι δ AH AHs) (hl : W2.length = ι.length + m) (hδ : ∀ q ∈ δ, q < AH.length ∨ SB ≤ q) (hnm : AH.length + m ≤ SB) (hm : ι.length + m ≤ SB) (hag : ∀ k, k < ι.length ∨ SB ≤ k → ads k = ad (iof ι δ AH.length k))
    (hc0 : ∀ c ∈ AH, cloE AH.length c) (hc1 : ∀ c ∈ AHs, cloE AHs.length c) (hc2 : ∀ c ∈ W2, cloE W2.length c)
    (hP : va_P D vwCl (cw cA ad AH) H) (hD : va_D A (cw cA ad AH)) (hF : ∀ q, va_A (cw cA (fun k => ad (iof ι δ AH.length k)) AHs) H.size q → A q)
    (hkeep : ∀ q : Nat, q < H.size → ¬ va_A (cw cA (fun k => ad (iof ι δ AH.length k)) AHs) H.size q → H1[q]? = H[q]?)
    (hP1 : va_P D vwCl (cw cA ads W2) H1) (hD1 : va_D (va_A (cw cA (fun k => ad (iof ι δ AH.length k)) AHs) H.size) (cw cA ads W2)) :
    va_P D vwCl (cw cA (adG ad ads AH.length ι.length m) (grow AH ι δ W2)) H1 ∧ va_D A (cw cA (adG ad ads AH.length ι.length m) (grow AH ι δ W2)) := by
  have hι := hk.lt
  have hlen := hk.len
  have hb := adG_iof (ad := ad) (ads := ads) (m := m) hι hδ hnm hm hag
  have eA : cw cA (adG ad ads AH.length ι.length m) AH = cw cA ad AH := cw_cong (Nat.le_refl _) (fun k h => adG_old (h.imp id fun h => by omega)) hc0
  have eS : cw cA (fun k => adG ad ads AH.length ι.length m (iof ι δ AH.length k)) AHs = cw cA (fun k => ad (iof ι δ AH.length k)) AHs :=
    cw_cong (Nat.le_refl _) (fun k h => by
      have h' : k < ι.length ∨ SB ≤ k := by rw [hlen]; exact h
      show adG ad ads AH.length ι.length m (iof ι δ AH.length k) = ad (iof ι δ AH.length k)
      rw [hb k (h'.imp (fun h => by omega) id), hag k h']) hc1
  have eC : ∀ c ∈ W2, cvE cA (fun k => adG ad ads AH.length ι.length m (iof ι δ AH.length k)) c = cvE cA ads c := fun c hc =>
    cvE_cong (fun k h => hb k (by rw [← hl]; exact h)) (hc2 c hc)
  -- the old places
  have hP' : va_P D vwCl (cw cA (fun k => adG ad ads AH.length ι.length m (iof ι δ AH.length k)) (W2.take ι.length)) H1 := by
    intro k q hq
    obtain ⟨c, g1, rfl⟩ := cw_inv hq
    rw [List.getElem?_take] at g1
    split at g1
    · rename_i hkl
      have h2 := hP1 k _ (cw_at g1)
      rw [eC c (List.mem_of_getElem? g1)]
      show va_at D vwCl (adG ad ads AH.length ι.length m (iof ι δ AH.length k), _) H1
      rw [hb k (Or.inl (by omega))]
      exact h2
    · cases g1
  have hOld : va_P D vwCl (cw cA (adG ad ads AH.length ι.length m) (putB AH ι ((W2.take ι.length).map (rnE (iof ι δ AH.length))))) H1 :=
    pk_back (H := H) hk (by rw [List.length_take]; omega) (by rw [eA]; exact hP) (by rw [eA]; exact hD) (by rw [eS]; exact hkeep) hP'
  -- a place of the grown world
  have at' : ∀ (j : Nat) (q : Nat × va_E), (cw cA (adG ad ads AH.length ι.length m) (grow AH ι δ W2))[j]? = some q →
      (j < AH.length ∧ q.1 = ad j ∧ ∃ e, (cw cA ad AH)[j]? = some (q.1, e)) ∨ (∃ i c, i < m ∧ j = AH.length + i ∧ W2[ι.length + i]? = some c ∧ q = (ads (ι.length + i), cvE cA ads c)) := by
    intro j q hq
    obtain ⟨c, g1, rfl⟩ := cw_inv hq
    have hjl : j < AH.length + m := by
      have := (List.getElem?_eq_some_iff.mp g1).1
      rw [grow_len hl] at this
      exact this
    by_cases hj : j < AH.length
    · refine Or.inl ⟨hj, adG_old (Or.inl hj), cvE cA ad AH[j], ?_⟩
      rw [cw_at (List.getElem?_eq_getElem hj)]
      show some (ad j, _) = some (adG ad ads AH.length ι.length m j, _)
      rw [adG_old (Or.inl hj)]
    · obtain ⟨i, rfl⟩ : ∃ i, j = AH.length + i := ⟨j - AH.length, by omega⟩
      have hi : i < m := by omega
      have hiW : ι.length + i < W2.length := by omega
      unfold grow at g1
      rw [List.getElem?_append_right (by rw [putB_len]; omega), putB_len, show AH.length + i - AH.length = i by omega, List.getElem?_map, List.getElem?_drop, List.getElem?_eq_getElem hiW] at g1
      have e9 := Option.some.inj g1
      subst e9
      refine Or.inr ⟨i, W2[ι.length + i], hi, rfl, List.getElem?_eq_getElem hiW, ?_⟩
      rw [adG_new hi, cvE_comp, eC _ (List.getElem_mem hiW)]
  refine ⟨fun j q hq => ?_, fun j j' p q hp hq e => ?_, fun j q hq => ?_⟩
  · by_cases hj : j < AH.length
    · obtain ⟨c, g1, rfl⟩ := cw_inv hq
      unfold grow at g1
      rw [List.getElem?_append_left (by rw [putB_len]; exact hj)] at g1
      exact hOld j _ (cw_at g1)
    · rcases at' j q hq with ⟨h, -, -⟩ | ⟨i, c, hi, rfl, hc, rfl⟩
      · exact absurd h hj
      · exact hP1 _ _ (cw_at hc)
  · have cross : ∀ {j : Nat} {a i : Nat} {e : va_E} {c : AC}, (cw cA ad AH)[j]? = some (a, e) → i < m → W2[ι.length + i]? = some c → a = ads (ι.length + i) → False := by
      intro j a i e c h1 hi hc ha
      have hlt := (hP j _ h1).lt
      dsimp only at hlt
      rcases hD1.2 _ _ (cw_at hc) with ⟨k, e', h⟩ | h
      · obtain ⟨c', g2, g7⟩ := cw_inv h
        have hkl : k < AHs.length := (List.getElem?_eq_some_iff.mp g2).1
        have hkW : k < W2.length := by omega
        have e1 : ads (ι.length + i) = ad (iof ι δ AH.length k) := congrArg Prod.fst g7
        rw [← hag k (Or.inl (by omega))] at e1
        have := hD1.1 _ k _ _ (cw_at hc) (cw_at (List.getElem?_eq_getElem hkW)) e1
        omega
      · dsimp only at h
        omega
    rcases at' j p hp with ⟨h1, h2, e1, h3⟩ | ⟨i, c, hi, rfl, hc, rfl⟩
    · rcases at' j' q hq with ⟨h1', h2', e1', h3'⟩ | ⟨i', c', hi', rfl, hc', rfl⟩
      · exact hD.1 j j' _ _ h3 h3' e
      · exact (cross h3 hi' hc' e).elim
    · rcases at' j' q hq with ⟨h1', h2', e1', h3'⟩ | ⟨i', c', hi', rfl, hc', rfl⟩
      · exact (cross h3' hi hc e.symm).elim
      · have := hD1.1 _ _ _ _ (cw_at hc) (cw_at hc') e
        omega
  · rcases at' j q hq with ⟨h1, h2, e1, h3⟩ | ⟨i, c, hi, rfl, hc, rfl⟩
    · exact hD.2 j (q.1, e1) h3
    · exact hF _ (hD1.2 _ _ (cw_at hc))
end GROW
/-- behind the call of a constructor -/
theorem after_init {p : Program} {l : Launch} {e : Env} {R : Room} {s : State} {m : MethodId} {args : Array Value} {below : List Frame} {meth : Method} {c : Code} {D : va_G} {cA : Nat → ClassId} {A : Nat → Prop} {n0 : Nat} {ad0 ad : Nat → Nat} {Q : State → Prop} {pc : Nat} {ls : List (Option Value)} {rest : List Value} {AH AHs W2 : List AC} {ι δ : List Nat} {nc ns mc ms k9 : Nat} {H : Heap} {locs : List Loc} {lsA : Array Slot} {st0 : List Value} {a : Array Value}
    (hA : ∀ q, s.heap.size ≤ q → A q) (h1 : AG n0 ad0 ad) (h2 : AH.length = n0 → ad = ad0) (h3 : n0 ≤ AH.length) (hP : va_P D vwCl (cw cA ad AH) H) (hD : va_D A (cw cA ad AH)) (hS : va_S A s.heap H locs) (hL : LR c.maxLocals ad ls lsA)
    (hk : PK ι δ AH AHs) (hl : W2.length = ι.length + k9) (hδ : ∀ q ∈ δ, q < AH.length ∨ SB ≤ q) (hnm : AH.length + k9 ≤ SB) (hm : ι.length + k9 ≤ SB) (hclo : CLO AH.length ls rest AH) (hc1 : ∀ c ∈ AHs, cloE AHs.length c) (hc2 : ∀ c ∈ W2, cloE W2.length c)
    (hr : vx_Run p l e R s m args below meth c H locs nc ns mc ms (F0 m pc lsA st0) (rest.map (cvV ad)) (RC D cA (va_A (cw cA (fun k => ad (iof ι δ AH.length k)) AHs) H.size) AHs.length (fun k => ad (iof ι δ AH.length k)) (PST (.inl none) W2) a) (XR D cA (va_A (cw cA (fun k => ad (iof ι δ AH.length k)) AHs) H.size) AHs.length (fun k => ad (iof ι δ AH.length k)) (PST (.inl none) W2)) (va_A (cw cA (fun k => ad (iof ι δ AH.length k)) AHs) H.size))
    (kk : AW (p, l, e, R, s, m, args, below, meth, c, D, cA, A, n0, ad0) Q (pc + 3) ls rest (grow AH ι δ W2) (nc + mc) (ns + ms)) :
    W p l e R s m args below meth c H locs nc ns Q (F0 m pc lsA st0) := by
  have hF := pk_free hk hD hS hA
  intro T hT X
  rcases hr T hT X with ⟨v, st₀, t, T', L, g0, X', hL', e1, e2, ⟨⟨v', AHs', ads', ho, hp, ag, agl, nle, wP, wD⟩, hFr⟩, st⟩ | ⟨q, st₀, t, T', L, E, ce, g0, X', hL', e1, e2, ⟨⟨AHs', ads', hp, ag, agl, nle, wP, wD⟩, hFr⟩, hce, hcv, hcl, st⟩
  · obtain ⟨k1, k2, k3⟩ := vx_keep g0 e1 hS (fun q _ h => hF q h) hF hL' hFr
    obtain ⟨hv, rfl⟩ := hp
    cases hv
    cases ho
    rw [← e1] at wP
    have hlen := hk.len
    obtain ⟨g1, g2⟩ := grow_back (m := k9) hk hl hδ hnm hm (fun k h => ag k (by rw [← hlen]; exact h)) hclo.1 hc1 hc2 hP hD hF k2 wP wD
    have ho : ∀ k, k < AH.length ∨ SB ≤ k → adG ad ads' AH.length ι.length k9 k = ad k := fun k h => adG_old (h.imp id fun h => by omega)
    have K := kk (adG ad ads' AH.length ι.length k9) T'.heap (locs ++ L) lsA (fun k h => by rw [ho k (h.imp (fun h => by omega) id)]; exact h1 k h) (fun h => by
      rw [grow_len hl] at h
      have e0 : k9 = 0 := by omega
      subst e0
      rw [← h2 (by omega)]
      funext j
      exact adG_old (by omega)) (by rw [grow_len hl]; omega) g1 g2 k3 (hL.cong ho hclo.2.2)
    rw [map_cong ho hclo.2.1] at K
    obtain ⟨t2, a1, b1⟩ := K T' rfl X'
    exact ⟨t2, st t2 a1, b1⟩
  · have hq := hp.1
    cases hq
section INITS
variable {κ : KX} {z y : MZ} {Q : State → Prop} {pc : Nat} {ls : List (Option Value)} {st rest : List Value} {AH AHs W2 : List AC} {nc ns d mc ms k9 : Nat}
/-- the call of a constructor without further arguments -/
theorem r_init (X : CX κ z) (ι δ : List Nat) {o index : Nat} (hM : Sem y d mc ms [.ref o] AHs (PST (.inl none) W2)) (hk : PK ι δ AH AHs) (hd : fetch (zC z) pc = some (.invokespecial index, 3)) (hy : LKI y 0) (hl : LKA (zY z).cls index y)
    (hst : st = cvV (iof ι δ AH.length) (.ref o) :: rest) (hfit : FitR (κR κ) y d mc ms nc ns) (hsum : csum rest ≤ 8) (hsb : ι.length ≤ SB)
    (hlW : W2.length = ι.length + k9) (hδ : ∀ q ∈ δ, q < AH.length ∨ SB ≤ q) (hnm : AH.length + k9 ≤ SB) (hm : ι.length + k9 ≤ SB) (hclo : CLO AH.length ls rest AH) (hc1 : ∀ c ∈ AHs, cloE AHs.length c) (hc2 : ∀ c ∈ W2, cloE W2.length c)
    (k : AW κ Q (pc + 3) ls rest (grow AH ι δ W2) (nc + mc) (ns + ms)) : AW κ Q pc ls st AH nc ns := by
  have hd := cxdec X hd
  subst hst
  obtain ⟨p, l, e, R, s, m, args, below, meth, c, D, cA, A, n0, ad0⟩ := κ
  obtain ⟨hx, hb, hml, hown, hts, hK, hG, hA, hlk, htr, hrt, hnm2, hz, hf⟩ := X
  obtain ⟨⟨y1, y2, y3⟩, y4, y5, y6⟩ := hy
  obtain ⟨hR, hC⟩ := hfit
  intro ad H locs lsA h1 h2 h3 hP hD hS hL
  have hstk : ((cvV (iof ι δ AH.length) (.ref o) :: rest).map (cvV ad)) = (([] : List Value)).reverse ++ .ref (ad (iof ι δ AH.length o)) :: rest.map (cvV ad) := rfl
  rw [hstk]
  have hpre : PreS s H (PCn D cA (fun k => ad (iof ι δ AH.length k)) [.ref o] AHs H.size) (.ref (ad (iof ι δ AH.length o)) :: []) :=
    ⟨PCn.blind, fun U hU hW => pk_pre hk hsb h1 hP hD hS hA hK hG [.ref o] U hU hW⟩
  have hroom : 2 * (F0 m pc lsA (([] : List Value).reverse ++ .ref (ad (iof ι δ AH.length o)) :: rest.map (cvV ad))).monitorRoom + ((rest.map (cvV ad)).map fun v => v.category).sum ≤ 8 := lv_room (by rw [csum_map]; exact hsum)
  have hret : (zR y) = none := y5
  refine after_init hA h1 h2 h3 hP hD hS hL hk hlW hδ hnm hm hclo hc1 hc2 (a := (Value.ref (ad (iof ι δ AH.length o)) :: []).toArray) ?_ k
  have hMl := hM l htr D cA (fun k => ad (iof ι δ AH.length k)) H.size
  rcases hl with hl | hl
  · exact vx_runI ⟨hx, hb, hml, hown, hts⟩ hMl ⟨by have := callB_of (ret := zR y) 0 hts (wsM_good y1) rfl rfl rfl (hts _ (ALL_of y2)) (hts _ (ALL_of hl)) y3 hR; rw [hret] at this; exact this, y4, hts _ (ALL_of y6)⟩ hpre rfl rfl (hL.1.trans hml) rfl hroom hd hC
  · exact vx_runIN ⟨hx, hb, hml, hown, hts⟩ hMl ⟨by have := va_cnB (ret := zR y) 0 hts (wsM_good y1) rfl rfl rfl (hG.2.2.2.2.2.2.1 _ hl) (hts _ (ALL_of y2)) y3 hR; rw [hret] at this; exact this, y4, hts _ (ALL_of y6)⟩ hpre rfl rfl (hL.1.trans hml) rfl hroom hd hC
end INITS
