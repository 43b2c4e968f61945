/-! ===== 75a: calls whose world grows by cells of any number; references answered; more instructions ===== -/
theorem Sem.met {z : MZ} {d mc ms : Nat} {As : List Value} {AH : List AC} {P : PO} (hM : Sem z d mc ms As AH P) (hx : ∀ E A2, ¬ P (.inr E) A2) {l : Launch} (hl : l.stackTraces = false) (D : va_G) (cA ad : Nat → Nat) (sz : Nat) :
    Met l (zY z) (wsM z) (rmM d mc ms) (PCn D cA ad As AH sz) (RC D cA (va_A (cw cA ad AH) sz) AH.length ad P) mc ms (va_A (cw cA ad AH) sz) := by
  intro p e ha hc hk s m args below hf happ hP hK
  obtain ⟨n, o, h1, h2, h3, h4⟩ := hM l hl D cA ad sz p e ha hc hk s m args below hf happ hP hK
  refine ⟨n, o, h1, h2, h3, ?_⟩
  rcases h4 with h4 | ⟨q, ho, E, ce, L, ⟨⟨A2, ads, hp, -⟩, -⟩, -⟩
  · exact h4
  · exact absurd hp (hx E A2)
/-- what a call's end may be: the world has grown by nine cells at most, all handles lie in it -/
def GRW (n : Nat) (P : PO) : Prop := (∀ v W2, P (.inl v) W2 → n ≤ W2.length ∧ W2.length ≤ n + 9 ∧ (∀ c ∈ W2, cloE W2.length c) ∧ ∀ w, v = some w → cloV W2.length w = true) ∧ ∀ E W2, ¬ P (.inr E) W2
theorem after_grow {p : Program} {l : Launch} {e : Env} {R : Room} {s : State} {m : MethodId} {args : Array Value} {below : List Frame} {meth : Method} {c : Code} {D : va_G} {cA : Nat → ClassId} {A : Nat → Prop} {n0 : Nat} {ad0 ad : Nat → Nat} {Q : State → Prop} {pc : Nat} {ls : List (Option Value)} {rest : List Value} {AH AHs : List AC} {ι δ : List Nat} {nc ns mc ms : Nat} {P : PO} {H : Heap} {locs : List Loc} {lsA : Array Slot} {st0 : List Value} {a : Array Value}
    (hA : ∀ q, s.heap.size ≤ q → A q) (h1 : AG n0 ad0 ad) (h2 : AH.length = n0 → ad = ad0) (h3 : n0 ≤ AH.length) (hP : va_P D vwCl (cw cA ad AH) H) (hD : va_D A (cw cA ad AH)) (hS : va_S A s.heap H locs) (hL : LR c.maxLocals ad ls lsA)
    (hk : PK ι δ AH AHs) (hδ : ∀ q ∈ δ, q < AH.length ∨ SB ≤ q) (hnm : AH.length + 9 ≤ SB) (hm : ι.length + 9 ≤ SB) (hclo : CLO AH.length ls rest AH) (hc1 : ∀ c ∈ AHs, cloE AHs.length c) (hg : GRW AHs.length P)
    (hr : vx_Run p l e R s m args below meth c H locs nc ns mc ms (F0 m pc lsA st0) (rest.map (cvV ad)) (RC D cA (va_A (cw cA (fun k => ad (iof ι δ AH.length k)) AHs) H.size) AHs.length (fun k => ad (iof ι δ AH.length k)) P a) (XR D cA (va_A (cw cA (fun k => ad (iof ι δ AH.length k)) AHs) H.size) AHs.length (fun k => ad (iof ι δ AH.length k)) P) (va_A (cw cA (fun k => ad (iof ι δ AH.length k)) AHs) H.size))
    (kk : ∀ v W2, P (.inl v) W2 → AW (p, l, e, R, s, m, args, below, meth, c, D, cA, A, n0, ad0) Q (pc + 3) ls ((v.map (cvV (iof ι δ AH.length))).toList ++ rest) (grow AH ι δ W2) (nc + mc) (ns + ms)) :
    W p l e R s m args below meth c H locs nc ns Q (F0 m pc lsA st0) := by
  have hF := pk_free hk hD hS hA
  intro T hT X
  rcases hr T hT X with ⟨v, st₀, t, T', L, g0, X', hL', e1, e2, ⟨⟨v', W2, ads', ho, hp, ag, agl, nle, wP, wD⟩, hFr⟩, st⟩ | ⟨q, st₀, t, T', L, E, ce, g0, X', hL', e1, e2, ⟨⟨W2, ads', hp, -⟩, -⟩, -⟩
  · obtain ⟨k1, k2, k3⟩ := vx_keep g0 e1 hS (fun q _ h => hF q h) hF hL' hFr
    obtain ⟨w1, w2, w3, w4⟩ := hg.1 v' W2 hp
    cases ho
    rw [← e1] at wP
    have hlen := hk.len
    have hl : W2.length = ι.length + (W2.length - ι.length) := by omega
    obtain ⟨g1, g2⟩ := grow_back (m := W2.length - ι.length) hk hl hδ (by omega) (by omega) (fun k h => ag k (by rw [← hlen]; exact h)) hclo.1 hc1 w3 hP hD hF k2 wP wD
    have ho : ∀ k, k < AH.length ∨ SB ≤ k → adG ad ads' AH.length ι.length (W2.length - ι.length) k = ad k := fun k h => adG_old (h.imp id fun h => by omega)
    have hb := adG_iof (ad := ad) (ads := ads') (m := W2.length - ι.length) (PK.lt hk) hδ (by omega) (by omega) (fun k h => ag k (by rw [← hlen]; exact h))
    have K := kk v' W2 hp (adG ad ads' AH.length ι.length (W2.length - ι.length)) T'.heap (locs ++ L) lsA (fun k h => by rw [ho k (h.imp (fun h => by omega) id)]; exact h1 k h) (fun h => by
      rw [grow_len hl] at h
      have e0 : W2.length - ι.length = 0 := by omega
      rw [← h2 (by omega)]
      funext j
      exact adG_old (by omega)) (by rw [grow_len hl]; omega) g1 g2 k3 (hL.cong ho hclo.2.2)
    have e4 : ((v'.map (cvV (iof ι δ AH.length))).toList ++ rest).map (cvV (adG ad ads' AH.length ι.length (W2.length - ι.length))) = (v'.map (cvV ads')).toList ++ rest.map (cvV ad) := by
      rw [List.map_append, map_cong ho hclo.2.1]
      cases v' with
      | none => rfl
      | some w =>
        have e5 := cvV_cong (n := W2.length) (ad := ads') (ad' := fun k => adG ad ads' AH.length ι.length (W2.length - ι.length) (iof ι δ AH.length k)) (fun k h => hb k (by rw [← hl]; exact h)) (w4 w rfl)
        show cvV (adG ad ads' AH.length ι.length (W2.length - ι.length)) (cvV (iof ι δ AH.length) w) :: _ = cvV ads' w :: _
        rw [cvV_comp, e5]
        rfl
    rw [e4] at K
    obtain ⟨t2, a1, b1⟩ := K T' rfl X'
    exact ⟨t2, st t2 a1, b1⟩
  · exact absurd hp (hg.2 E W2)
/-- a method of AbstractStringBuilder, called on a StringBuilder: x is named, y runs -/
def LKU (own : String) (idx : Nat) (x : MethodName) (y : MZ) (n : Nat) : Prop :=
  (Cond.code (zY y) (zB y) (zN y) (zR y) ∈ ALL ∧ inALL (.initialized (zY y).cls) = true) ∧ ((x.cls ≠ "java/lang/invoke/MethodHandle" ∧ x.cls ≠ "java/lang/invoke/VarHandle") ∧ (parseMethodDescriptor x.desc).map (fun d => d.parameters.length) = some n) ∧
  (inALL (.methodLink own idx x) = true ∧ inALL (.sameMethod x.cls x.cls x.name x.desc) = true) ∧ (inALL (.instanceMethod x) = true ∧ ∃ b mx r, Cond.code x b mx r ∈ ALL) ∧ inALL (.instanceMethod (zY y)) = true ∧
  (inALL (.selects "java/lang/StringBuilder" x (zY y)) = true ∨ x = zY y ∧ zY y ∈ privB)
/-- a method of the class above, by super -/
def LKW (own : String) (idx : Nat) (y : MZ) (n : Nat) : Prop :=
  (Cond.code (zY y) (zB y) (zN y) (zR y) ∈ ALL ∧ inALL (.initialized (zY y).cls) = true) ∧ ((zY y).name ≠ "<init>" ∧ (parseMethodDescriptor (zY y).desc).map (fun d => d.parameters.length) = some n) ∧
  (inALL (.methodLink own idx (zY y)) = true ∧ inALL (.sameMethod (zY y).cls (zY y).cls (zY y).name (zY y).desc) = true) ∧ inALL (.superclass own (zY y).cls) = true ∧ inALL (.instanceMethod (zY y)) = true
section GROWC
variable {κ : KX} {z y : MZ} {Q : State → Prop} {pc : Nat} {ls : List (Option Value)} {st rest : List Value} {AH AHs : List AC} {nc ns d mc ms : Nat} {P : PO} {As : List Value}
theorem stk_V {ad f : Nat → Nat} {o : Nat} : (((As.map (cvV f)).reverse ++ cvV f (.ref o) :: rest).map (cvV ad)) = (As.map (cvV fun k => ad (f k))).reverse ++ .ref (ad (f o)) :: rest.map (cvV ad) := by
  simp only [List.map_append, List.map_reverse, List.map_map, List.map_cons]
  congr 1
  congr 1
  apply List.map_congr_left
  intro v _
  exact cvV_comp v
theorem r_gV (X : CX κ z) (ι δ : List Nat) {o ci index n : Nat} {fs : List Value} {r9 : vw_C} (hM : Sem y d mc ms (.ref o :: As) AHs P) (hk : PK ι δ AH AHs) (hd : fetch (zC z) pc = some (.invokevirtual index, 3)) (hy : LKV y n) (hl : inALL (.methodLink (zY z).cls index (zY y)) = true) (hn : As.length = n) (ho : AHs[o]? = some (.inr (ci, fs))) (hr9 : vwCl[ci]? = some r9) (hcl : r9.1 = (zY y).cls)
    (hst : st = (As.map (cvV (iof ι δ AH.length))).reverse ++ cvV (iof ι δ AH.length) (.ref o) :: rest) (hfit : FitR (κR κ) y d mc ms nc ns) (hsum : csum rest ≤ 8) (hδ : ∀ q ∈ δ, q < AH.length ∨ SB ≤ q) (hnm : AH.length + 9 ≤ SB) (hm : ι.length + 9 ≤ SB) (hclo : CLO AH.length ls rest AH) (hc1 : ∀ c ∈ AHs, cloE AHs.length c) (hg : GRW AHs.length P)
    (kk : ∀ v W2, P (.inl v) W2 → AW κ Q (pc + 3) ls ((v.map (cvV (iof ι δ AH.length))).toList ++ rest) (grow AH ι δ W2) (nc + mc) (ns + ms)) : AW κ Q pc ls st AH nc ns := by
  have hd := cxdec X hd
  subst hst
  obtain ⟨p, l, e, R, s, m, args, below, meth, c, D, cA, A, n0, ad0⟩ := κ
  obtain ⟨hx, hb, hml, hown, hts, hK, hG, hA, hlk, htr, hrt, hnm2, hz, hf⟩ := X
  obtain ⟨⟨y1, y2, y3⟩, y4, y5⟩ := hy
  obtain ⟨hR, hC⟩ := hfit
  intro ad H locs lsA h1 h2 h3 hP hD hS hL
  rw [stk_V]
  have hrecv : ∃ cell : Cell, H[ad (iof ι δ AH.length o)]? = some cell ∧ cell.vm.isStatics = false ∧ s.vm.findClass (zY y).cls = some cell.cls := by
    rw [← hcl]
    exact va_recv hK (pk_P hk hP) hr9 (cw_at ho)
  have hpre : PreV s H (zY y).cls (ad (iof ι δ AH.length o)) (PCn D cA (fun k => ad (iof ι δ AH.length k)) (.ref o :: As) AHs H.size) (As.map (cvV fun k => ad (iof ι δ AH.length k))) :=
    ⟨PCn.blind, hrecv, fun U hU hW => pk_pre hk (by omega) h1 hP hD hS hA hK hG (.ref o :: As) U hU hW⟩
  have hroom : 2 * (F0 m pc lsA ((As.map (cvV fun k => ad (iof ι δ AH.length k))).reverse ++ .ref (ad (iof ι δ AH.length o)) :: rest.map (cvV ad))).monitorRoom + ((rest.map (cvV ad)).map fun v => v.category).sum ≤ 8 := lv_room (by rw [csum_map]; exact hsum)
  refine after_grow hA h1 h2 h3 hP hD hS hL hk hδ hnm hm hclo hc1 hg (a := (Value.ref (ad (iof ι δ AH.length o)) :: As.map (cvV fun k => ad (iof ι δ AH.length k))).toArray) ?_ kk
  exact vx_runV ⟨hx, hb, hml, hown, hts⟩ (hM l htr D cA (fun k => ad (iof ι δ AH.length k)) H.size) ⟨callB_of n hts (wsM_good y1) rfl rfl rfl (hts _ (ALL_of y2)) (hts _ (ALL_of hl)) y3 hR, hts _ (ALL_of y4), hts _ (ALL_of y5)⟩ hpre rfl (by rw [List.length_map]; exact hn) (hL.1.trans hml) rfl hroom hd hC
theorem r_gS (X : CX κ z) (ι δ : List Nat) {index n : Nat} (hM : Sem y d mc ms As AHs P) (hk : PK ι δ AH AHs) (hd : fetch (zC z) pc = some (.invokestatic index, 3)) (hy : LKS y n) (hl : inALL (.methodLink (zY z).cls index (zY y)) = true) (hn : As.length = n)
    (hst : st = (As.map (cvV (iof ι δ AH.length))).reverse ++ rest) (hfit : FitR (κR κ) y d mc ms nc ns) (hsum : csum rest ≤ 8) (hδ : ∀ q ∈ δ, q < AH.length ∨ SB ≤ q) (hnm : AH.length + 9 ≤ SB) (hm : ι.length + 9 ≤ SB) (hclo : CLO AH.length ls rest AH) (hc1 : ∀ c ∈ AHs, cloE AHs.length c) (hg : GRW AHs.length P)
    (kk : ∀ v W2, P (.inl v) W2 → AW κ Q (pc + 3) ls ((v.map (cvV (iof ι δ AH.length))).toList ++ rest) (grow AH ι δ W2) (nc + mc) (ns + ms)) : AW κ Q pc ls st AH nc ns := by
  have hd := cxdec X hd
  subst hst
  obtain ⟨p, l, e, R, s, m, args, below, meth, c, D, cA, A, n0, ad0⟩ := κ
  obtain ⟨hx, hb, hml, hown, hts, hK, hG, hA, hlk, htr, hrt, hnm2, hz, hf⟩ := X
  obtain ⟨⟨y1, y2, y3⟩, y4⟩ := hy
  obtain ⟨hR, hC⟩ := hfit
  intro ad H locs lsA h1 h2 h3 hP hD hS hL
  rw [stk_S]
  have hpre : PreS s H (PCn D cA (fun k => ad (iof ι δ AH.length k)) As AHs H.size) (As.map (cvV fun k => ad (iof ι δ AH.length k))) :=
    ⟨PCn.blind, fun U hU hW => pk_pre hk (by omega) h1 hP hD hS hA hK hG As U hU hW⟩
  have hroom : 2 * (F0 m pc lsA ((As.map (cvV fun k => ad (iof ι δ AH.length k))).reverse ++ rest.map (cvV ad))).monitorRoom + ((rest.map (cvV ad)).map fun v => v.category).sum ≤ 8 := lv_room (by rw [csum_map]; exact hsum)
  refine after_grow hA h1 h2 h3 hP hD hS hL hk hδ hnm hm hclo hc1 hg (a := (As.map (cvV fun k => ad (iof ι δ AH.length k))).toArray) ?_ kk
  exact vx_runS ⟨hx, hb, hml, hown, hts⟩ (hM l htr D cA (fun k => ad (iof ι δ AH.length k)) H.size) ⟨callB_of n hts (wsM_good y1) rfl rfl rfl (hts _ (ALL_of y2)) (hts _ (ALL_of hl)) y3 hR, hts _ (ALL_of y4)⟩ hpre rfl (by rw [List.length_map]; exact hn) (hL.1.trans hml) rfl hroom hd hC
/-- a constructor, with arguments -/
theorem r_gI (X : CX κ z) (ι δ : List Nat) {o index n : Nat} (hM : Sem y d mc ms (.ref o :: As) AHs P) (hk : PK ι δ AH AHs) (hd : fetch (zC z) pc = some (.invokespecial index, 3)) (hy : LKI y n) (hl : inALL (.methodLink (zY z).cls index (zY y)) = true) (hn : As.length = n)
    (hst : st = (As.map (cvV (iof ι δ AH.length))).reverse ++ cvV (iof ι δ AH.length) (.ref o) :: rest) (hfit : FitR (κR κ) y d mc ms nc ns) (hsum : csum rest ≤ 8) (hδ : ∀ q ∈ δ, q < AH.length ∨ SB ≤ q) (hnm : AH.length + 9 ≤ SB) (hm : ι.length + 9 ≤ SB) (hclo : CLO AH.length ls rest AH) (hc1 : ∀ c ∈ AHs, cloE AHs.length c) (hg : GRW AHs.length P)
    (kk : ∀ v W2, P (.inl v) W2 → AW κ Q (pc + 3) ls ((v.map (cvV (iof ι δ AH.length))).toList ++ rest) (grow AH ι δ W2) (nc + mc) (ns + ms)) : AW κ Q pc ls st AH nc ns := by
  have hd := cxdec X hd
  subst hst
  obtain ⟨p, l, e, R, s, m, args, below, meth, c, D, cA, A, n0, ad0⟩ := κ
  obtain ⟨hx, hb, hml, hown, hts, hK, hG, hA, hlk, htr, hrt, hnm2, hz, hf⟩ := X
  obtain ⟨⟨y1, y2, y3⟩, y4, y5, y6⟩ := hy
  obtain ⟨hR, hC⟩ := hfit
  intro ad H locs lsA h1 h2 h3 hP hD hS hL
  rw [stk_V]
  have hpre : PreS s H (PCn D cA (fun k => ad (iof ι δ AH.length k)) (.ref o :: As) AHs H.size) (.ref (ad (iof ι δ AH.length o)) :: As.map (cvV fun k => ad (iof ι δ AH.length k))) :=
    ⟨PCn.blind, fun U hU hW => pk_pre hk (by omega) h1 hP hD hS hA hK hG (.ref o :: As) U hU hW⟩
  have hroom : 2 * (F0 m pc lsA ((As.map (cvV fun k => ad (iof ι δ AH.length k))).reverse ++ .ref (ad (iof ι δ AH.length o)) :: rest.map (cvV ad))).monitorRoom + ((rest.map (cvV ad)).map fun v => v.category).sum ≤ 8 := lv_room (by rw [csum_map]; exact hsum)
  have hret : (zR y) = none := y5
  refine after_grow hA h1 h2 h3 hP hD hS hL hk hδ hnm hm hclo hc1 hg (a := (Value.ref (ad (iof ι δ AH.length o)) :: As.map (cvV fun k => ad (iof ι δ AH.length k))).toArray) ?_ kk
  have hMl := hM l htr D cA (fun k => ad (iof ι δ AH.length k)) H.size
  exact vx_runI ⟨hx, hb, hml, hown, hts⟩ hMl ⟨by have := callB_of (ret := zR y) n hts (wsM_good y1) rfl rfl rfl (hts _ (ALL_of y2)) (hts _ (ALL_of hl)) y3 hR; rw [hret] at this; exact this, y4, hts _ (ALL_of y6)⟩ hpre rfl (by rw [List.length_map]; exact hn) (hL.1.trans hml) rfl hroom hd hC
theorem r_gU (X : CX κ z) (ι δ : List Nat) {o index n : Nat} {x : MethodName} {fs : List Value} (hM : Sem y d mc ms (.ref o :: As) AHs P) (hk : PK ι δ AH AHs) (hd : fetch (zC z) pc = some (.invokevirtual index, 3)) (hy : LKU (zY z).cls index x y n) (hn : As.length = n) (ho : AHs[o]? = some (.inr (10, fs)))
    (hst : st = (As.map (cvV (iof ι δ AH.length))).reverse ++ cvV (iof ι δ AH.length) (.ref o) :: rest) (hfit : FitR (κR κ) y d mc ms nc ns) (hsum : csum rest ≤ 8) (hδ : ∀ q ∈ δ, q < AH.length ∨ SB ≤ q) (hnm : AH.length + 9 ≤ SB) (hm : ι.length + 9 ≤ SB) (hclo : CLO AH.length ls rest AH) (hc1 : ∀ c ∈ AHs, cloE AHs.length c) (hg : GRW AHs.length P)
    (kk : ∀ v W2, P (.inl v) W2 → AW κ Q (pc + 3) ls ((v.map (cvV (iof ι δ AH.length))).toList ++ rest) (grow AH ι δ W2) (nc + mc) (ns + ms)) : AW κ Q pc ls st AH nc ns := by
  have hd := cxdec X hd
  subst hst
  obtain ⟨p, l, e, R, s, m, args, below, meth, c, D, cA, A, n0, ad0⟩ := κ
  obtain ⟨hx, hb, hml, hown, hts, hK, hG, hA, hlk, htr, hrt, hnm2, hz, hf⟩ := X
  obtain ⟨⟨y1, y2⟩, ⟨u1, u2⟩, ⟨u3, u4⟩, ⟨u5, b9, m9, r9, u6⟩, u7, u8⟩ := hy
  obtain ⟨hR, hC⟩ := hfit
  intro ad H locs lsA h1 h2 h3 hP hD hS hL
  rw [stk_V]
  have hrecv : ∃ cell : Cell, H[ad (iof ι δ AH.length o)]? = some cell ∧ cell.vm.isStatics = false ∧ s.vm.findClass "java/lang/StringBuilder" = some cell.cls :=
    va_recv hK (pk_P hk hP) (ci := 10) rfl (cw_at ho)
  have hpre : PreV s H "java/lang/StringBuilder" (ad (iof ι δ AH.length o)) (PCn D cA (fun k => ad (iof ι δ AH.length k)) (.ref o :: As) AHs H.size) (As.map (cvV fun k => ad (iof ι δ AH.length k))) :=
    ⟨PCn.blind, hrecv, fun U hU hW => pk_pre hk (by omega) h1 hP hD hS hA hK hG (.ref o :: As) U hU hW⟩
  have hroom : 2 * (F0 m pc lsA ((As.map (cvV fun k => ad (iof ι δ AH.length k))).reverse ++ .ref (ad (iof ι δ AH.length o)) :: rest.map (cvV ad))).monitorRoom + ((rest.map (cvV ad)).map fun v => v.category).sum ≤ 8 := lv_room (by rw [csum_map]; exact hsum)
  have hsel : (Cond.selects "java/lang/StringBuilder" x (zY y)).before args s = true := by
    rcases u8 with u8 | ⟨rfl, u8⟩
    · exact hts _ (ALL_of u8)
    · exact va_Nw.use rfl (hG.2.2.2.2.2.1.2.2.2.2.2.2 _ u8)
  refine after_grow hA h1 h2 h3 hP hD hS hL hk hδ hnm hm hclo hc1 hg (a := (Value.ref (ad (iof ι δ AH.length o)) :: As.map (cvV fun k => ad (iof ι δ AH.length k))).toArray) ?_ kk
  exact fun T hT X => Or.inl ((va_runU (C := "java/lang/StringBuilder") (owner := x.cls) (x := x) (y := zY y) (bytes := zB y) (maxL := zN y) (ret := zR y) (n := n) (rest := rest.map (cvV ad)) (cells := nc) (slots := ns) (g := F0 m pc lsA ((As.map (cvV fun k => ad (iof ι δ AH.length k))).reverse ++ .ref (ad (iof ι δ AH.length o)) :: rest.map (cvV ad))) ⟨hx, hb, hml, hown, hts⟩ (hM.met hg.2 htr D cA (fun k => ad (iof ι δ AH.length k)) H.size)
    ⟨⟨rfl, rfl, hR.1, hR.2, pay_in hts (wsM_good y1), List.mem_cons_self⟩, hts _ y1, hts _ (ALL_of y2), u1, (fun sig h => by rw [h] at u2; exact (Option.some.inj u2).symm), hts _ (ALL_of u3), hts _ (ALL_of u4), va_Decl.of (hts _ (ALL_of u5)) (hts _ u6), hsel, hts _ (ALL_of u7)⟩
    hpre rfl (by rw [List.length_map]; exact hn) (hL.1.trans hml) rfl hroom hd hC) T hT X)
theorem r_gW (X : CX κ z) (ι δ : List Nat) {o index n : Nat} {fs : List Value} (hM : Sem y d mc ms (.ref o :: As) AHs P) (hk : PK ι δ AH AHs) (hd : fetch (zC z) pc = some (.invokespecial index, 3)) (hy : LKW (zY z).cls index y n) (hn : As.length = n) (ho : AHs[o]? = some (.inr (10, fs)))
    (hst : st = (As.map (cvV (iof ι δ AH.length))).reverse ++ cvV (iof ι δ AH.length) (.ref o) :: rest) (hfit : FitR (κR κ) y d mc ms nc ns) (hsum : csum rest ≤ 8) (hδ : ∀ q ∈ δ, q < AH.length ∨ SB ≤ q) (hnm : AH.length + 9 ≤ SB) (hm : ι.length + 9 ≤ SB) (hclo : CLO AH.length ls rest AH) (hc1 : ∀ c ∈ AHs, cloE AHs.length c) (hg : GRW AHs.length P)
    (kk : ∀ v W2, P (.inl v) W2 → AW κ Q (pc + 3) ls ((v.map (cvV (iof ι δ AH.length))).toList ++ rest) (grow AH ι δ W2) (nc + mc) (ns + ms)) : AW κ Q pc ls st AH nc ns := by
  have hd := cxdec X hd
  subst hst
  obtain ⟨p, l, e, R, s, m, args, below, meth, c, D, cA, A, n0, ad0⟩ := κ
  obtain ⟨hx, hb, hml, hown, hts, hK, hG, hA, hlk, htr, hrt, hnm2, hz, hf⟩ := X
  obtain ⟨⟨y1, y2⟩, ⟨u1, u2⟩, ⟨u3, u4⟩, u5, u7⟩ := hy
  obtain ⟨hR, hC⟩ := hfit
  intro ad H locs lsA h1 h2 h3 hP hD hS hL
  rw [stk_V]
  have hrecv : ∃ cell : Cell, H[ad (iof ι δ AH.length o)]? = some cell ∧ cell.vm.isStatics = false ∧ s.vm.findClass "java/lang/StringBuilder" = some cell.cls :=
    va_recv hK (pk_P hk hP) (ci := 10) rfl (cw_at ho)
  have hpre : PreV s H "java/lang/StringBuilder" (ad (iof ι δ AH.length o)) (PCn D cA (fun k => ad (iof ι δ AH.length k)) (.ref o :: As) AHs H.size) (As.map (cvV fun k => ad (iof ι δ AH.length k))) :=
    ⟨PCn.blind, hrecv, fun U hU hW => pk_pre hk (by omega) h1 hP hD hS hA hK hG (.ref o :: As) U hU hW⟩
  have hroom : 2 * (F0 m pc lsA ((As.map (cvV fun k => ad (iof ι δ AH.length k))).reverse ++ .ref (ad (iof ι δ AH.length o)) :: rest.map (cvV ad))).monitorRoom + ((rest.map (cvV ad)).map fun v => v.category).sum ≤ 8 := lv_room (by rw [csum_map]; exact hsum)
  refine after_grow hA h1 h2 h3 hP hD hS hL hk hδ hnm hm hclo hc1 hg (a := (Value.ref (ad (iof ι δ AH.length o)) :: As.map (cvV fun k => ad (iof ι δ AH.length k))).toArray) ?_ kk
  exact fun T hT X => Or.inl ((va_runSU (C := "java/lang/StringBuilder") (y := zY y) (bytes := zB y) (maxL := zN y) (ret := zR y) (n := n) (rest := rest.map (cvV ad)) (cells := nc) (slots := ns) (g := F0 m pc lsA ((As.map (cvV fun k => ad (iof ι δ AH.length k))).reverse ++ .ref (ad (iof ι δ AH.length o)) :: rest.map (cvV ad))) (hK.1 10 _ rfl).2 ⟨hx, hb, hml, hown, hts⟩ (hM.met hg.2 htr D cA (fun k => ad (iof ι δ AH.length k)) H.size)
    ⟨⟨rfl, rfl, hR.1, hR.2, pay_in hts (wsM_good y1), List.mem_cons_self⟩, hts _ (ALL_of u3), hts _ (ALL_of u4), hts _ (ALL_of u5), hts _ (ALL_of u7), hts _ (ALL_of y2), hts _ y1, u1, (fun sig h => by rw [h] at u2; exact (Option.some.inj u2).symm)⟩
    hpre rfl (by rw [List.length_map]; exact hn) (hL.1.trans hml) rfl hroom hd hC) T hT X)
/-- a method of a text constant, with a world of its own beside -/
theorem r_gO (X : CX κ z) (ι δ : List Nat) {i index n : Nat} (hi : i < nStr) (hM : Sem y d mc ms (.ref (SB + i) :: As) AHs P) (hk : PK ι δ AH AHs) (hd : fetch (zC z) pc = some (.invokevirtual index, 3)) (hy : LKV y n) (hcls : (zY y).cls = "java/lang/String") (hl : inALL (.methodLink (zY z).cls index (zY y)) = true) (hn : As.length = n)
    (hst : st = (As.map (cvV (iof ι δ AH.length))).reverse ++ .ref (SB + i) :: rest) (hfit : FitR (κR κ) y d mc ms nc ns) (hsum : csum rest ≤ 8) (hδ : ∀ q ∈ δ, q < AH.length ∨ SB ≤ q) (hnm : AH.length + 9 ≤ SB) (hm : ι.length + 9 ≤ SB) (hclo : CLO AH.length ls rest AH) (hc1 : ∀ c ∈ AHs, cloE AHs.length c) (hg : GRW AHs.length P)
    (kk : ∀ v W2, P (.inl v) W2 → AW κ Q (pc + 3) ls ((v.map (cvV (iof ι δ AH.length))).toList ++ rest) (grow AH ι δ W2) (nc + mc) (ns + ms)) : AW κ Q pc ls st AH nc ns := by
  have hd := cxdec X hd
  subst hst
  obtain ⟨p, l, e, R, s, m, args, below, meth, c, D, cA, A, n0, ad0⟩ := κ
  obtain ⟨hx, hb, hml, hown, hts, hK, hG, hA, hlk, htr, hrt, hnm2, hz, hf⟩ := X
  obtain ⟨⟨y1, y2, y3⟩, y4, y5⟩ := hy
  obtain ⟨hR, hC⟩ := hfit
  intro ad H locs lsA h1 h2 h3 hP hD hS hL
  have eSB : iof ι δ AH.length (SB + i) = SB + i := iof_sb (Nat.le_add_right _ _) (by have : nStr = 18 := rfl; unfold SD; omega) (by omega)
  have e9 : (As.map (cvV (iof ι δ AH.length))).reverse ++ .ref (SB + i) :: rest = (As.map (cvV (iof ι δ AH.length))).reverse ++ cvV (iof ι δ AH.length) (.ref (SB + i)) :: rest := by
    show _ = (As.map (cvV (iof ι δ AH.length))).reverse ++ .ref (iof ι δ AH.length (SB + i)) :: rest
    rw [eSB]
  rw [e9, stk_V]
  have hO := (hG.1 i hi).1
  dsimp only at hO
  rw [← h1 (SB + i) (Or.inr (Nat.le_add_right _ _))] at hO
  have hrecv : ∃ cell : Cell, H[ad (iof ι δ AH.length (SB + i))]? = some cell ∧ cell.vm.isStatics = false ∧ s.vm.findClass (zY y).cls = some cell.cls := by
    rw [hcls, eSB]
    exact va_Orecv hO hS
  have hpre : PreV s H (zY y).cls (ad (iof ι δ AH.length (SB + i))) (PCn D cA (fun k => ad (iof ι δ AH.length k)) (.ref (SB + i) :: As) AHs H.size) (As.map (cvV fun k => ad (iof ι δ AH.length k))) :=
    ⟨PCn.blind, hrecv, fun U hU hW => pk_pre hk (by omega) h1 hP hD hS hA hK hG (.ref (SB + i) :: As) U hU hW⟩
  have hroom : 2 * (F0 m pc lsA ((As.map (cvV fun k => ad (iof ι δ AH.length k))).reverse ++ .ref (ad (iof ι δ AH.length (SB + i))) :: rest.map (cvV ad))).monitorRoom + ((rest.map (cvV ad)).map fun v => v.category).sum ≤ 8 := lv_room (by rw [csum_map]; exact hsum)
  refine after_grow hA h1 h2 h3 hP hD hS hL hk hδ hnm hm hclo hc1 hg (a := (Value.ref (ad (iof ι δ AH.length (SB + i))) :: As.map (cvV fun k => ad (iof ι δ AH.length k))).toArray) ?_ kk
  exact vx_runV ⟨hx, hb, hml, hown, hts⟩ (hM l htr D cA (fun k => ad (iof ι δ AH.length k)) H.size) ⟨callB_of n hts (wsM_good y1) rfl rfl rfl (hts _ (ALL_of y2)) (hts _ (ALL_of hl)) y3 hR, hts _ (ALL_of y4), hts _ (ALL_of y5)⟩ hpre rfl (by rw [List.length_map]; exact hn) (hL.1.trans hml) rfl hroom hd hC
/-- a reference is answered -/
theorem r_aret (X : CX κ z) {k0 : Nat} {rt : FieldType} (hd : fetch (zC z) pc = some (.areturn, 1)) (hr : zR z = some rt) (hrt : (∃ n, rt = .object n) ∨ ∃ t, rt = .array t) (hP0 : P (.inl (some (.ref k0))) AH) (hc : nc ≤ mc) (hs : ns ≤ ms) : AW κ (QM κ P mc ms) pc ls [.ref k0] AH nc ns := by
  have hd := cxdec X hd
  obtain ⟨p, l, e, R, s, m, args, below, meth, c, D, cA, A, n0, ad0⟩ := κ
  obtain ⟨hx, hb, hml, hown, hts, hK, hG, hA, hlk, htr, hrt2, hnm, hz, hf⟩ := X
  intro ad H locs lsA h1 h2 h3 hP hD hS hL
  refine W.widen hc hs (vx_ret ?_)
  exact W.aret hx hb (hrt2.trans hr) hrt (Or.inr ⟨_, rfl⟩) (fun t ht _ => rc_end (p := p) (l := l) (e := e) (R := R) (m := m) (below := below) (meth := meth) (c := c) hP0 rfl h1 h2 h3 hP hD hS t ht) hS.2.2 hd hlk
theorem r_ishl (X : CX κ z) {x y : Int32} (hd : fetch (zC z) pc = some (.ishl, 1)) (k : AW κ Q (pc + 1) ls (.int (x <<< (y &&& 31)) :: rest) AH nc ns) : AW κ Q pc ls (.int y :: .int x :: rest) AH nc ns := by
  have hd := cxdec X hd
  obtain ⟨p, l, e, R, s, m, args, below, meth, c, D, cA, A, n0, ad0⟩ := κ
  obtain ⟨hx, hb, hml, hown, hts, hK, hG, hA, hlk, htr, hrt, hnm, hz, hf⟩ := X
  intro ad H locs lsA h1 h2 h3 hP hD hS hL
  exact lv_ishl hx hb hd (k ad H locs lsA h1 h2 h3 hP hD hS hL)
theorem r_ior (X : CX κ z) {x y : Int32} (hd : fetch (zC z) pc = some (.ior, 1)) (k : AW κ Q (pc + 1) ls (.int (x ||| y) :: rest) AH nc ns) : AW κ Q pc ls (.int y :: .int x :: rest) AH nc ns := by
  have hd := cxdec X hd
  obtain ⟨p, l, e, R, s, m, args, below, meth, c, D, cA, A, n0, ad0⟩ := κ
  obtain ⟨hx, hb, hml, hown, hts, hK, hG, hA, hlk, htr, hrt, hnm, hz, hf⟩ := X
  intro ad H locs lsA h1 h2 h3 hP hD hS hL
  exact lv_ior hx hb hd (k ad H locs lsA h1 h2 h3 hP hD hS hL)
theorem r_ineg (X : CX κ z) {x : Int32} (hd : fetch (zC z) pc = some (.ineg, 1)) (k : AW κ Q (pc + 1) ls (.int (-x) :: rest) AH nc ns) : AW κ Q pc ls (.int x :: rest) AH nc ns := by
  have hd := cxdec X hd
  obtain ⟨p, l, e, R, s, m, args, below, meth, c, D, cA, A, n0, ad0⟩ := κ
  obtain ⟨hx, hb, hml, hown, hts, hK, hG, hA, hlk, htr, hrt, hnm, hz, hf⟩ := X
  intro ad H locs lsA h1 h2 h3 hP hD hS hL
  exact lv_ineg hx hb hd (k ad H locs lsA h1 h2 h3 hP hD hS hL)
theorem r_dup_x1 (X : CX κ z) {v u : Value} (hd : fetch (zC z) pc = some (.dup_x1, 1)) (hv : v.category = 1) (hu : u.category = 1) (k : AW κ Q (pc + 1) ls (v :: u :: v :: rest) AH nc ns) : AW κ Q pc ls (v :: u :: rest) AH nc ns := by
  have hd := cxdec X hd
  obtain ⟨p, l, e, R, s, m, args, below, meth, c, D, cA, A, n0, ad0⟩ := κ
  obtain ⟨hx, hb, hml, hown, hts, hK, hG, hA, hlk, htr, hrt, hnm, hz, hf⟩ := X
  intro ad H locs lsA h1 h2 h3 hP hD hS hL
  exact lv_dup_x1 hx hb hd ((cvV_cat ad v).trans hv) ((cvV_cat ad u).trans hu) (k ad H locs lsA h1 h2 h3 hP hD hS hL)
theorem r_ifnonnull (X : CX κ z) {x : Nat} {off : Int} (tgt : Nat) (hd : fetch (zC z) pc = some (.ifnonnull off, 3)) (ht : (pc : Int) + off = (tgt : Int)) (k : AW κ Q tgt ls rest AH nc ns) : AW κ Q pc ls (.ref x :: rest) AH nc ns := by
  have hd := cxdec X hd
  obtain ⟨p, l, e, R, s, m, args, below, meth, c, D, cA, A, n0, ad0⟩ := κ
  obtain ⟨hx, hb, hml, hown, hts, hK, hG, hA, hlk, htr, hrt, hnm, hz, hf⟩ := X
  intro ad H locs lsA h1 h2 h3 hP hD hS hL
  exact lv_ifnonnull hx hb hd ht (k ad H locs lsA h1 h2 h3 hP hD hS hL)
theorem r_ldcI (X : CX κ z) {index : Nat} (v : Int32) (hd : fetch (zC z) pc = some (.ldc index, 2)) (hc : inALL (Jvm.Cond.constant (zY z).cls index v) = true) (k : AW κ Q (pc + 2) ls (.int v :: rest) AH nc ns) : AW κ Q pc ls rest AH nc ns := by
  have hd := cxdec X hd
  obtain ⟨p, l, e, R, s, m, args, below, meth, c, D, cA, A, n0, ad0⟩ := κ
  obtain ⟨hx, hb, hml, hown, hts, hK, hG, hA, hlk, htr, hrt, hnm, hz, hf⟩ := X
  intro ad H locs lsA h1 h2 h3 hP hD hS hL
  exact lv_ldc hx hb hown (hts _ (ALL_of hc)) hd (k ad H locs lsA h1 h2 h3 hP hD hS hL)
/-- bytes from row to row -/
theorem r_copyb (X : CX κ z) {index a0 a n0' n1 : Nat} {f g : Nat → Int32} {sp dp n : Int32} (hd : fetch (zC z) pc = some (.invokestatic index, 3)) (hl : inALL (Cond.methodLink (zY z).cls index arraycopyName) = true) (h4 : inALL (Cond.native arraycopyName) = true) (h5 : inALL (Cond.static arraycopyName) = true) (h6 : inALL (Cond.initialized "java/lang/System") = true)
    (ha0 : AH[a0]? = some (.inl (3, n0', .inl f))) (ha1 : AH[a]? = some (.inl (3, n1, .inl g))) (g1 : ¬ sp < 0) (g2 : ¬ dp < 0) (g3 : ¬ n < 0) (g4 : sp.toNatClampNeg + n.toNatClampNeg ≤ n0') (g5 : dp.toNatClampNeg + n.toNatClampNeg ≤ n1) (hfit : ∀ i, fits .byte (.int (f i)) = true) (hR : 1 ≤ (κR κ).frames ∧ csum rest + (nativeFrameWords "java/lang/System" "arraycopy" 5 + 11) ≤ (κR κ).locals)
    (k : AW κ Q (pc + 3) ls rest (AH.set a (.inl (3, n1, .inl (va_cpy f g sp.toNatClampNeg dp.toNatClampNeg n.toNatClampNeg)))) nc ns) : AW κ Q pc ls (.int n :: .int dp :: .ref a :: .int sp :: .ref a0 :: rest) AH nc ns := by
  have hd := cxdec X hd
  obtain ⟨p, l, e, R, s, m, args, below, meth, c, D, cA, A, n0, ad0⟩ := κ
  obtain ⟨hx, hb, hml, hown, hts, hK, hG, hA, hlk, htr, hrt, hnm, hz, hf⟩ := X
  intro ad H locs lsA h1 h2 h3 hP hD hS hL
  refine va_copyi hx hb hL.1.symm hown (hts _ (ALL_of hl)) (hts _ (ALL_of h4)) (hts _ (ALL_of h5)) (hts _ (ALL_of h6)) hK hP hD hS a0 a 3 3 (cw_at ha0) (cw_at ha1) rfl rfl rfl g1 g2 g3 g4 g5 (fun _ _ => hfit _) hR.1 (by rw [csum_map]; exact hR.2) hd (fun H1 locs1 hP1 hD1 hS1 => ?_)
  have e1 := cw_set (cA := cA) (ad := ad) (AH := AH) (k := a) (c := .inl (3, n1, .inl (va_cpy f g sp.toNatClampNeg dp.toNatClampNeg n.toNatClampNeg)))
  exact k ad H1 locs1 lsA h1 (by rw [List.length_set]; exact h2) (by rw [List.length_set]; exact h3) (e1 ▸ hP1) (e1 ▸ hD1) hS1 hL
end GROWC
