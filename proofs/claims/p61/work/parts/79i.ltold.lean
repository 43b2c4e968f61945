/-! ===== 79i: the text is told (gen79i.py) ===== -/
theorem set_same {l : List AC} {i : Nat} {c : AC} (h : l[i]? = some c) : l.set i c = l := by
  apply List.ext_getElem?
  intro j
  by_cases e : i = j
  · subst e
    rw [List.getElem?_set_self (List.getElem?_eq_some_iff.mp h).1, h]
  · rw [List.getElem?_set_ne e]
def strC (k : Nat) : AC := .inr (11, [.ref k, .int 0, .int 0, .int 0])
/-- the text that the law has built, as a String behind the world -/
theorem tstr_k {κ : KX} {Q : State → Prop} {z : MZ} (X : CX κ z) (hR : κR κ = room_1) {pc n nc ns : Nat} {rest : List Value} {ls : List (Option Value)} {F AH : List AC} {T : List Nat} (hd : fetch (zC z) pc = some (.invokevirtual 221, 3)) (hl : inALL (.methodLink (zY z).cls 221 (zY z_J4_toString_0e30d)) = true) (hF : FOK F) (hB : BLD F T n AH) (hls : ∀ N, 199 < N → cloL N ls = true) (hrest : ∀ N, 199 < N → rest.all (cloV N) = true) (hsum : csum rest ≤ 8) (hn2 : n ≤ 900) (hnc : nc + 2 ≤ 600086) (hns : ns + 1004 ≤ 7301442)
    (kk : ∀ g, (∀ j c, T[j]? = some c → g j = nI c) → AW κ Q (pc + 3) ls (.ref AH.length :: rest) (AH ++ [strC (AH.length + 1), .inl (3, T.length, .inl g)]) (nc + 2) (ns + 1004)) : AW κ Q pc ls (.ref 199 :: rest) AH nc ns := by
  have hclo := hB.clo hF
  obtain ⟨m, f, ml, vb, G, e, ⟨h1, h2⟩, h3, ⟨b1, b2, b3⟩, h5, h6, h7⟩ := hB
  refine r_gV X [199, vb] [] (o := 0) (ci := 10) (As := []) (rest := rest) (c_toStr (m := m) (n := T.length) (f := f) (ml := ml) b1 (by omega) b3) (BLD.pk hF e h1 h3) hd k_J4_toString_0e30d hl rfl rfl rfl rfl rfl (fitR hR (by decide) (by decide) hnc hns) hsum (fun _ h => by cases h) (by have : SB = 1000000 := rfl; omega) (Nat.le_of_ble_eq_true rfl) ⟨hclo, hrest _ (by omega), hls _ (by omega)⟩ (clo_all rfl) grw_PSR (fun v W2 hp => ?_)
  obtain ⟨ev, g, hg, hb, rfl⟩ := hp
  cases ev
  have e1 : AH[199]? = some (sbC vb ml T) := by rw [e, fb_at hF]
  have e2 : grow AH [199, vb] [] (WB m f ml (nI T.length) ++ [.inr (11, [.ref 3, .int 0, .int 0, .int 0]), .inl (3, T.length, .inl g)]) = (AH.set 199 (sbC vb ml T)).set vb (.inl (3, m, .inl f)) ++ [strC (AH.length + 1), .inl (3, T.length, .inl g)] := rfl
  rw [set_same e1, set_same h3] at e2
  refine AW.eq (pc' := pc + 3) (ls' := ls) (st' := .ref AH.length :: rest) (AH' := AH ++ [strC (AH.length + 1), .inl (3, T.length, .inl g)]) (kk g (fun j c hj => ?_)) rfl rfl rfl e2
  rw [hg j (List.getElem?_eq_some_iff.mp hj).1]
  exact b2 j c hj
theorem grw_PTO {hs : Int32} {g : Nat → Int32} {T : List Nat} : GRW 5 (PTO hs g T) := by
  refine ⟨fun v W2 hp => ?_, fun E W2 hp => ?_⟩
  · obtain ⟨ev, R', tail, h1, h2, h3, h4, rfl⟩ := hp
    have hl : (WTL hs R' g T.length tail).length = tail.length + 5 := rfl
    refine ⟨by rw [hl]; omega, by rw [hl]; omega, fun c hc => ?_, fun w hw => ?_⟩
    · rcases List.mem_append.mp (show c ∈ WTL hs R' g T.length [] ++ tail from hc) with hc | hc
      · exact cloE_mono (by rw [hl]; omega) (clo_all (n := 5) (AH := WTL hs R' g T.length []) rfl c hc)
      · obtain ⟨a, rfl⟩ := h4 c hc
        trivial
    · cases ev
      cases hw
  · obtain ⟨ev, -⟩ := hp
    cases ev
section LAWC
variable {κ : KX} {Q : State → Prop} {nm : String} {x : Int32} {R4 : RV} {Y1 : YV} {S1 C1 : SV} {D1 : UV} {V : QV}
set_option maxRecDepth 20000 in
set_option maxHeartbeats 1000000 in
theorem law_t (X : CX κ (z_W nm)) (hR : κR κ = room_1) {i : Int32} {T : List Nat} {n nc ns : Nat} {AH : List AC} (hB : BLD (LAt 0 R4 tv0 ov0 Y1 S1 C1 sv0 D1 uv0 V) T n AH) (hn2 : n ≤ 900) (hT : ∀ p, T.getD p 32 < 128) (hl : T.length ≤ 80) (h0 : RVLn R4 = 0) (hnc : nc + 6 ≤ 600086) (hns : ns + 1024 ≤ 7301442)
    (K : ∀ R' rest, RVLn R' = nI T.length → TXc T (RVTx R') → AW κ Q 179 (W6 x i) [] ((LAt 0 R' tv0 ov0 Y1 S1 C1 sv0 D1 uv0 V) ++ rest) (nc + 6) (ns + 1024)) : AW κ Q 170 (W6 x i) [] AH nc ns := by
  refine go_s 2 X (pc2 := 173) (st2 := [.ref 199, .ref 0]) rfl ?_
  refine tstr_k X hR rfl m_LW_221 FOKt hB (fun N h => w6_cl h) (fun N h => ?_) (by decide) hn2 (by omega) (by omega) (fun g hg => ?_)
  · show (cloV N (.ref 0) && true) = true
    rw [cloV_lt (by omega)]
    rfl
  have hclo := hB.clo FOKt
  have hlen : 199 < AH.length ∧ AH.length ≤ 900 := by
    obtain ⟨m, f, ml, vb, G, e, ⟨h1, h2⟩, h3, h4, h5, h6, h7⟩ := hB
    omega
  obtain ⟨rest, rfl, -⟩ := hB.split FOKt
  generalize hN : ((LAt 0 R4 tv0 ov0 Y1 S1 C1 sv0 D1 uv0 V) ++ rest).length = N at *
  have hN2 : ((LAt 0 R4 tv0 ov0 Y1 S1 C1 sv0 D1 uv0 V) ++ rest ++ [strC (N + 1), .inl (3, T.length, .inl g)]).length = N + 2 := by rw [List.length_append, hN]; rfl
  have hx : ∀ R', (((LAt 0 R' tv0 ov0 Y1 S1 C1 sv0 D1 uv0 V) ++ rest) ++ [strC (N + 1), .inl (3, T.length, .inl g)])[N]? = some (strC (N + 1)) ∧ (((LAt 0 R' tv0 ov0 Y1 S1 C1 sv0 D1 uv0 V) ++ rest) ++ [strC (N + 1), .inl (3, T.length, .inl g)])[N + 1]? = some (.inl (3, T.length, .inl g)) := by
    intro R'
    have hq : ((LAt 0 R' tv0 ov0 Y1 S1 C1 sv0 D1 uv0 V) ++ rest).length = N := by
      rw [← hN, List.length_append, List.length_append, la_len_t, la_len_t]
    refine ⟨?_, ?_⟩
    · rw [List.getElem?_append_right (by rw [hq]; exact Nat.le_refl _), hq, Nat.sub_self]
      rfl
    · rw [List.getElem?_append_right (by rw [hq]; omega), hq, Nat.add_sub_cancel_left]
      rfl
  have hpk : PK [0, 1, 2, N, N + 1] dlt ((LAt 0 R4 tv0 ov0 Y1 S1 C1 sv0 D1 uv0 V) ++ rest ++ [strC (N + 1), .inl (3, T.length, .inl g)]) (WTL 0 R4 g T.length []) := by
    refine ⟨?_, ?_⟩
    · have e0 : (0 : Nat) ≠ N := by omega
      have e1 : (1 : Nat) ≠ N := by omega
      have e2 : (2 : Nat) ≠ N := by omega
      have e4 : (1 : Nat) ≠ N + 1 := by omega
      have e5 : (2 : Nat) ≠ N + 1 := by omega
      have e6 : N ≠ 0 := by omega
      have e7 : N ≠ 1 := by omega
      simp [va_nd, e0, e1, e2, e4, e5, e6, e7]
      try omega
    · rw [List.map_cons, List.map_cons, List.map_cons, List.map_cons, List.map_cons, List.map_nil, (hx R4).1, (hx R4).2]
      rfl
  refine r_gS X [0, 1, 2, N, N + 1] dlt (As := [.ref 0, .ref 3]) (rest := []) (c_L_told (hs := 0) (R := R4) (g := g) hT hg hl h0) hpk rfl k_L_told m_LW_225 rfl rfl (fitR hR (by decide) (by decide) (by omega) (by omega)) (by decide) (fun q hq => ?_) (by rw [hN2]; have : SB = 1000000 := rfl; omega) (Nat.le_of_ble_eq_true rfl) ⟨?_, rfl, w6_cl (by rw [hN2]; omega)⟩ (clo_all rfl) grw_PTO (fun v W2 hp => ?_)
  · refine Or.inl (Nat.lt_of_lt_of_le (show q < 199 from ?_) (by rw [hN2]; omega))
    exact (show ∀ q, q ∈ dlt → q < 199 by decide) q hq
  · intro c hc
    rw [hN2]
    rcases List.mem_append.mp hc with hc | hc
    · exact cloE_mono (by omega) (hclo c hc)
    · rcases List.mem_cons.mp hc with rfl | hc
      · show (cloV _ (.ref (N + 1)) && (true && (true && (true && true)))) = true
        rw [cloV_lt (by omega)]
        rfl
      · rw [List.mem_singleton] at hc
        subst hc
        trivial
  · obtain ⟨ev, R', tail, h1, h2, h3, h4, rfl⟩ := hp
    cases ev
    have e2 : grow ((LAt 0 R4 tv0 ov0 Y1 S1 C1 sv0 D1 uv0 V) ++ rest ++ [strC (N + 1), .inl (3, T.length, .inl g)]) [0, 1, 2, N, N + 1] dlt (WTL 0 R' g T.length tail) = (((LAt 0 R' tv0 ov0 Y1 S1 C1 sv0 D1 uv0 V) ++ rest ++ [strC (N + 1), .inl (3, T.length, .inl g)]).set N (strC (N + 1))).set (N + 1) (.inl (3, T.length, .inl g)) ++ tail.map (rnE (iof [0, 1, 2, N, N + 1] dlt ((LAt 0 R4 tv0 ov0 Y1 S1 C1 sv0 D1 uv0 V) ++ rest ++ [strC (N + 1), .inl (3, T.length, .inl g)]).length)) := rfl
    rw [set_same (hx R').1, set_same (hx R').2, List.append_assoc, List.append_assoc] at e2
    exact AW.eq (K R' _ h1 h2) rfl rfl rfl e2
end LAWC
