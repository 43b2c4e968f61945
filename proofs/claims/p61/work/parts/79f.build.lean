/-! ===== 79f: the builder in the law's world ===== -/
def sbC (vb : Nat) (ml : Int32) (T : List Nat) : AC := .inr (10, [.ref vb, .int 0, .int ml, .int (nI T.length)])
def BYR (c : AC) : Prop := ∃ n h, c = (.inl (3, n, .inl h) : AC)
def BLD (F : List AC) (T : List Nat) (n : Nat) (AH : List AC) : Prop := ∃ (m : Nat) (f : Nat → Int32) (ml : Int32) (vb : Nat) (G : List AC), AH = F ++ sbC vb ml T :: G ∧ (199 < vb ∧ vb < AH.length) ∧ AH[vb]? = some (.inl (3, m, .inl f)) ∧ BT T m f ∧ (16 ≤ m ∧ m ≤ 164) ∧ (∀ c, c ∈ G → BYR c) ∧ AH.length ≤ n
def FOK (F : List AC) : Prop := F.length = 199 ∧ ∀ c ∈ F, cloE 199 c
theorem BYR.clo {n : Nat} {c : AC} (h : BYR c) : cloE n c := by
  obtain ⟨m, g, rfl⟩ := h
  trivial
theorem cloV_lt {n k : Nat} (h : k < n) : cloV n (.ref k) = true := by
  show (Nat.blt k n || Nat.ble SB k) = true
  rw [show Nat.blt k n = true from Nat.ble_eq_true_of_le h]
  rfl
theorem fb_len {F : List AC} (hF : FOK F) {c : AC} {G : List AC} : (F ++ c :: G).length = 200 + G.length := by
  rw [List.length_append, hF.1, List.length_cons]
  omega
theorem BLD.clo {F : List AC} {T : List Nat} {n : Nat} {AH : List AC} (hF : FOK F) (h : BLD F T n AH) : ∀ c ∈ AH, cloE AH.length c := by
  obtain ⟨m, f, ml, vb, G, rfl, ⟨h1, h2⟩, h3, h4, h5, h6, h7⟩ := h
  intro c hc
  rcases List.mem_append.mp hc with hc | hc
  · exact cloE_mono (by rw [fb_len hF]; omega) (hF.2 c hc)
  · rcases List.mem_cons.mp hc with rfl | hc
    · show (cloV _ (.ref vb) && (true && (true && (true && true)))) = true
      rw [cloV_lt h2]
      rfl
    · exact (h6 c hc).clo
theorem fb_at {F : List AC} (hF : FOK F) {c : AC} {G : List AC} : (F ++ c :: G)[199]? = some c := by
  rw [List.getElem?_append_right (by rw [hF.1]; exact Nat.le_refl _), hF.1]
  rfl
theorem fb_set {F : List AC} (hF : FOK F) {c d : AC} {G : List AC} : (F ++ c :: G).set 199 d = F ++ d :: G := by
  rw [List.set_append_right _ _ (by rw [hF.1]; exact Nat.le_refl _), hF.1]
  rfl
theorem fb_setG {F : List AC} (hF : FOK F) {c d : AC} {G : List AC} {k : Nat} (hk : 199 < k) : (F ++ c :: G).set k d = F ++ c :: G.set (k - 200) d := by
  rw [List.set_append_right _ _ (by rw [hF.1]; omega), hF.1, show k - 199 = (k - 200) + 1 by omega]
  rfl
theorem BLD.pk {F : List AC} {T : List Nat} {AH G : List AC} {m : Nat} {f : Nat → Int32} {ml : Int32} {vb : Nat} (hF : FOK F) (e : AH = F ++ sbC vb ml T :: G) (h1 : 199 < vb) (h3 : AH[vb]? = some (.inl (3, m, .inl f))) : PK [199, vb] [] AH (WB m f ml (nI T.length)) := by
  refine ⟨?_, ?_⟩
  · have h : (199 : Nat) ≠ vb := by omega
    simp [va_nd, h]
  · show [AH[199]?, AH[vb]?] = [some (sbC vb ml T), some (.inl (3, m, .inl f))]
    rw [h3, e, fb_at hF]
theorem BLD.next {F : List AC} {T T' : List Nat} {AH G W2 : List AC} {m n : Nat} {ml : Int32} {vb : Nat} {v : Option Value} (hF : FOK F) (e : AH = F ++ sbC vb ml T :: G) (h1 : 199 < vb) (h2 : vb < AH.length) (h5 : 16 ≤ m ∧ m ≤ 164) (h6 : ∀ c, c ∈ G → BYR c) (h7 : AH.length ≤ n) (hT : T'.length ≤ 80) (h : PAP T' m ml (.inl v) W2) : v = some (.ref 0) ∧ BLD F T' (n + 1) (grow AH [199, vb] [] W2) := by
  obtain ⟨ev, h⟩ := h
  have ev : v = some (.ref 0) := by
    cases ev
    rfl
  refine ⟨ev, ?_⟩
  rcases h with ⟨f', b, rfl⟩ | ⟨g, f', ⟨hm, b⟩, rfl⟩
  · have e2 : grow AH [199, vb] [] (WB m f' ml (nI T'.length)) = (AH.set 199 (sbC vb ml T')).set vb (.inl (3, m, .inl f')) ++ [] := rfl
    have hl : ((AH.set 199 (sbC vb ml T')).set vb (.inl (3, m, .inl f'))).length = AH.length := by rw [List.length_set, List.length_set]
    rw [e2, List.append_nil]
    refine ⟨m, f', ml, vb, G.set (vb - 200) (.inl (3, m, .inl f')), ?_, ⟨h1, by rw [hl]; exact h2⟩, ?_, b, h5, fun c hc => ?_, by rw [hl]; omega⟩
    · rw [e, fb_set hF, fb_setG hF h1]
    · rw [List.getElem?_set_self (by rw [List.length_set]; exact h2)]
    · rcases List.mem_or_eq_of_mem_set hc with hc | rfl
      · exact h6 c hc
      · exact ⟨_, _, rfl⟩
  · have e2 : grow AH [199, vb] [] (WG m g (2 * m + 2) f' ml (nI T'.length)) = (AH.set 199 (sbC AH.length ml T')).set vb (.inl (3, m, .inl g)) ++ [.inl (3, 2 * m + 2, .inl f')] := rfl
    have hl : ((AH.set 199 (sbC AH.length ml T')).set vb (.inl (3, m, .inl g))).length = AH.length := by rw [List.length_set, List.length_set]
    rw [e2]
    refine ⟨2 * m + 2, f', ml, AH.length, G.set (vb - 200) (.inl (3, m, .inl g)) ++ [.inl (3, 2 * m + 2, .inl f')], ?_, ⟨by omega, by rw [List.length_append, hl]; exact Nat.lt_succ_self _⟩, ?_, b, ⟨by omega, by omega⟩, fun c hc => ?_, by rw [List.length_append, hl]; exact Nat.succ_le_succ h7⟩
    · have e3 : AH.set 199 (sbC AH.length ml T') = F ++ sbC AH.length ml T' :: G := by
        conv => lhs; arg 1; rw [e]
        exact fb_set hF
      rw [e3, fb_setG hF h1]
      simp
    · rw [List.getElem?_append_right (by rw [hl]; exact Nat.le_refl _), hl, Nat.sub_self]
      rfl
    · rcases List.mem_append.mp hc with hc | hc
      · rcases List.mem_or_eq_of_mem_set hc with hc | rfl
        · exact h6 c hc
        · exact ⟨_, _, rfl⟩
      · rw [List.mem_singleton] at hc
        exact ⟨_, _, hc⟩
theorem fitR {κ : KX} {y : MZ} {d mc ms nc ns : Nat} (hR : κR κ = room_1) (hd : d ≤ 1000) (hz : zN y ≤ 21) (h1 : nc + mc ≤ 600086) (h2 : ns + ms ≤ 7301442) : FitR (κR κ) y d mc ms nc ns := by
  rw [hR]
  refine ⟨⟨?_, ?_⟩, h1, h2⟩
  · show d + 8 + 1 ≤ 2048
    omega
  · show 8 + (zN y + 11) + (40 * d + 240) ≤ 84000
    omega
theorem ap_k {κ : KX} {Q : State → Prop} {z y : MZ} (X : CX κ z) (hR : κR κ = room_1) {index pc n nc ns : Nat} {As rest : List Value} {ls : List (Option Value)} {F AH : List AC} {T T' : List Nat} (hM : ∀ (m : Nat) (f : Nat → Int32) (ml : Int32), 16 ≤ m → m ≤ 164 → BT T m f → Sem y 4 1 1000 (.ref 0 :: As) (WB m f ml (nI T.length)) (PAP T' m ml)) (hd : fetch (zC z) pc = some (.invokevirtual index, 3)) (hy : LKV y 1) (hcl : "java/lang/StringBuilder" = (zY y).cls) (hz : zN y ≤ 21) (hl : inALL (.methodLink (zY z).cls index (zY y)) = true) (hn : As.length = 1) (hAs : ∀ vb N, As.map (cvV (iof [199, vb] [] N)) = As) (hF : FOK F) (hB : BLD F T n AH) (hT : T'.length ≤ 80) (hls : ∀ N, 199 < N → cloL N ls = true) (hrest : ∀ N, 199 < N → rest.all (cloV N) = true) (hsum : csum rest ≤ 8) (hn2 : n ≤ 900) (hnc : nc + 1 ≤ 600086) (hns : ns + 1000 ≤ 7301442)
    (kk : ∀ AH', BLD F T' (n + 1) AH' → AW κ Q (pc + 3) ls (.ref 199 :: rest) AH' (nc + 1) (ns + 1000)) : AW κ Q pc ls (As.reverse ++ .ref 199 :: rest) AH nc ns := by
  have hclo := hB.clo hF
  obtain ⟨m, f, ml, vb, G, e, ⟨h1, h2⟩, h3, h4, h5, h6, h7⟩ := hB
  refine r_gV X [199, vb] [] (o := 0) (ci := 10) (As := As) (rest := rest) (hM m f ml h5.1 h5.2 h4) (BLD.pk hF e h1 h3) hd hy hl hn rfl rfl hcl ?_ (fitR hR (by decide) hz hnc hns) hsum (fun _ h => by cases h) (by have : SB = 1000000 := rfl; omega) (Nat.le_of_ble_eq_true rfl) ⟨hclo, hrest _ (by omega), hls _ (by omega)⟩ (clo_all rfl) grw_PAP (fun v W2 hp => ?_)
  · rw [hAs]
    rfl
  · obtain ⟨rfl, hb⟩ := BLD.next hF e h1 h2 h5 h6 h7 hT hp
    exact kk _ hb
theorem BLD.split {F : List AC} {T : List Nat} {n : Nat} {AH : List AC} (hF : FOK F) (h : BLD F T n AH) : ∃ rest, AH = F ++ rest ∧ ∀ F', FOK F' → BLD F' T n (F' ++ rest) := by
  obtain ⟨m, f, ml, vb, G, rfl, ⟨h1, h2⟩, h3, h4, h5, h6, h7⟩ := h
  refine ⟨sbC vb ml T :: G, rfl, fun F' hF' => ⟨m, f, ml, vb, G, rfl, ⟨h1, ?_⟩, ?_, h4, h5, h6, ?_⟩⟩
  · rw [fb_len hF] at h2
    rw [fb_len hF']
    exact h2
  · rw [List.getElem?_append_right (by rw [hF'.1]; omega), hF'.1]
    rw [List.getElem?_append_right (by rw [hF.1]; omega), hF.1] at h3
    exact h3
  · rw [fb_len hF] at h7
    rw [fb_len hF']
    exact h7
theorem BLD.mono {F : List AC} {T : List Nat} {n n' : Nat} {AH : List AC} (h : BLD F T n AH) (hn : n ≤ n') : BLD F T n' AH := by
  obtain ⟨m, f, ml, vb, G, h0, h1, h3, h4, h5, h6, h7⟩ := h
  exact ⟨m, f, ml, vb, G, h0, h1, h3, h4, h5, h6, Nat.le_trans h7 hn⟩
