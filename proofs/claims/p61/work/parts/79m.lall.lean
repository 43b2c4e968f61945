/-! ===== 79m: the whole law (gen79i.py) ===== -/
theorem txt_ok {f : Nat → Nat} {n m : Nat} (hn : n ≤ 4) (hm : m ≤ 4) (hf : ∀ i, i < n → 1 ≤ f i ∧ f i ≤ 16) : ∀ c, c ∈ tQ f n ++ tO m → c < 128 := by
  have hd : ∀ s, s < 17 → ∀ c, c ∈ dg s → c < 128 := by decide
  have h1 : ∀ k, k ≤ n → ∀ c, c ∈ tQ f k → c < 128 := by
    intro k
    induction k with
    | zero => intro _ c hc; cases hc
    | succ k ih =>
      intro hk c hc
      rw [tQ, List.mem_append] at hc
      rcases hc with hc | hc
      · exact ih (by omega) c hc
      · have := hf k (by omega)
        simp only [qS, List.mem_append, List.mem_cons, List.not_mem_nil, or_false] at hc
        rcases hc with (h | h | h | h | h) | h | h | h | h | h
        all_goals first | omega | exact hd _ (by omega) c h
  have h2 : ∀ k, k ≤ m → ∀ c, c ∈ tO k → c < 128 := by
    intro k
    induction k with
    | zero => intro _ c hc; cases hc
    | succ k ih =>
      intro hk c hc
      rw [tO, List.mem_append] at hc
      rcases hc with hc | hc
      · exact ih (by omega) c hc
      · simp only [oS, List.mem_append, List.mem_cons, List.not_mem_nil, or_false] at hc
        rcases hc with (h | h | h | h | h) | h | h | h
        all_goals omega
  intro c hc
  rcases List.mem_append.mp hc with hc | hc
  · exact h1 n (Nat.le_refl _) c hc
  · exact h2 m (Nat.le_refl _) c hc
set_option maxRecDepth 20000 in
set_option maxHeartbeats 8000000 in
theorem law_all {κ : KX} {Q : State → Prop} {nm : String} {L : Nat} {xs : Nat → Int32} (X : CX κ (z_W nm)) (SX : SCX κ L xs) (hR : κR κ = room_1) (hL : L ≤ 260) (hend : ∀ (ls : List (Option Value)) (AH : List AC) (nc ns : Nat), nc ≤ 600086 → ns ≤ 7301442 → AW κ Q 250 ls [.int 1] AH nc ns) : AW κ Q 0 [some (.ref (SB + 201)), none, none, none, none, none] [] [] 0 0 := by
  refine law_a1 X hR (fun R4 Y1 S1 C1 D1 w h0 hA => law_a2 X hR ?_)
  obtain ⟨u, g, H, k, T0, hUB, ⟨hUI, hI, hC, hM, hH⟩, hCU, hK, hSC, hIN, hER, hO⟩ := hA
  have hY : YI Y1 := by
    obtain ⟨-, -, -, y, hy, hy2, -⟩ := hH
    exact ⟨y, hy, hy2⟩
  refine law_b X SX hR hL (fun x j j2 AH hj hj2 hB => ?_)
  have hV : QI (1 + j) (1 + j2) (QV_sNo (QV_sNq q00 (nI (1 + j))) (nI (1 + j2))) (fun _ => 0) 0 := ⟨rfl, rfl, rfl, fun k hk => absurd hk (Nat.not_lt_zero _), fun k => ⟨rfl, rfl⟩⟩
  refine law_q X hR (n := 1 + j) (m := 1 + j2) (by omega) (fun f V AH hV hB => ?_) (1 + j) 0 (by omega) (Nat.zero_le _) (fun _ => 0) _ AH hV hB
  have hf : ∀ i, i < 1 + j → 1 ≤ f i ∧ f i ≤ 16 := fun i hi => (hV.2.2.2.1 i hi).1
  refine go_l 2 X (pc2 := 133) (ls2 := W6 x (nI 0)) (st2 := []) rfl ?_
  refine AW.widen (nc' := 1020 + 3 * 0) (ns' := 40000 + 3000 * 0) (by omega) (by omega) ?_
  have hB0 : BLD (LAt 0 R4 tv0 ov0 Y1 S1 C1 sv0 D1 uv0 V) (tQ f (1 + j) ++ tO 0) (221 + 3 * 0) AH := by
    rw [show tQ f (1 + j) ++ tO 0 = tQ f (1 + j) from List.append_nil _]
    exact hB.mono (by omega)
  refine law_o X hR (n := 1 + j) (m := 1 + j2) (by omega) (by omega) hV.2.1 (fun AH hB => ?_) (1 + j2) 0 (by omega) (Nat.zero_le _) AH hB0
  have hlen : (tQ f (1 + j) ++ tO (1 + j2)).length ≤ 80 := by
    have h1 := tQ_len (f := f) (1 + j)
    have h2 := tO_len (1 + j2)
    rw [List.length_append]
    omega
  have hc := txt_ok (f := f) (n := 1 + j) (m := 1 + j2) (by omega) (by omega) hf
  refine law_t X hR hB (by omega) (fun p => ?_) hlen h0 (by omega) (by omega) (fun R' rest g1 g2 => ?_)
  · rw [List.getD]
    cases e : (tQ f (1 + j) ++ tO (1 + j2))[p]? with
    | none => decide
    | some c => exact hc c (List.mem_of_getElem? e)
  · refine AW.widen (nc' := 3000) (ns' := 100000) (by omega) (by omega) ?_
    exact law_d X SX hR hL hend (T := tQ f (1 + j) ++ tO (1 + j2)) ⟨by omega, fun i c hi => by have := hc c (List.mem_of_getElem? hi); omega⟩ g1 g2 hSC hY rfl ⟨by omega, by omega⟩ ⟨by omega, by omega⟩ hV
