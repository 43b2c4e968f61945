/-! ===== 10b: calls of methods whose contract names the answer and the world behind it ===== -/
theorem go_s {κ : KX} {z : MZ} {Q : State → Prop} (n : Nat) {pc pc2 : Nat} {ls : List (Option Value)} {st st2 : List Value} {AH : List AC} {nc ns : Nat} (X : CX κ z) (h : run z n (pc, ls, st, AH) = some (pc2, ls, st2, AH)) (k : AW κ Q pc2 ls st2 AH nc ns) : AW κ Q pc ls st AH nc ns := go n X h k
theorem go_l {κ : KX} {z : MZ} {Q : State → Prop} (n : Nat) {pc pc2 : Nat} {ls ls2 : List (Option Value)} {st st2 : List Value} {AH : List AC} {nc ns : Nat} (X : CX κ z) (h : run z n (pc, ls, st, AH) = some (pc2, ls2, st2, AH)) (k : AW κ Q pc2 ls2 st2 AH nc ns) : AW κ Q pc ls st AH nc ns := go n X h k
theorem oob_7 {x : Int32} (h : ¬ oob x 8) (h0 : ¬ x = 0) (h1 : ¬ x = 1) (h2 : ¬ x = 2) (h3 : ¬ x = 3) (h4 : ¬ x = 4) (h5 : ¬ x = 5) (h6 : ¬ x = 6) : x = 7 := by
  have hn : ¬ x < 0 := fun e => h (Or.inl e)
  have hl : x.toNatClampNeg < 8 := Nat.not_le.mp fun e => h (Or.inr e)
  have e1 : x.toInt = (x.toNatClampNeg : Int) := by
    have : 0 ≤ x.toInt := by
      rw [Int32.lt_iff_toInt_lt] at hn
      have : (0 : Int32).toInt = 0 := rfl
      omega
    show x.toInt = ((x.toInt.toNat : Nat) : Int)
    omega
  have key : ∀ n : Nat, n < 8 → x.toInt = (n : Int) → x = Int32.ofNat n := by
    intro n hn e
    have h9 : n = 0 ∨ n = 1 ∨ n = 2 ∨ n = 3 ∨ n = 4 ∨ n = 5 ∨ n = 6 ∨ n = 7 := by omega
    refine Int32.toInt_inj.mp ?_
    rw [e]
    rcases h9 with rfl | rfl | rfl | rfl | rfl | rfl | rfl | rfl <;> rfl
  have h9 := key _ hl e1
  have : x.toNatClampNeg = 0 ∨ x.toNatClampNeg = 1 ∨ x.toNatClampNeg = 2 ∨ x.toNatClampNeg = 3 ∨ x.toNatClampNeg = 4 ∨ x.toNatClampNeg = 5 ∨ x.toNatClampNeg = 6 ∨ x.toNatClampNeg = 7 := by omega
  rcases this with e | e | e | e | e | e | e | e <;> rw [e] at h9
  · exact absurd h9 h0
  · exact absurd h9 h1
  · exact absurd h9 h2
  · exact absurd h9 h3
  · exact absurd h9 h4
  · exact absurd h9 h5
  · exact absurd h9 h6
  · exact h9
section QCALLS
variable {κ : KX} {z y : MZ} {Q : State → Prop} {pc : Nat} {ls : List (Option Value)} {st rest : List Value} {AH AHs : List AC} {nc ns d mc ms : Nat} {As : List Value}
theorem q_callV (X : CX κ z) (ι δ : List Nat) {o ci index n : Nat} {fs : List Value} {r9 : vw_C} {v : Option Value} {W2 AH2 : List AC} {st2 : List Value} (hM : Sem y d mc ms (.ref o :: As) AHs (PST (.inl v) W2)) (hk : PK ι δ AH AHs) (hd : fetch (zC z) pc = some (.invokevirtual index, 3)) (hy : LKV y n) (hl : LKA (zY z).cls index y) (hn : As.length = n) (ho : AHs[o]? = some (.inr (ci, fs))) (hr9 : vwCl[ci]? = some r9) (hcl : r9.1 = (zY y).cls) (hst : st = (As.map (cvV (iof ι δ AH.length))).reverse ++ cvV (iof ι δ AH.length) (.ref o) :: rest) (hfit : FitR (κR κ) y d mc ms nc ns) (hsum : csum rest ≤ 8) (hsb : ι.length ≤ SB) (hlen : W2.length = AHs.length) (hput : putB AH ι (W2.map (rnE (iof ι δ AH.length))) = AH2) (hv : (v.map (cvV (iof ι δ AH.length))).toList ++ rest = st2)
    (k : AW κ Q (pc + 3) ls st2 AH2 (nc + mc) (ns + ms)) : AW κ Q pc ls st AH nc ns := by
  subst hput
  subst hv
  exact r_callV X ι δ hM hk hd hy hl hn ho hr9 hcl hst hfit hsum hsb (fun _ _ e => (congrArg List.length e.2).trans hlen) (fun v9 A9 e => by
    obtain ⟨e1, rfl⟩ := e
    cases e1
    exact k) (fun E9 A9 e => by
    have e1 := e.1
    cases e1)
theorem q_callVx (X : CX κ z) (hE : CE κ) (ι δ : List Nat) {o ci index n : Nat} {fs : List Value} {r9 : vw_C} {E : String} {W2 AH2 : List AC} {P9 : PO} {mc9 ms9 : Nat} (hM : Sem y d mc ms (.ref o :: As) AHs (PST (.inr E) W2)) (hk : PK ι δ AH AHs) (hd : fetch (zC z) pc = some (.invokevirtual index, 3)) (hy : LKV y n) (hl : LKA (zY z).cls index y) (hn : As.length = n) (ho : AHs[o]? = some (.inr (ci, fs))) (hr9 : vwCl[ci]? = some r9) (hcl : r9.1 = (zY y).cls) (hst : st = (As.map (cvV (iof ι δ AH.length))).reverse ++ cvV (iof ι δ AH.length) (.ref o) :: rest) (hfit : FitR (κR κ) y d mc ms nc ns) (hsum : csum rest ≤ 8) (hsb : ι.length ≤ SB) (hlen : W2.length = AHs.length) (hput : putB AH ι (W2.map (rnE (iof ι δ AH.length))) = AH2)
    (hP0 : P9 (.inr E) AH2) (hc : nc + mc ≤ mc9) (hs : ns + ms ≤ ms9) : AW κ (QM κ P9 mc9 ms9) pc ls st AH nc ns := by
  subst hput
  exact r_callV X ι δ hM hk hd hy hl hn ho hr9 hcl hst hfit hsum hsb (fun _ _ e => (congrArg List.length e.2).trans hlen) (fun v9 A9 e => by
    have e1 := e.1
    cases e1) (fun E9 A9 e => by
    obtain ⟨e1, rfl⟩ := e
    cases e1
    exact x_out X hE hP0 hc hs)
theorem q_callS (X : CX κ z) (ι δ : List Nat) {index n : Nat} {v : Option Value} {W2 AH2 : List AC} {st2 : List Value} (hM : Sem y d mc ms (As) AHs (PST (.inl v) W2)) (hk : PK ι δ AH AHs) (hd : fetch (zC z) pc = some (.invokestatic index, 3)) (hy : LKS y n) (hl : LKA (zY z).cls index y) (hn : As.length = n) (hst : st = (As.map (cvV (iof ι δ AH.length))).reverse ++ rest) (hfit : FitR (κR κ) y d mc ms nc ns) (hsum : csum rest ≤ 8) (hsb : ι.length ≤ SB) (hlen : W2.length = AHs.length) (hput : putB AH ι (W2.map (rnE (iof ι δ AH.length))) = AH2) (hv : (v.map (cvV (iof ι δ AH.length))).toList ++ rest = st2)
    (k : AW κ Q (pc + 3) ls st2 AH2 (nc + mc) (ns + ms)) : AW κ Q pc ls st AH nc ns := by
  subst hput
  subst hv
  exact r_callS X ι δ hM hk hd hy hl hn hst hfit hsum hsb (fun _ _ e => (congrArg List.length e.2).trans hlen) (fun v9 A9 e => by
    obtain ⟨e1, rfl⟩ := e
    cases e1
    exact k) (fun E9 A9 e => by
    have e1 := e.1
    cases e1)
theorem q_callSx (X : CX κ z) (hE : CE κ) (ι δ : List Nat) {index n : Nat} {E : String} {W2 AH2 : List AC} {P9 : PO} {mc9 ms9 : Nat} (hM : Sem y d mc ms (As) AHs (PST (.inr E) W2)) (hk : PK ι δ AH AHs) (hd : fetch (zC z) pc = some (.invokestatic index, 3)) (hy : LKS y n) (hl : LKA (zY z).cls index y) (hn : As.length = n) (hst : st = (As.map (cvV (iof ι δ AH.length))).reverse ++ rest) (hfit : FitR (κR κ) y d mc ms nc ns) (hsum : csum rest ≤ 8) (hsb : ι.length ≤ SB) (hlen : W2.length = AHs.length) (hput : putB AH ι (W2.map (rnE (iof ι δ AH.length))) = AH2)
    (hP0 : P9 (.inr E) AH2) (hc : nc + mc ≤ mc9) (hs : ns + ms ≤ ms9) : AW κ (QM κ P9 mc9 ms9) pc ls st AH nc ns := by
  subst hput
  exact r_callS X ι δ hM hk hd hy hl hn hst hfit hsum hsb (fun _ _ e => (congrArg List.length e.2).trans hlen) (fun v9 A9 e => by
    have e1 := e.1
    cases e1) (fun E9 A9 e => by
    obtain ⟨e1, rfl⟩ := e
    cases e1
    exact x_out X hE hP0 hc hs)
end QCALLS
