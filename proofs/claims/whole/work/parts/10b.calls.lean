/-! ===== 10b: calls of methods whose contract names the answer and the world behind it ===== -/
section QCALLS
variable {κ : KX} {z y : MZ} {Q : State → Prop} {pc : Nat} {ls : List (Option Value)} {st rest : List Value} {AH AHs : List AC} {nc ns d mc ms : Nat} {As : List Value}
theorem q_callV (X : CX κ z) (ι δ : List Nat) {o ci index n : Nat} {fs : List Value} {r9 : vw_C} {v : Option Value} {W2 AH2 : List AC} {st2 : List Value} (hM : Sem y d mc ms (.ref o :: As) AHs (PST (.inl v) W2)) (hk : PK ι δ AH AHs) (hd : fetch (zC z) pc = some (.invokevirtual index, 3)) (hy : LKV y n) (hl : LKA (zY z).cls index y) (hn : As.length = n) (ho : AHs[o]? = some (.inr (ci, fs))) (hr9 : vwCl[ci]? = some r9) (hcl : r9.1 = (zY y).cls) (hst : st = (As.map (cvV (iof ι δ AH.length))).reverse ++ cvV (iof ι δ AH.length) (.ref o) :: rest) (hfit : FitR (κR κ) y d mc ms nc ns) (hsum : csum rest ≤ 8) (hsb : ι.length ≤ SB) (hlen : W2.length = AHs.length) (hput : putB AH ι (W2.map (rnE (iof ι δ AH.length))) = AH2) (hv : (v.map (cvV (iof ι δ AH.length))).toList ++ rest = st2)
    (k : AW κ Q (pc + 3) ls st2 AH2 (nc + mc) (ns + ms)) : AW κ Q pc ls st AH nc ns := by
  subst hput
  subst hv
  exact r_callV X ι δ hM hk hd hy hl hn ho hr9 hcl hst hfit hsum hsb (fun _ _ e => (congrArg List.length e.2).trans hlen) (fun v9 A9 e => by
    obtain ⟨e1, rfl⟩ := e
    cases e1
    exact k) (fun E9 A9 e => by
    have e1 := e.1
    cases e1)
theorem q_callVx (X : CX κ z) (hE : CE κ) (ι δ : List Nat) {o ci index n : Nat} {fs : List Value} {r9 : vw_C} {E : String} {W2 AH2 : List AC} {P9 : PO} {mc9 ms9 : Nat} (hM : Sem y d mc ms (.ref o :: As) AHs (PST (.inr E) W2)) (hk : PK ι δ AH AHs) (hd : fetch (zC z) pc = some (.invokevirtual index, 3)) (hy : LKV y n) (hl : LKA (zY z).cls index y) (hn : As.length = n) (ho : AHs[o]? = some (.inr (ci, fs))) (hr9 : vwCl[ci]? = some r9) (hcl : r9.1 = (zY y).cls) (hst : st = (As.map (cvV (iof ι δ AH.length))).reverse ++ cvV (iof ι δ AH.length) (.ref o) :: rest) (hfit : FitR (κR κ) y d mc ms nc ns) (hsum : csum rest ≤ 8) (hsb : ι.length ≤ SB) (hlen : W2.length = AHs.length) (hput : putB AH ι (W2.map (rnE (iof ι δ AH.length))) = AH2)
    (hP0 : P9 (.inr E) AH2) (hc : nc + mc ≤ mc9) (hs : ns + ms ≤ ms9) : AW κ (QM κ P9 mc9 ms9) pc ls st AH nc ns := by
  subst hput
  exact r_callV X ι δ hM hk hd hy hl hn ho hr9 hcl hst hfit hsum hsb (fun _ _ e => (congrArg List.length e.2).trans hlen) (fun v9 A9 e => by
    have e1 := e.1
    cases e1) (fun E9 A9 e => by
    obtain ⟨e1, rfl⟩ := e
    cases e1
    exact x_out X hE hP0 hc hs)
theorem q_callS (X : CX κ z) (ι δ : List Nat) {index n : Nat} {v : Option Value} {W2 AH2 : List AC} {st2 : List Value} (hM : Sem y d mc ms (As) AHs (PST (.inl v) W2)) (hk : PK ι δ AH AHs) (hd : fetch (zC z) pc = some (.invokestatic index, 3)) (hy : LKS y n) (hl : LKA (zY z).cls index y) (hn : As.length = n) (hst : st = (As.map (cvV (iof ι δ AH.length))).reverse ++ rest) (hfit : FitR (κR κ) y d mc ms nc ns) (hsum : csum rest ≤ 8) (hsb : ι.length ≤ SB) (hlen : W2.length = AHs.length) (hput : putB AH ι (W2.map (rnE (iof ι δ AH.length))) = AH2) (hv : (v.map (cvV (iof ι δ AH.length))).toList ++ rest = st2)
    (k : AW κ Q (pc + 3) ls st2 AH2 (nc + mc) (ns + ms)) : AW κ Q pc ls st AH nc ns := by
  subst hput
  subst hv
  exact r_callS X ι δ hM hk hd hy hl hn hst hfit hsum hsb (fun _ _ e => (congrArg List.length e.2).trans hlen) (fun v9 A9 e => by
    obtain ⟨e1, rfl⟩ := e
    cases e1
    exact k) (fun E9 A9 e => by
    have e1 := e.1
    cases e1)
theorem q_callSx (X : CX κ z) (hE : CE κ) (ι δ : List Nat) {index n : Nat} {E : String} {W2 AH2 : List AC} {P9 : PO} {mc9 ms9 : Nat} (hM : Sem y d mc ms (As) AHs (PST (.inr E) W2)) (hk : PK ι δ AH AHs) (hd : fetch (zC z) pc = some (.invokestatic index, 3)) (hy : LKS y n) (hl : LKA (zY z).cls index y) (hn : As.length = n) (hst : st = (As.map (cvV (iof ι δ AH.length))).reverse ++ rest) (hfit : FitR (κR κ) y d mc ms nc ns) (hsum : csum rest ≤ 8) (hsb : ι.length ≤ SB) (hlen : W2.length = AHs.length) (hput : putB AH ι (W2.map (rnE (iof ι δ AH.length))) = AH2)
    (hP0 : P9 (.inr E) AH2) (hc : nc + mc ≤ mc9) (hs : ns + ms ≤ ms9) : AW κ (QM κ P9 mc9 ms9) pc ls st AH nc ns := by
  subst hput
  exact r_callS X ι δ hM hk hd hy hl hn hst hfit hsum hsb (fun _ _ e => (congrArg List.length e.2).trans hlen) (fun v9 A9 e => by
    have e1 := e.1
    cases e1) (fun E9 A9 e => by
    obtain ⟨e1, rfl⟩ := e
    cases e1
    exact x_out X hE hP0 hc hs)
end QCALLS
