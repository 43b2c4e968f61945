/-! ===== 16a: a call that throws, under handlers ===== -/
def upd64 (A : Nat → Int64) (x : Int64) : Nat → Int64 := fun j => if j = Int32.toNatClampNeg 0 then x else A j
section CATCH
variable {κ : KX} {z y : MZ} {Q : State → Prop} {pc : Nat} {ls : List (Option Value)} {st rest : List Value} {AH AHs : List AC} {nc ns d mc ms : Nat} {As : List Value}
theorem q_callVc (X : CX κ z) (ι δ : List Nat) {o ci index n : Nat} {fs : List Value} {r9 : vw_C} {E : String} {W2 AH2 : List AC} (hM : Sem y d mc ms (.ref o :: As) AHs (PST (.inr E) W2)) (hk : PK ι δ AH AHs) (hd : fetch (zC z) pc = some (.invokevirtual index, 3)) (hy : LKV y n) (hl : LKA (zY z).cls index y) (hn : As.length = n) (ho : AHs[o]? = some (.inr (ci, fs))) (hr9 : vwCl[ci]? = some r9) (hcl : r9.1 = (zY y).cls) (hst : st = (As.map (cvV (iof ι δ AH.length))).reverse ++ cvV (iof ι δ AH.length) (.ref o) :: rest) (hfit : FitR (κR κ) y d mc ms nc ns) (hsum : csum rest ≤ 8) (hsb : ι.length ≤ SB) (hlen : W2.length = AHs.length) (hput : putB AH ι (W2.map (rnE (iof ι δ AH.length))) = AH2)
    (k : AX κ Q E pc ls rest AH2 (nc + mc) (ns + ms)) : AW κ Q pc ls st AH nc ns := by
  subst hput
  exact r_callV X ι δ hM hk hd hy hl hn ho hr9 hcl hst hfit hsum hsb (fun _ _ e => (congrArg List.length e.2).trans hlen) (fun v9 A9 e => by
    have e1 := e.1
    cases e1) (fun E9 A9 e => by
    obtain ⟨e1, rfl⟩ := e
    cases e1
    exact k)
end CATCH
