/-! ===== 69hb: an int tested against 0, 1 or 0 in its place ===== -/
theorem setp_join {κ : KX} {z : MZ} {Q : State → Prop} {pc : Nat} {ls : List (Option Value)} {rest : List Value} {AH : List AC} {nc ns : Nat} (X : CX κ z) {x : Int32} {q : Bool} {off : Int} (t0 pe t1 : Nat) (hd : fetch (zC z) pc = some (.ifCond .eq off, 3)) (ht : (pc : Int) + off = (t0 : Int)) (hr0 : run z 1 (t0, ls, rest, AH) = some (pe, ls, .int 0 :: rest, AH)) (hr1 : run z 2 (t1, ls, rest, AH) = some (pe, ls, .int 1 :: rest, AH)) (hq0 : x = 0 → (0 : Int32) = b2i q) (hq1 : ¬ x = 0 → (1 : Int32) = b2i q) (h3 : pc + 3 = t1) (k : AW κ Q pe ls (.int (b2i q) :: rest) AH nc ns) : AW κ Q pc ls (.int x :: rest) AH nc ns := by
  refine r_if_eq X t0 hd ht (fun e => ?_) (fun e => ?_)
  · refine go_s 1 X hr0 ?_
    exact AW.eq k rfl rfl (congrArg (fun z => Value.int z :: rest) (hq0 e)) rfl
  · rw [h3]
    refine go_s 2 X hr1 ?_
    exact AW.eq k rfl rfl (congrArg (fun z => Value.int z :: rest) (hq1 e)) rfl
