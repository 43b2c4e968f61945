/-! ===== 04: straight stretches by evaluation; rows with a side condition ===== -/
abbrev SQ : Type := Nat × List (Option Value) × List Value × List AC
def gd (a b : Nat) (x : SQ) : Option SQ := bif Nat.beq a b then some x else none
theorem gd_some {a b : Nat} {x y : SQ} (h : gd a b x = some y) : a = b ∧ x = y := by
  unfold gd at h
  cases hb : Nat.beq a b with
  | true => rw [hb] at h; cases h; exact ⟨Nat.eq_of_beq_eq_true hb, rfl⟩
  | false => rw [hb] at h; cases h
def step1 (F : List (Nat × Nat × Nat)) (I : Instr) (len pc : Nat) (ls : List (Option Value)) (st : List Value) (AH : List AC) : Option SQ :=
  match I with
  | .iconst n => gd len 1 (pc + 1, ls, .int (Int32.ofInt n) :: st, AH)
  | .bipush n => gd len 2 (pc + 2, ls, .int (Int8.ofInt n).toInt32 :: st, AH)
  | .sipush n => gd len 3 (pc + 3, ls, .int (Int16.ofInt n).toInt32 :: st, AH)
  | .lconst n => gd len 1 (pc + 1, ls, .long (Int64.ofNat (n : Nat)) :: st, AH)
  | .dconst n => if n = 0 then gd len 1 (pc + 1, ls, .double FP.dconst0 :: st, AH) else none
  | .fconst n => if n = 0 then gd len 1 (pc + 1, ls, .float FP.fconst0 :: st, AH) else none
  | .iload_n n => match ls[(n : Nat)]? with
    | some (some (.int x)) => gd len 1 (pc + 1, ls, .int x :: st, AH)
    | _ => none
  | .iload i => match ls[i]? with
    | some (some (.int x)) => gd len 2 (pc + 2, ls, .int x :: st, AH)
    | _ => none
  | .lload_n n => match ls[(n : Nat)]? with
    | some (some (.long x)) => gd len 1 (pc + 1, ls, .long x :: st, AH)
    | _ => none
  | .lload i => match ls[i]? with
    | some (some (.long x)) => gd len 2 (pc + 2, ls, .long x :: st, AH)
    | _ => none
  | .dload_n n => match ls[(n : Nat)]? with
    | some (some (.double x)) => gd len 1 (pc + 1, ls, .double x :: st, AH)
    | _ => none
  | .dload i => match ls[i]? with
    | some (some (.double x)) => gd len 2 (pc + 2, ls, .double x :: st, AH)
    | _ => none
  | .aload_n n => match ls[(n : Nat)]? with
    | some (some (.ref x)) => gd len 1 (pc + 1, ls, .ref x :: st, AH)
    | some (some (.null)) => gd len 1 (pc + 1, ls, .null :: st, AH)
    | _ => none
  | .aload i => match ls[i]? with
    | some (some (.ref x)) => gd len 2 (pc + 2, ls, .ref x :: st, AH)
    | some (some (.null)) => gd len 2 (pc + 2, ls, .null :: st, AH)
    | _ => none
  | .istore_n n => match st with
    | .int x :: r => if (n : Nat) < ls.length then gd len 1 (pc + 1, lset1 ls (n : Nat) (.int x), r, AH) else none
    | _ => none
  | .istore i => match st with
    | .int x :: r => if i < ls.length then gd len 2 (pc + 2, lset1 ls i (.int x), r, AH) else none
    | _ => none
  | .lstore_n n => match st with
    | .long x :: r => if (n : Nat) + 1 < ls.length then gd len 1 (pc + 1, lset2 ls (n : Nat) (.long x), r, AH) else none
    | _ => none
  | .lstore i => match st with
    | .long x :: r => if i + 1 < ls.length then gd len 2 (pc + 2, lset2 ls i (.long x), r, AH) else none
    | _ => none
  | .dstore_n n => match st with
    | .double x :: r => if (n : Nat) + 1 < ls.length then gd len 1 (pc + 1, lset2 ls (n : Nat) (.double x), r, AH) else none
    | _ => none
  | .dstore i => match st with
    | .double x :: r => if i + 1 < ls.length then gd len 2 (pc + 2, lset2 ls i (.double x), r, AH) else none
    | _ => none
  | .astore_n n => match st with
    | .ref x :: r => if (n : Nat) < ls.length then gd len 1 (pc + 1, lset1 ls (n : Nat) (.ref x), r, AH) else none
    | _ => none
  | .astore i => match st with
    | .ref x :: r => if i < ls.length then gd len 2 (pc + 2, lset1 ls i (.ref x), r, AH) else none
    | _ => none
  | .iinc i n => match ls[i]? with
    | some (some (.int x)) => gd len 3 (pc + 3, lset1 ls i (.int (x + Int32.ofInt n)), st, AH)
    | _ => none
  | .iadd  => match st with
    | .int y :: .int x :: r => gd len 1 (pc + 1, ls, .int (x + y) :: r, AH)
    | _ => none
  | .isub  => match st with
    | .int y :: .int x :: r => gd len 1 (pc + 1, ls, .int (x - y) :: r, AH)
    | _ => none
  | .imul  => match st with
    | .int y :: .int x :: r => gd len 1 (pc + 1, ls, .int (x * y) :: r, AH)
    | _ => none
  | .iand  => match st with
    | .int y :: .int x :: r => gd len 1 (pc + 1, ls, .int (x &&& y) :: r, AH)
    | _ => none
  | .ishr  => match st with
    | .int y :: .int x :: r => gd len 1 (pc + 1, ls, .int (x >>> (y &&& 31)) :: r, AH)
    | _ => none
  | .iushr  => match st with
    | .int y :: .int x :: r => gd len 1 (pc + 1, ls, .int (x.toUInt32 >>> (y.toUInt32 &&& Int32.toUInt32 31)).toInt32 :: r, AH)
    | _ => none
  | .lor  => match st with
    | .long y :: .long x :: r => gd len 1 (pc + 1, ls, .long (x ||| y) :: r, AH)
    | _ => none
  | .lcmp  => match st with
    | .long y :: .long x :: r => gd len 1 (pc + 1, ls, .int (lg_cmp x y) :: r, AH)
    | _ => none
  | .lshl  => match st with
    | .int y :: .long x :: r => gd len 1 (pc + 1, ls, .long (x <<< (y.toInt64 &&& 63)) :: r, AH)
    | _ => none
  | .lushr  => match st with
    | .int y :: .long x :: r => gd len 1 (pc + 1, ls, .long (x.toUInt64 >>> (y.toInt64.toUInt64 &&& Int64.toUInt64 63)).toInt64 :: r, AH)
    | _ => none
  | .i2l  => match st with
    | .int x :: r => gd len 1 (pc + 1, ls, .long x.toInt64 :: r, AH)
    | _ => none
  | .l2i  => match st with
    | .long x :: r => gd len 1 (pc + 1, ls, .int x.toInt32 :: r, AH)
    | _ => none
  | .i2b  => match st with
    | .int x :: r => gd len 1 (pc + 1, ls, .int x.toInt8.toInt32 :: r, AH)
    | _ => none
  | .i2d  => match st with
    | .int x :: r => gd len 1 (pc + 1, ls, .double (FP.i2d x) :: r, AH)
    | _ => none
  | .i2f  => match st with
    | .int x :: r => gd len 1 (pc + 1, ls, .float (FP.i2f x) :: r, AH)
    | _ => none
  | .dcmp op => match st with
    | .double y :: .double x :: r => gd len 1 (pc + 1, ls, .int (Op.cmpValue (FP.dcmp x y) op) :: r, AH)
    | _ => none
  | .dup => match st with
    | v :: r => if v.category = 1 then gd len 1 (pc + 1, ls, v :: v :: r, AH) else none
    | _ => none
  | .pop => match st with
    | v :: r => if v.category = 1 then gd len 1 (pc + 1, ls, r, AH) else none
    | _ => none
  | .dup2 => match st with
    | v :: u :: r => if v.category = 1 ∧ u.category = 1 then gd len 1 (pc + 1, ls, v :: u :: v :: u :: r, AH) else none
    | _ => none
  | .goto off => if (pc : Int) + off = ((((pc : Int) + off).toNat : Nat) : Int) then gd len 3 (((pc : Int) + off).toNat, ls, st, AH) else none
  | .arraylength => match st with
    | .ref o :: r => match AH[o]? with
      | some (.inl (kd, a)) => if kd < 5 then gd len 1 (pc + 1, ls, .int (Int32.ofNat a.1) :: r, AH) else none
      | _ => none
    | _ => none
  | .getfield i => match fget F i, st with
    | some (ci, kk), .ref o :: r => match AH[o]? with
      | some (.inr (ci', fs)) => if ci' = ci then (match fs[kk]? with
        | some v => gd len 3 (pc + 3, ls, v :: r, AH)
        | none => none) else none
      | _ => none
    | _, _ => none
  | .putfield i => match fget F i, st with
    | some (ci, kk), v :: .ref o :: r => match AH[o]?, vwCl[ci]?, vwTy[ci]? with
      | some (.inr (ci', fs)), some r9, some tf => if ci' = ci ∧ kk < fs.length ∧ (r9.2.1 kk).2.2.2 = false ∧ pfit (tf kk) v = true then gd len 3 (pc + 3, ls, r, AH.set o (.inr (ci, fs.set kk v))) else none
      | _, _, _ => none
    | _, _ => none
  | _ => none
set_option maxHeartbeats 4000000 in
theorem step1_ok {κ : KX} {z : MZ} {Q : State → Prop} {I : Instr} {len pc pc2 : Nat} {ls ls2 : List (Option Value)} {st st2 : List Value} {AH AH2 : List AC} {nc ns : Nat} (X : CX κ z) (hd : decode (zB z) pc = .ok (I, len)) (h : step1 (zF z) I len pc ls st AH = some (pc2, ls2, st2, AH2)) (k : AW κ Q pc2 ls2 st2 AH2 nc ns) : AW κ Q pc ls st AH nc ns := by
  cases I
  case iconst n =>
    obtain ⟨rfl, he⟩ := gd_some h
    cases he
    exact s_iconst X hd k
  case bipush n =>
    obtain ⟨rfl, he⟩ := gd_some h
    cases he
    exact s_bipush X hd k
  case sipush n =>
    obtain ⟨rfl, he⟩ := gd_some h
    cases he
    exact s_sipush X hd k
  case lconst n =>
    obtain ⟨rfl, he⟩ := gd_some h
    cases he
    exact s_lconst X hd k
  case dconst n =>
    dsimp only [step1] at h
    split at h
    · rename_i hn
      subst hn
      obtain ⟨rfl, he⟩ := gd_some h
      cases he
      exact s_dconst X hd k
    · cases h
  case fconst n =>
    dsimp only [step1] at h
    split at h
    · rename_i hn
      subst hn
      obtain ⟨rfl, he⟩ := gd_some h
      cases he
      exact s_fconst X hd k
    · cases h
  case iload_n n =>
    dsimp only [step1] at h
    split at h
    · rename_i hl
      obtain ⟨rfl, he⟩ := gd_some h
      cases he
      exact s_iload_n X hd hl k
    · cases h
  case iload i =>
    dsimp only [step1] at h
    split at h
    · rename_i hl
      obtain ⟨rfl, he⟩ := gd_some h
      cases he
      exact s_iload X hd hl k
    · cases h
  case lload_n n =>
    dsimp only [step1] at h
    split at h
    · rename_i hl
      obtain ⟨rfl, he⟩ := gd_some h
      cases he
      exact s_lload_n X hd hl k
    · cases h
  case lload i =>
    dsimp only [step1] at h
    split at h
    · rename_i hl
      obtain ⟨rfl, he⟩ := gd_some h
      cases he
      exact s_lload X hd hl k
    · cases h
  case dload_n n =>
    dsimp only [step1] at h
    split at h
    · rename_i hl
      obtain ⟨rfl, he⟩ := gd_some h
      cases he
      exact s_dload_n X hd hl k
    · cases h
  case dload i =>
    dsimp only [step1] at h
    split at h
    · rename_i hl
      obtain ⟨rfl, he⟩ := gd_some h
      cases he
      exact s_dload X hd hl k
    · cases h
  case aload_n n =>
    dsimp only [step1] at h
    split at h
    · rename_i hl
      obtain ⟨rfl, he⟩ := gd_some h
      cases he
      exact s_aload_n X hd hl k
    · rename_i hl
      obtain ⟨rfl, he⟩ := gd_some h
      cases he
      exact s_aload_nN X hd hl k
    · cases h
  case aload i =>
    dsimp only [step1] at h
    split at h
    · rename_i hl
      obtain ⟨rfl, he⟩ := gd_some h
      cases he
      exact s_aload X hd hl k
    · rename_i hl
      obtain ⟨rfl, he⟩ := gd_some h
      cases he
      exact s_aloadN X hd hl k
    · cases h
  case istore_n n =>
    dsimp only [step1] at h
    split at h
    · split at h
      · rename_i hi
        obtain ⟨rfl, he⟩ := gd_some h
        cases he
        exact s_istore_n X hd hi k
      · cases h
    · cases h
  case istore i =>
    dsimp only [step1] at h
    split at h
    · split at h
      · rename_i hi
        obtain ⟨rfl, he⟩ := gd_some h
        cases he
        exact s_istore X hd hi k
      · cases h
    · cases h
  case lstore_n n =>
    dsimp only [step1] at h
    split at h
    · split at h
      · rename_i hi
        obtain ⟨rfl, he⟩ := gd_some h
        cases he
        exact s_lstore_n X hd hi k
      · cases h
    · cases h
  case lstore i =>
    dsimp only [step1] at h
    split at h
    · split at h
      · rename_i hi
        obtain ⟨rfl, he⟩ := gd_some h
        cases he
        exact s_lstore X hd hi k
      · cases h
    · cases h
  case dstore_n n =>
    dsimp only [step1] at h
    split at h
    · split at h
      · rename_i hi
        obtain ⟨rfl, he⟩ := gd_some h
        cases he
        exact s_dstore_n X hd hi k
      · cases h
    · cases h
  case dstore i =>
    dsimp only [step1] at h
    split at h
    · split at h
      · rename_i hi
        obtain ⟨rfl, he⟩ := gd_some h
        cases he
        exact s_dstore X hd hi k
      · cases h
    · cases h
  case astore_n n =>
    dsimp only [step1] at h
    split at h
    · split at h
      · rename_i hi
        obtain ⟨rfl, he⟩ := gd_some h
        cases he
        exact s_astore_n X hd hi k
      · cases h
    · cases h
  case astore i =>
    dsimp only [step1] at h
    split at h
    · split at h
      · rename_i hi
        obtain ⟨rfl, he⟩ := gd_some h
        cases he
        exact s_astore X hd hi k
      · cases h
    · cases h
  case iinc i n =>
    dsimp only [step1] at h
    split at h
    · rename_i hl
      obtain ⟨rfl, he⟩ := gd_some h
      cases he
      exact s_iinc X hd hl k
    · cases h
  case iadd  =>
    dsimp only [step1] at h
    split at h
    · obtain ⟨rfl, he⟩ := gd_some h
      cases he
      exact s_iadd X hd k
    · cases h
  case isub  =>
    dsimp only [step1] at h
    split at h
    · obtain ⟨rfl, he⟩ := gd_some h
      cases he
      exact s_isub X hd k
    · cases h
  case imul  =>
    dsimp only [step1] at h
    split at h
    · obtain ⟨rfl, he⟩ := gd_some h
      cases he
      exact s_imul X hd k
    · cases h
  case iand  =>
    dsimp only [step1] at h
    split at h
    · obtain ⟨rfl, he⟩ := gd_some h
      cases he
      exact s_iand X hd k
    · cases h
  case ishr  =>
    dsimp only [step1] at h
    split at h
    · obtain ⟨rfl, he⟩ := gd_some h
      cases he
      exact s_ishr X hd k
    · cases h
  case iushr  =>
    dsimp only [step1] at h
    split at h
    · obtain ⟨rfl, he⟩ := gd_some h
      cases he
      exact s_iushr X hd k
    · cases h
  case lor  =>
    dsimp only [step1] at h
    split at h
    · obtain ⟨rfl, he⟩ := gd_some h
      cases he
      exact s_lor X hd k
    · cases h
  case lcmp  =>
    dsimp only [step1] at h
    split at h
    · obtain ⟨rfl, he⟩ := gd_some h
      cases he
      exact s_lcmp X hd k
    · cases h
  case lshl  =>
    dsimp only [step1] at h
    split at h
    · obtain ⟨rfl, he⟩ := gd_some h
      cases he
      exact s_lshl X hd k
    · cases h
  case lushr  =>
    dsimp only [step1] at h
    split at h
    · obtain ⟨rfl, he⟩ := gd_some h
      cases he
      exact s_lushr X hd k
    · cases h
  case i2l  =>
    dsimp only [step1] at h
    split at h
    · obtain ⟨rfl, he⟩ := gd_some h
      cases he
      exact s_i2l X hd k
    · cases h
  case l2i  =>
    dsimp only [step1] at h
    split at h
    · obtain ⟨rfl, he⟩ := gd_some h
      cases he
      exact s_l2i X hd k
    · cases h
  case i2b  =>
    dsimp only [step1] at h
    split at h
    · obtain ⟨rfl, he⟩ := gd_some h
      cases he
      exact s_i2b X hd k
    · cases h
  case i2d  =>
    dsimp only [step1] at h
    split at h
    · obtain ⟨rfl, he⟩ := gd_some h
      cases he
      exact s_i2d X hd k
    · cases h
  case i2f  =>
    dsimp only [step1] at h
    split at h
    · obtain ⟨rfl, he⟩ := gd_some h
      cases he
      exact s_i2f X hd k
    · cases h
  case dcmp op =>
    dsimp only [step1] at h
    split at h
    · obtain ⟨rfl, he⟩ := gd_some h
      cases he
      exact s_dcmp X hd k
    · cases h
  case dup =>
    dsimp only [step1] at h
    split at h
    · split at h
      · rename_i hc
        obtain ⟨rfl, he⟩ := gd_some h
        cases he
        exact s_dup X hd hc k
      · cases h
    · cases h
  case pop =>
    dsimp only [step1] at h
    split at h
    · split at h
      · rename_i hc
        obtain ⟨rfl, he⟩ := gd_some h
        cases he
        exact s_pop X hd hc k
      · cases h
    · cases h
  case dup2 =>
    dsimp only [step1] at h
    split at h
    · split at h
      · rename_i hc
        obtain ⟨rfl, he⟩ := gd_some h
        cases he
        exact s_dup2 X hd hc.1 hc.2 k
      · cases h
    · cases h
  case goto off =>
    dsimp only [step1] at h
    split at h
    · rename_i ht
      obtain ⟨rfl, he⟩ := gd_some h
      cases he
      exact s_goto X hd ht k
    · cases h
  case arraylength =>
    dsimp only [step1] at h
    split at h
    · split at h
      · rename_i ha
        split at h
        · rename_i hk
          obtain ⟨rfl, he⟩ := gd_some h
          cases he
          exact s_alen X hd ha hk k
        · cases h
      · cases h
    · cases h
  case getfield i =>
    dsimp only [step1] at h
    split at h
    · rename_i hF
      split at h
      · rename_i ha
        split at h
        · rename_i hc
          subst hc
          split at h
          · rename_i hv
            obtain ⟨rfl, he⟩ := gd_some h
            cases he
            exact s_get X hd (fget_mem hF) ha hv k
          · cases h
        · cases h
      · cases h
    · cases h
  case putfield i =>
    dsimp only [step1] at h
    split at h
    · rename_i hF
      split at h
      · rename_i ha hr ht
        split at h
        · rename_i hc
          obtain ⟨rfl, c2, c3, c4⟩ := hc
          obtain ⟨rfl, he⟩ := gd_some h
          cases he
          exact s_put X hd (fget_mem hF) ha hr ht c3 (fun ad => pfit_ok c4) c2 k
        · cases h
      · cases h
    · cases h
  all_goals (cases h)
def run (z : MZ) : Nat → SQ → Option SQ
  | 0, s => some s
  | n + 1, s => match fetch (zC z) s.1 with
    | some q => (match step1 (zF z) q.1 q.2 s.1 s.2.1 s.2.2.1 s.2.2.2 with
      | some s2 => run z n s2
      | none => none)
    | none => none
theorem cxdec {κ : KX} {z : MZ} (X : CX κ z) {pc : Nat} {q : Instr × Nat} (h : fetch (zC z) pc = some q) : decode (zB z) pc = .ok q := by
  obtain ⟨p, l, e, R, s, m, args, below, meth, c, D, cA, A, n0, ad0⟩ := κ
  obtain ⟨hx, hb, hml, hown, hts, hK, hG, hA, hlk, htr, hrt, hnm, hz, hf⟩ := X
  exact hz (pc, q) (fetch_mem h)
/-- a straight stretch of n instructions -/
theorem go {κ : KX} {z : MZ} {Q : State → Prop} (n : Nat) {pc pc2 : Nat} {ls ls2 : List (Option Value)} {st st2 : List Value} {AH AH2 : List AC} {nc ns : Nat} (X : CX κ z) (h : run z n (pc, ls, st, AH) = some (pc2, ls2, st2, AH2)) (k : AW κ Q pc2 ls2 st2 AH2 nc ns) : AW κ Q pc ls st AH nc ns := by
  induction n generalizing pc ls st AH with
  | zero => cases h; exact k
  | succ n ih =>
    unfold run at h
    split at h
    · rename_i q hq
      split at h
      · rename_i s2 hs
        obtain ⟨a, b, c, d⟩ := s2
        exact step1_ok X (cxdec X hq) hs (ih h)
      · cases h
    · cases h
section ROWS
variable {κ : KX} {z : MZ} {Q : State → Prop} {pc : Nat} {ls : List (Option Value)} {st r : List Value} {AH : List AC} {nc ns : Nat}
theorem r_iald (X : CX κ z) {o n : Nat} {f : Nat → Int32} {i : Int32} (hd : fetch (zC z) pc = some (.iaload, 1)) (ha : AH[o]? = some (.inl (0, n, .inl f))) (hin : vp_in i n) (k : AW κ Q (pc + 1) ls (.int (f i.toNatClampNeg) :: r) AH nc ns) : AW κ Q pc ls (.int i :: .ref o :: r) AH nc ns := by
  have hd := cxdec X hd
  obtain ⟨p, l, e, R, s, m, args, below, meth, c, D, cA, A, n0, ad0⟩ := κ
  obtain ⟨hx, hb, hml, hown, hts, hK, hG, hA, hlk, htr, hrt, hnm, hz, hf⟩ := X
  intro ad H locs lsA h1 h2 h3 hP hD hS hL
  exact va_iald hx hb hK hP o 0 (cw_at ha) rfl hin hd (k ad H locs lsA h1 h2 h3 hP hD hS hL)
theorem r_lald (X : CX κ z) {o n : Nat} {f : Nat → Int64} {i : Int32} (hd : fetch (zC z) pc = some (.laload, 1)) (ha : AH[o]? = some (.inl (1, n, .inr (.inl f)))) (hin : vp_in i n) (k : AW κ Q (pc + 1) ls (.long (f i.toNatClampNeg) :: r) AH nc ns) : AW κ Q pc ls (.int i :: .ref o :: r) AH nc ns := by
  have hd := cxdec X hd
  obtain ⟨p, l, e, R, s, m, args, below, meth, c, D, cA, A, n0, ad0⟩ := κ
  obtain ⟨hx, hb, hml, hown, hts, hK, hG, hA, hlk, htr, hrt, hnm, hz, hf⟩ := X
  intro ad H locs lsA h1 h2 h3 hP hD hS hL
  exact va_lald hx hb hK hP o 1 (cw_at ha) rfl hin hd (k ad H locs lsA h1 h2 h3 hP hD hS hL)
theorem r_zald (X : CX κ z) {o n : Nat} {f : Nat → Int32} {i : Int32} (hd : fetch (zC z) pc = some (.baload, 1)) (ha : AH[o]? = some (.inl (2, n, .inl f))) (hin : vp_in i n) (k : AW κ Q (pc + 1) ls (.int (f i.toNatClampNeg) :: r) AH nc ns) : AW κ Q pc ls (.int i :: .ref o :: r) AH nc ns := by
  have hd := cxdec X hd
  obtain ⟨p, l, e, R, s, m, args, below, meth, c, D, cA, A, n0, ad0⟩ := κ
  obtain ⟨hx, hb, hml, hown, hts, hK, hG, hA, hlk, htr, hrt, hnm, hz, hf⟩ := X
  intro ad H locs lsA h1 h2 h3 hP hD hS hL
  exact va_zald hx hb hK hP o 2 (cw_at ha) rfl hin hd (k ad H locs lsA h1 h2 h3 hP hD hS hL)
theorem r_bald (X : CX κ z) {o n : Nat} {f : Nat → Int32} {i : Int32} (hd : fetch (zC z) pc = some (.baload, 1)) (ha : AH[o]? = some (.inl (3, n, .inl f))) (hin : vp_in i n) (k : AW κ Q (pc + 1) ls (.int (f i.toNatClampNeg) :: r) AH nc ns) : AW κ Q pc ls (.int i :: .ref o :: r) AH nc ns := by
  have hd := cxdec X hd
  obtain ⟨p, l, e, R, s, m, args, below, meth, c, D, cA, A, n0, ad0⟩ := κ
  obtain ⟨hx, hb, hml, hown, hts, hK, hG, hA, hlk, htr, hrt, hnm, hz, hf⟩ := X
  intro ad H locs lsA h1 h2 h3 hP hD hS hL
  exact va_bald hx hb hK hP o 3 (cw_at ha) rfl hin hd (k ad H locs lsA h1 h2 h3 hP hD hS hL)
theorem r_aald (X : CX κ z) {o n q : Nat} {f : Nat → Option Nat} {i : Int32} (hd : fetch (zC z) pc = some (.aaload, 1)) (ha : AH[o]? = some (.inl (4, n, .inr (.inr (.inr (.inr f)))))) (hin : vp_in i n) (hq : f i.toNatClampNeg = some q) (k : AW κ Q (pc + 1) ls (.ref q :: r) AH nc ns) : AW κ Q pc ls (.int i :: .ref o :: r) AH nc ns := by
  have hd := cxdec X hd
  obtain ⟨p, l, e, R, s, m, args, below, meth, c, D, cA, A, n0, ad0⟩ := κ
  obtain ⟨hx, hb, hml, hown, hts, hK, hG, hA, hlk, htr, hrt, hnm, hz, hf⟩ := X
  intro ad H locs lsA h1 h2 h3 hP hD hS hL
  refine va_aldq hx hb hK hP o 4 (cw_at ha) rfl hin hd ?_
  rw [hq]
  exact k ad H locs lsA h1 h2 h3 hP hD hS hL
theorem r_iast (X : CX κ z) {o n : Nat} {f : Nat → Int32} {i : Int32} {x : Int32} (hd : fetch (zC z) pc = some (.iastore, 1)) (ha : AH[o]? = some (.inl (0, n, .inl f))) (hin : vp_in i n) (k : AW κ Q (pc + 1) ls r (AH.set o (.inl (0, n, .inl (upd f i.toNatClampNeg x)))) nc ns) : AW κ Q pc ls (.int x :: .int i :: .ref o :: r) AH nc ns := by
  have hd := cxdec X hd
  obtain ⟨p, l, e, R, s, m, args, below, meth, c, D, cA, A, n0, ad0⟩ := κ
  obtain ⟨hx, hb, hml, hown, hts, hK, hG, hA, hlk, htr, hrt, hnm, hz, hf⟩ := X
  intro ad H locs lsA h1 h2 h3 hP hD hS hL
  have fin : ∀ (c2 : AC) (H1 : Heap) (locs1 : List Loc), va_P D vwCl ((cw cA ad AH).set o (ad o, cvE cA ad c2)) H1 → va_D A ((cw cA ad AH).set o (ad o, cvE cA ad c2)) → va_S A s.heap H1 locs1 → AW (p, l, e, R, s, m, args, below, meth, c, D, cA, A, n0, ad0) Q (pc + 1) ls r (AH.set o c2) nc ns → W p l e R s m args below meth c H1 locs1 nc ns Q (F0 m (pc + 1) lsA (r.map (cvV ad))) := by
    intro c2 H1 locs1 hP1 hD1 hS1 k
    rw [cw_set] at hP1 hD1
    exact k ad H1 locs1 lsA h1 (by rw [List.length_set]; exact h2) (by rw [List.length_set]; exact h3) hP1 hD1 hS1 hL
  exact va_iast hx hb hK hP hD hS o 0 (cw_at ha) rfl hin hd (fun H1 locs1 a b c => fin (.inl (0, n, .inl (upd f i.toNatClampNeg x))) H1 locs1 a b c k)
theorem r_last (X : CX κ z) {o n : Nat} {f : Nat → Int64} {i : Int32} {x : Int64} (hd : fetch (zC z) pc = some (.lastore, 1)) (ha : AH[o]? = some (.inl (1, n, .inr (.inl f)))) (hin : vp_in i n) (k : AW κ Q (pc + 1) ls r (AH.set o (.inl (1, n, .inr (.inl (vp_updL f i.toNatClampNeg x))))) nc ns) : AW κ Q pc ls (.long x :: .int i :: .ref o :: r) AH nc ns := by
  have hd := cxdec X hd
  obtain ⟨p, l, e, R, s, m, args, below, meth, c, D, cA, A, n0, ad0⟩ := κ
  obtain ⟨hx, hb, hml, hown, hts, hK, hG, hA, hlk, htr, hrt, hnm, hz, hf⟩ := X
  intro ad H locs lsA h1 h2 h3 hP hD hS hL
  have fin : ∀ (c2 : AC) (H1 : Heap) (locs1 : List Loc), va_P D vwCl ((cw cA ad AH).set o (ad o, cvE cA ad c2)) H1 → va_D A ((cw cA ad AH).set o (ad o, cvE cA ad c2)) → va_S A s.heap H1 locs1 → AW (p, l, e, R, s, m, args, below, meth, c, D, cA, A, n0, ad0) Q (pc + 1) ls r (AH.set o c2) nc ns → W p l e R s m args below meth c H1 locs1 nc ns Q (F0 m (pc + 1) lsA (r.map (cvV ad))) := by
    intro c2 H1 locs1 hP1 hD1 hS1 k
    rw [cw_set] at hP1 hD1
    exact k ad H1 locs1 lsA h1 (by rw [List.length_set]; exact h2) (by rw [List.length_set]; exact h3) hP1 hD1 hS1 hL
  exact va_last hx hb hK hP hD hS o 1 (cw_at ha) rfl hin hd (fun H1 locs1 a b c => fin (.inl (1, n, .inr (.inl (vp_updL f i.toNatClampNeg x)))) H1 locs1 a b c k)
theorem r_zast (X : CX κ z) {o n : Nat} {f : Nat → Int32} {i : Int32} {x : Int32} (hd : fetch (zC z) pc = some (.bastore, 1)) (ha : AH[o]? = some (.inl (2, n, .inl f))) (hin : vp_in i n) (k : AW κ Q (pc + 1) ls r (AH.set o (.inl (2, n, .inl (upd f i.toNatClampNeg (vp_nar .boolean x))))) nc ns) : AW κ Q pc ls (.int x :: .int i :: .ref o :: r) AH nc ns := by
  have hd := cxdec X hd
  obtain ⟨p, l, e, R, s, m, args, below, meth, c, D, cA, A, n0, ad0⟩ := κ
  obtain ⟨hx, hb, hml, hown, hts, hK, hG, hA, hlk, htr, hrt, hnm, hz, hf⟩ := X
  intro ad H locs lsA h1 h2 h3 hP hD hS hL
  have fin : ∀ (c2 : AC) (H1 : Heap) (locs1 : List Loc), va_P D vwCl ((cw cA ad AH).set o (ad o, cvE cA ad c2)) H1 → va_D A ((cw cA ad AH).set o (ad o, cvE cA ad c2)) → va_S A s.heap H1 locs1 → AW (p, l, e, R, s, m, args, below, meth, c, D, cA, A, n0, ad0) Q (pc + 1) ls r (AH.set o c2) nc ns → W p l e R s m args below meth c H1 locs1 nc ns Q (F0 m (pc + 1) lsA (r.map (cvV ad))) := by
    intro c2 H1 locs1 hP1 hD1 hS1 k
    rw [cw_set] at hP1 hD1
    exact k ad H1 locs1 lsA h1 (by rw [List.length_set]; exact h2) (by rw [List.length_set]; exact h3) hP1 hD1 hS1 hL
  exact va_zast hx hb hK hP hD hS o 2 (cw_at ha) rfl hin hd (fun H1 locs1 a b c => fin (.inl (2, n, .inl (upd f i.toNatClampNeg (vp_nar .boolean x)))) H1 locs1 a b c k)
theorem r_bast (X : CX κ z) {o n : Nat} {f : Nat → Int32} {i : Int32} {x : Int32} (hd : fetch (zC z) pc = some (.bastore, 1)) (ha : AH[o]? = some (.inl (3, n, .inl f))) (hin : vp_in i n) (k : AW κ Q (pc + 1) ls r (AH.set o (.inl (3, n, .inl (upd f i.toNatClampNeg (vp_nar .byte x))))) nc ns) : AW κ Q pc ls (.int x :: .int i :: .ref o :: r) AH nc ns := by
  have hd := cxdec X hd
  obtain ⟨p, l, e, R, s, m, args, below, meth, c, D, cA, A, n0, ad0⟩ := κ
  obtain ⟨hx, hb, hml, hown, hts, hK, hG, hA, hlk, htr, hrt, hnm, hz, hf⟩ := X
  intro ad H locs lsA h1 h2 h3 hP hD hS hL
  have fin : ∀ (c2 : AC) (H1 : Heap) (locs1 : List Loc), va_P D vwCl ((cw cA ad AH).set o (ad o, cvE cA ad c2)) H1 → va_D A ((cw cA ad AH).set o (ad o, cvE cA ad c2)) → va_S A s.heap H1 locs1 → AW (p, l, e, R, s, m, args, below, meth, c, D, cA, A, n0, ad0) Q (pc + 1) ls r (AH.set o c2) nc ns → W p l e R s m args below meth c H1 locs1 nc ns Q (F0 m (pc + 1) lsA (r.map (cvV ad))) := by
    intro c2 H1 locs1 hP1 hD1 hS1 k
    rw [cw_set] at hP1 hD1
    exact k ad H1 locs1 lsA h1 (by rw [List.length_set]; exact h2) (by rw [List.length_set]; exact h3) hP1 hD1 hS1 hL
  exact va_bast hx hb hK hP hD hS o 3 (cw_at ha) rfl hin hd (fun H1 locs1 a b c => fin (.inl (3, n, .inl (upd f i.toNatClampNeg (vp_nar .byte x)))) H1 locs1 a b c k)
theorem r_aast (X : CX κ z) {o n q : Nat} {f : Nat → Option Nat} {i : Int32} {fs : List Value} (hd : fetch (zC z) pc = some (.aastore, 1)) (ha : AH[o]? = some (.inl (4, n, .inr (.inr (.inr (.inr f)))))) (hin : vp_in i n) (hq : AH[q]? = some (.inr (7, fs))) (k : AW κ Q (pc + 1) ls r (AH.set o (.inl (4, n, .inr (.inr (.inr (.inr (va_up f i.toNatClampNeg (some q)))))))) nc ns) : AW κ Q pc ls (.ref q :: .int i :: .ref o :: r) AH nc ns := by
  have hd := cxdec X hd
  obtain ⟨p, l, e, R, s, m, args, below, meth, c, D, cA, A, n0, ad0⟩ := κ
  obtain ⟨hx, hb, hml, hown, hts, hK, hG, hA, hlk, htr, hrt, hnm, hz, hf⟩ := X
  intro ad H locs lsA h1 h2 h3 hP hD hS hL
  have fin : ∀ (c2 : AC) (H1 : Heap) (locs1 : List Loc), va_P D vwCl ((cw cA ad AH).set o (ad o, cvE cA ad c2)) H1 → va_D A ((cw cA ad AH).set o (ad o, cvE cA ad c2)) → va_S A s.heap H1 locs1 → AW (p, l, e, R, s, m, args, below, meth, c, D, cA, A, n0, ad0) Q (pc + 1) ls r (AH.set o c2) nc ns → W p l e R s m args below meth c H1 locs1 nc ns Q (F0 m (pc + 1) lsA (r.map (cvV ad))) := by
    intro c2 H1 locs1 hP1 hD1 hS1 k
    rw [cw_set] at hP1 hD1
    exact k ad H1 locs1 lsA h1 (by rw [List.length_set]; exact h2) (by rw [List.length_set]; exact h3) hP1 hD1 hS1 hL
  have e : (fun j => (va_up f i.toNatClampNeg (some q) j).map ad) = va_up (fun j => (f j).map ad) i.toNatClampNeg (some (ad q)) := by
    funext j
    unfold va_up
    split <;> rfl
  refine va_astq hx hb hK hP hD hS o 4 q 7 (r := (RX7, TX7, 9)) (cw_at ha) rfl (cw_at hq) rfl hin hd (fun H1 locs1 a b c => fin (.inl (4, n, .inr (.inr (.inr (.inr (va_up f i.toNatClampNeg (some q))))))) H1 locs1 ?_ ?_ c k)
  · show va_P D vwCl ((cw cA ad AH).set o (ad o, .inl (cA 4, n, .inr (.inr (.inr (.inr (fun j => (va_up f i.toNatClampNeg (some q) j).map ad))))))) H1
    rw [e]; exact a
  · show va_D A ((cw cA ad AH).set o (ad o, .inl (cA 4, n, .inr (.inr (.inr (.inr (fun j => (va_up f i.toNatClampNeg (some q) j).map ad)))))))
    rw [e]; exact b
theorem r_if_eq (X : CX κ z) {x : Int32} {off : Int} (tgt : Nat) (hd : fetch (zC z) pc = some (.ifCond .eq off, 3)) (ht : (pc : Int) + off = (tgt : Int)) (kt : x = 0 → AW κ Q tgt ls r AH nc ns) (kf : ¬ x = 0 → AW κ Q (pc + 3) ls r AH nc ns) : AW κ Q pc ls (.int x :: r) AH nc ns := by
  have hd := cxdec X hd
  obtain ⟨p, l, e, R, s, m, args, below, meth, c, D, cA, A, n0, ad0⟩ := κ
  obtain ⟨hx, hb, hml, hown, hts, hK, hG, hA, hlk, htr, hrt, hnm, hz, hf⟩ := X
  intro ad H locs lsA h1 h2 h3 hP hD hS hL
  exact lv_if_eq hx hb hd ht (fun q => kt q ad H locs lsA h1 h2 h3 hP hD hS hL) (fun q => kf q ad H locs lsA h1 h2 h3 hP hD hS hL)
theorem r_icmp_eq (X : CX κ z) {x y : Int32} {off : Int} (tgt : Nat) (hd : fetch (zC z) pc = some (.if_icmp .eq off, 3)) (ht : (pc : Int) + off = (tgt : Int)) (kt : x = y → AW κ Q tgt ls r AH nc ns) (kf : ¬ x = y → AW κ Q (pc + 3) ls r AH nc ns) : AW κ Q pc ls (.int y :: .int x :: r) AH nc ns := by
  have hd := cxdec X hd
  obtain ⟨p, l, e, R, s, m, args, below, meth, c, D, cA, A, n0, ad0⟩ := κ
  obtain ⟨hx, hb, hml, hown, hts, hK, hG, hA, hlk, htr, hrt, hnm, hz, hf⟩ := X
  intro ad H locs lsA h1 h2 h3 hP hD hS hL
  exact lv_icmp_eq hx hb hd ht (fun q => kt q ad H locs lsA h1 h2 h3 hP hD hS hL) (fun q => kf q ad H locs lsA h1 h2 h3 hP hD hS hL)
theorem r_if_ne (X : CX κ z) {x : Int32} {off : Int} (tgt : Nat) (hd : fetch (zC z) pc = some (.ifCond .ne off, 3)) (ht : (pc : Int) + off = (tgt : Int)) (kt : ¬ x = 0 → AW κ Q tgt ls r AH nc ns) (kf : x = 0 → AW κ Q (pc + 3) ls r AH nc ns) : AW κ Q pc ls (.int x :: r) AH nc ns := by
  have hd := cxdec X hd
  obtain ⟨p, l, e, R, s, m, args, below, meth, c, D, cA, A, n0, ad0⟩ := κ
  obtain ⟨hx, hb, hml, hown, hts, hK, hG, hA, hlk, htr, hrt, hnm, hz, hf⟩ := X
  intro ad H locs lsA h1 h2 h3 hP hD hS hL
  exact lv_if_ne hx hb hd ht (fun q => kt q ad H locs lsA h1 h2 h3 hP hD hS hL) (fun q => kf q ad H locs lsA h1 h2 h3 hP hD hS hL)
theorem r_icmp_ne (X : CX κ z) {x y : Int32} {off : Int} (tgt : Nat) (hd : fetch (zC z) pc = some (.if_icmp .ne off, 3)) (ht : (pc : Int) + off = (tgt : Int)) (kt : ¬ x = y → AW κ Q tgt ls r AH nc ns) (kf : x = y → AW κ Q (pc + 3) ls r AH nc ns) : AW κ Q pc ls (.int y :: .int x :: r) AH nc ns := by
  have hd := cxdec X hd
  obtain ⟨p, l, e, R, s, m, args, below, meth, c, D, cA, A, n0, ad0⟩ := κ
  obtain ⟨hx, hb, hml, hown, hts, hK, hG, hA, hlk, htr, hrt, hnm, hz, hf⟩ := X
  intro ad H locs lsA h1 h2 h3 hP hD hS hL
  exact lv_icmp_ne hx hb hd ht (fun q => kt q ad H locs lsA h1 h2 h3 hP hD hS hL) (fun q => kf q ad H locs lsA h1 h2 h3 hP hD hS hL)
theorem r_if_lt (X : CX κ z) {x : Int32} {off : Int} (tgt : Nat) (hd : fetch (zC z) pc = some (.ifCond .lt off, 3)) (ht : (pc : Int) + off = (tgt : Int)) (kt : x < 0 → AW κ Q tgt ls r AH nc ns) (kf : ¬ x < 0 → AW κ Q (pc + 3) ls r AH nc ns) : AW κ Q pc ls (.int x :: r) AH nc ns := by
  have hd := cxdec X hd
  obtain ⟨p, l, e, R, s, m, args, below, meth, c, D, cA, A, n0, ad0⟩ := κ
  obtain ⟨hx, hb, hml, hown, hts, hK, hG, hA, hlk, htr, hrt, hnm, hz, hf⟩ := X
  intro ad H locs lsA h1 h2 h3 hP hD hS hL
  exact lv_if_lt hx hb hd ht (fun q => kt q ad H locs lsA h1 h2 h3 hP hD hS hL) (fun q => kf q ad H locs lsA h1 h2 h3 hP hD hS hL)
theorem r_icmp_lt (X : CX κ z) {x y : Int32} {off : Int} (tgt : Nat) (hd : fetch (zC z) pc = some (.if_icmp .lt off, 3)) (ht : (pc : Int) + off = (tgt : Int)) (kt : x < y → AW κ Q tgt ls r AH nc ns) (kf : ¬ x < y → AW κ Q (pc + 3) ls r AH nc ns) : AW κ Q pc ls (.int y :: .int x :: r) AH nc ns := by
  have hd := cxdec X hd
  obtain ⟨p, l, e, R, s, m, args, below, meth, c, D, cA, A, n0, ad0⟩ := κ
  obtain ⟨hx, hb, hml, hown, hts, hK, hG, hA, hlk, htr, hrt, hnm, hz, hf⟩ := X
  intro ad H locs lsA h1 h2 h3 hP hD hS hL
  exact lv_icmp_lt hx hb hd ht (fun q => kt q ad H locs lsA h1 h2 h3 hP hD hS hL) (fun q => kf q ad H locs lsA h1 h2 h3 hP hD hS hL)
theorem r_if_ge (X : CX κ z) {x : Int32} {off : Int} (tgt : Nat) (hd : fetch (zC z) pc = some (.ifCond .ge off, 3)) (ht : (pc : Int) + off = (tgt : Int)) (kt : 0 ≤ x → AW κ Q tgt ls r AH nc ns) (kf : ¬ 0 ≤ x → AW κ Q (pc + 3) ls r AH nc ns) : AW κ Q pc ls (.int x :: r) AH nc ns := by
  have hd := cxdec X hd
  obtain ⟨p, l, e, R, s, m, args, below, meth, c, D, cA, A, n0, ad0⟩ := κ
  obtain ⟨hx, hb, hml, hown, hts, hK, hG, hA, hlk, htr, hrt, hnm, hz, hf⟩ := X
  intro ad H locs lsA h1 h2 h3 hP hD hS hL
  exact lv_if_ge hx hb hd ht (fun q => kt q ad H locs lsA h1 h2 h3 hP hD hS hL) (fun q => kf q ad H locs lsA h1 h2 h3 hP hD hS hL)
theorem r_icmp_ge (X : CX κ z) {x y : Int32} {off : Int} (tgt : Nat) (hd : fetch (zC z) pc = some (.if_icmp .ge off, 3)) (ht : (pc : Int) + off = (tgt : Int)) (kt : y ≤ x → AW κ Q tgt ls r AH nc ns) (kf : ¬ y ≤ x → AW κ Q (pc + 3) ls r AH nc ns) : AW κ Q pc ls (.int y :: .int x :: r) AH nc ns := by
  have hd := cxdec X hd
  obtain ⟨p, l, e, R, s, m, args, below, meth, c, D, cA, A, n0, ad0⟩ := κ
  obtain ⟨hx, hb, hml, hown, hts, hK, hG, hA, hlk, htr, hrt, hnm, hz, hf⟩ := X
  intro ad H locs lsA h1 h2 h3 hP hD hS hL
  exact lv_icmp_ge hx hb hd ht (fun q => kt q ad H locs lsA h1 h2 h3 hP hD hS hL) (fun q => kf q ad H locs lsA h1 h2 h3 hP hD hS hL)
theorem r_if_gt (X : CX κ z) {x : Int32} {off : Int} (tgt : Nat) (hd : fetch (zC z) pc = some (.ifCond .gt off, 3)) (ht : (pc : Int) + off = (tgt : Int)) (kt : 0 < x → AW κ Q tgt ls r AH nc ns) (kf : ¬ 0 < x → AW κ Q (pc + 3) ls r AH nc ns) : AW κ Q pc ls (.int x :: r) AH nc ns := by
  have hd := cxdec X hd
  obtain ⟨p, l, e, R, s, m, args, below, meth, c, D, cA, A, n0, ad0⟩ := κ
  obtain ⟨hx, hb, hml, hown, hts, hK, hG, hA, hlk, htr, hrt, hnm, hz, hf⟩ := X
  intro ad H locs lsA h1 h2 h3 hP hD hS hL
  exact lv_if_gt hx hb hd ht (fun q => kt q ad H locs lsA h1 h2 h3 hP hD hS hL) (fun q => kf q ad H locs lsA h1 h2 h3 hP hD hS hL)
theorem r_icmp_gt (X : CX κ z) {x y : Int32} {off : Int} (tgt : Nat) (hd : fetch (zC z) pc = some (.if_icmp .gt off, 3)) (ht : (pc : Int) + off = (tgt : Int)) (kt : y < x → AW κ Q tgt ls r AH nc ns) (kf : ¬ y < x → AW κ Q (pc + 3) ls r AH nc ns) : AW κ Q pc ls (.int y :: .int x :: r) AH nc ns := by
  have hd := cxdec X hd
  obtain ⟨p, l, e, R, s, m, args, below, meth, c, D, cA, A, n0, ad0⟩ := κ
  obtain ⟨hx, hb, hml, hown, hts, hK, hG, hA, hlk, htr, hrt, hnm, hz, hf⟩ := X
  intro ad H locs lsA h1 h2 h3 hP hD hS hL
  exact lv_icmp_gt hx hb hd ht (fun q => kt q ad H locs lsA h1 h2 h3 hP hD hS hL) (fun q => kf q ad H locs lsA h1 h2 h3 hP hD hS hL)
theorem r_if_le (X : CX κ z) {x : Int32} {off : Int} (tgt : Nat) (hd : fetch (zC z) pc = some (.ifCond .le off, 3)) (ht : (pc : Int) + off = (tgt : Int)) (kt : x ≤ 0 → AW κ Q tgt ls r AH nc ns) (kf : ¬ x ≤ 0 → AW κ Q (pc + 3) ls r AH nc ns) : AW κ Q pc ls (.int x :: r) AH nc ns := by
  have hd := cxdec X hd
  obtain ⟨p, l, e, R, s, m, args, below, meth, c, D, cA, A, n0, ad0⟩ := κ
  obtain ⟨hx, hb, hml, hown, hts, hK, hG, hA, hlk, htr, hrt, hnm, hz, hf⟩ := X
  intro ad H locs lsA h1 h2 h3 hP hD hS hL
  exact lv_if_le hx hb hd ht (fun q => kt q ad H locs lsA h1 h2 h3 hP hD hS hL) (fun q => kf q ad H locs lsA h1 h2 h3 hP hD hS hL)
theorem r_icmp_le (X : CX κ z) {x y : Int32} {off : Int} (tgt : Nat) (hd : fetch (zC z) pc = some (.if_icmp .le off, 3)) (ht : (pc : Int) + off = (tgt : Int)) (kt : x ≤ y → AW κ Q tgt ls r AH nc ns) (kf : ¬ x ≤ y → AW κ Q (pc + 3) ls r AH nc ns) : AW κ Q pc ls (.int y :: .int x :: r) AH nc ns := by
  have hd := cxdec X hd
  obtain ⟨p, l, e, R, s, m, args, below, meth, c, D, cA, A, n0, ad0⟩ := κ
  obtain ⟨hx, hb, hml, hown, hts, hK, hG, hA, hlk, htr, hrt, hnm, hz, hf⟩ := X
  intro ad H locs lsA h1 h2 h3 hP hD hS hL
  exact lv_icmp_le hx hb hd ht (fun q => kt q ad H locs lsA h1 h2 h3 hP hD hS hL) (fun q => kf q ad H locs lsA h1 h2 h3 hP hD hS hL)
theorem r_ifnull (X : CX κ z) {x : Nat} {off : Int} (hd : fetch (zC z) pc = some (.ifnull off, 3)) (k : AW κ Q (pc + 3) ls r AH nc ns) : AW κ Q pc ls (.ref x :: r) AH nc ns := by
  have hd := cxdec X hd
  obtain ⟨p, l, e, R, s, m, args, below, meth, c, D, cA, A, n0, ad0⟩ := κ
  obtain ⟨hx, hb, hml, hown, hts, hK, hG, hA, hlk, htr, hrt, hnm, hz, hf⟩ := X
  intro ad H locs lsA h1 h2 h3 hP hD hS hL
  exact lv_ifnull hx hb hd (k ad H locs lsA h1 h2 h3 hP hD hS hL)
theorem r_idiv (X : CX κ z) {x y : Int32} (hd : fetch (zC z) pc = some (.idiv, 1)) (hne : ¬ y = 0) (k : AW κ Q (pc + 1) ls (.int (x / y) :: r) AH nc ns) : AW κ Q pc ls (.int y :: .int x :: r) AH nc ns := by
  have hd := cxdec X hd
  obtain ⟨p, l, e, R, s, m, args, below, meth, c, D, cA, A, n0, ad0⟩ := κ
  obtain ⟨hx, hb, hml, hown, hts, hK, hG, hA, hlk, htr, hrt, hnm, hz, hf⟩ := X
  intro ad H locs lsA h1 h2 h3 hP hD hS hL
  exact lv_idiv hx hb hd hne (k ad H locs lsA h1 h2 h3 hP hD hS hL)
theorem r_irem (X : CX κ z) {x y : Int32} (hd : fetch (zC z) pc = some (.irem, 1)) (hne : ¬ y = 0) (k : AW κ Q (pc + 1) ls (.int (x - x / y * y) :: r) AH nc ns) : AW κ Q pc ls (.int y :: .int x :: r) AH nc ns := by
  have hd := cxdec X hd
  obtain ⟨p, l, e, R, s, m, args, below, meth, c, D, cA, A, n0, ad0⟩ := κ
  obtain ⟨hx, hb, hml, hown, hts, hK, hG, hA, hlk, htr, hrt, hnm, hz, hf⟩ := X
  intro ad H locs lsA h1 h2 h3 hP hD hS hL
  exact lv_irem hx hb hd hne (k ad H locs lsA h1 h2 h3 hP hD hS hL)
theorem r_ddiv (X : CX κ z) {x y : UInt64} (hd : fetch (zC z) pc = some (.ddiv, 1)) (hne : vf_n64 (FP.ddiv x y)) (k : AW κ Q (pc + 1) ls (.double (FP.ddiv x y) :: r) AH nc ns) : AW κ Q pc ls (.double y :: .double x :: r) AH nc ns := by
  have hd := cxdec X hd
  obtain ⟨p, l, e, R, s, m, args, below, meth, c, D, cA, A, n0, ad0⟩ := κ
  obtain ⟨hx, hb, hml, hown, hts, hK, hG, hA, hlk, htr, hrt, hnm, hz, hf⟩ := X
  intro ad H locs lsA h1 h2 h3 hP hD hS hL
  exact lv_ddiv hx hb hd hne (k ad H locs lsA h1 h2 h3 hP hD hS hL)
theorem r_fdiv (X : CX κ z) {x y : UInt32} (hd : fetch (zC z) pc = some (.fdiv, 1)) (hne : vf_n32 (FP.fdiv x y)) (k : AW κ Q (pc + 1) ls (.float (FP.fdiv x y) :: r) AH nc ns) : AW κ Q pc ls (.float y :: .float x :: r) AH nc ns := by
  have hd := cxdec X hd
  obtain ⟨p, l, e, R, s, m, args, below, meth, c, D, cA, A, n0, ad0⟩ := κ
  obtain ⟨hx, hb, hml, hown, hts, hK, hG, hA, hlk, htr, hrt, hnm, hz, hf⟩ := X
  intro ad H locs lsA h1 h2 h3 hP hD hS hL
  exact lv_fdiv hx hb hd hne (k ad H locs lsA h1 h2 h3 hP hD hS hL)
theorem r_f2d (X : CX κ z) {x : UInt32} (hd : fetch (zC z) pc = some (.f2d, 1)) (hne : vf_n64 (FP.f2d x)) (k : AW κ Q (pc + 1) ls (.double (FP.f2d x) :: r) AH nc ns) : AW κ Q pc ls (.float x :: r) AH nc ns := by
  have hd := cxdec X hd
  obtain ⟨p, l, e, R, s, m, args, below, meth, c, D, cA, A, n0, ad0⟩ := κ
  obtain ⟨hx, hb, hml, hown, hts, hK, hG, hA, hlk, htr, hrt, hnm, hz, hf⟩ := X
  intro ad H locs lsA h1 h2 h3 hP hD hS hL
  exact lv_f2d hx hb hd hne (k ad H locs lsA h1 h2 h3 hP hD hS hL)
theorem r_ldc2 (X : CX κ z) {index : Nat} (v : Int64) (hd : fetch (zC z) pc = some (.ldc2_w index, 3)) (hc : inALL (Jvm.Cond.constantLong (zY z).cls index v) = true) (k : AW κ Q (pc + 3) ls (.long v :: r) AH nc ns) : AW κ Q pc ls r AH nc ns := by
  have hd := cxdec X hd
  obtain ⟨p, l, e, R, s, m, args, below, meth, c, D, cA, A, n0, ad0⟩ := κ
  obtain ⟨hx, hb, hml, hown, hts, hK, hG, hA, hlk, htr, hrt, hnm, hz, hf⟩ := X
  intro ad H locs lsA h1 h2 h3 hP hD hS hL
  exact lv_ldc2 hx hb hown (hts _ (ALL_of hc)) hd (k ad H locs lsA h1 h2 h3 hP hD hS hL)
theorem r_tableOut (X : CX κ z) {dflt lo hi : Int} {offs : Array Int} {len : Nat} {x : Int32} (tgt : Nat) (hd : fetch (zC z) pc = some (.tableswitch dflt lo hi offs, len)) (h : x.toInt < lo ∨ hi < x.toInt) (ht : (pc : Int) + dflt = (tgt : Int)) (k : AW κ Q tgt ls r AH nc ns) : AW κ Q pc ls (.int x :: r) AH nc ns := by
  have hd := cxdec X hd
  obtain ⟨p, l, e, R, s, m, args, below, meth, c, D, cA, A, n0, ad0⟩ := κ
  obtain ⟨hx, hb, hml, hown, hts, hK, hG, hA, hlk, htr, hrt, hnm, hz, hf⟩ := X
  intro ad H locs lsA h1 h2 h3 hP hD hS hL
  exact lv_tableOut hx hb hd h ht (k ad H locs lsA h1 h2 h3 hP hD hS hL)
theorem r_tableIn (X : CX κ z) {dflt lo hi off : Int} {offs : Array Int} {len : Nat} {x : Int32} (tgt : Nat) (hd : fetch (zC z) pc = some (.tableswitch dflt lo hi offs, len)) (g1 : ¬ x.toInt < lo) (g2 : ¬ hi < x.toInt) (ho : offs[(x.toInt - lo).toNat]? = some off) (ht : (pc : Int) + off = (tgt : Int)) (k : AW κ Q tgt ls r AH nc ns) : AW κ Q pc ls (.int x :: r) AH nc ns := by
  have hd := cxdec X hd
  obtain ⟨p, l, e, R, s, m, args, below, meth, c, D, cA, A, n0, ad0⟩ := κ
  obtain ⟨hx, hb, hml, hown, hts, hK, hG, hA, hlk, htr, hrt, hnm, hz, hf⟩ := X
  intro ad H locs lsA h1 h2 h3 hP hD hS hL
  exact lv_tableIn hx hb hd g1 g2 ho ht (k ad H locs lsA h1 h2 h3 hP hD hS hL)
end ROWS
