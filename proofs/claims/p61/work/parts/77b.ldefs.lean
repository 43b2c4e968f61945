/-! ===== 71b: the law: values, functions (gen71.py) ===== -/
abbrev QV : Type := (Nat → Int32) × (Nat → Int32) × (Nat → Int32) × (Nat → Int32) × (Nat → Int32) × (Nat → Int32) × (Nat → Int32) × (Nat → Int32) × Int32 × Int32 × Int32 × Int32
def QVOw (v : QV) : Nat → Int32 := v.1
def QVPr (v : QV) : Nat → Int32 := v.2.1
def QVPg (v : QV) : Nat → Int32 := v.2.2.1
def QVSt (v : QV) : Nat → Int32 := v.2.2.2.1
def QVQu (v : QV) : Nat → Int32 := v.2.2.2.2.1
def QVSp (v : QV) : Nat → Int32 := v.2.2.2.2.2.1
def QVPd (v : QV) : Nat → Int32 := v.2.2.2.2.2.2.1
def QVPs (v : QV) : Nat → Int32 := v.2.2.2.2.2.2.2.1
def QVNq (v : QV) : Int32 := v.2.2.2.2.2.2.2.2.1
def QVNo (v : QV) : Int32 := v.2.2.2.2.2.2.2.2.2.1
def QVJb (v : QV) : Int32 := v.2.2.2.2.2.2.2.2.2.2.1
def QVSn (v : QV) : Int32 := v.2.2.2.2.2.2.2.2.2.2.2
def QV_sOw (v : QV) (x : Nat → Int32) : QV := (x, QVPr v, QVPg v, QVSt v, QVQu v, QVSp v, QVPd v, QVPs v, QVNq v, QVNo v, QVJb v, QVSn v)
def QV_sPr (v : QV) (x : Nat → Int32) : QV := (QVOw v, x, QVPg v, QVSt v, QVQu v, QVSp v, QVPd v, QVPs v, QVNq v, QVNo v, QVJb v, QVSn v)
def QV_sPg (v : QV) (x : Nat → Int32) : QV := (QVOw v, QVPr v, x, QVSt v, QVQu v, QVSp v, QVPd v, QVPs v, QVNq v, QVNo v, QVJb v, QVSn v)
def QV_sSt (v : QV) (x : Nat → Int32) : QV := (QVOw v, QVPr v, QVPg v, x, QVQu v, QVSp v, QVPd v, QVPs v, QVNq v, QVNo v, QVJb v, QVSn v)
def QV_sQu (v : QV) (x : Nat → Int32) : QV := (QVOw v, QVPr v, QVPg v, QVSt v, x, QVSp v, QVPd v, QVPs v, QVNq v, QVNo v, QVJb v, QVSn v)
def QV_sSp (v : QV) (x : Nat → Int32) : QV := (QVOw v, QVPr v, QVPg v, QVSt v, QVQu v, x, QVPd v, QVPs v, QVNq v, QVNo v, QVJb v, QVSn v)
def QV_sPd (v : QV) (x : Nat → Int32) : QV := (QVOw v, QVPr v, QVPg v, QVSt v, QVQu v, QVSp v, x, QVPs v, QVNq v, QVNo v, QVJb v, QVSn v)
def QV_sPs (v : QV) (x : Nat → Int32) : QV := (QVOw v, QVPr v, QVPg v, QVSt v, QVQu v, QVSp v, QVPd v, x, QVNq v, QVNo v, QVJb v, QVSn v)
def QV_sNq (v : QV) (x : Int32) : QV := (QVOw v, QVPr v, QVPg v, QVSt v, QVQu v, QVSp v, QVPd v, QVPs v, x, QVNo v, QVJb v, QVSn v)
def QV_sNo (v : QV) (x : Int32) : QV := (QVOw v, QVPr v, QVPg v, QVSt v, QVQu v, QVSp v, QVPd v, QVPs v, QVNq v, x, QVJb v, QVSn v)
def QV_sJb (v : QV) (x : Int32) : QV := (QVOw v, QVPr v, QVPg v, QVSt v, QVQu v, QVSp v, QVPd v, QVPs v, QVNq v, QVNo v, x, QVSn v)
def QV_sSn (v : QV) (x : Int32) : QV := (QVOw v, QVPr v, QVPg v, QVSt v, QVQu v, QVSp v, QVPd v, QVPs v, QVNq v, QVNo v, QVJb v, x)
def WQ (v : QV) : List AC := [.inr (9, [.ref 1, .ref 2, .ref 3, .ref 4, .ref 5, .ref 6, .ref 7, .ref 8, .int (QVNq v), .int (QVNo v), .int (QVJb v), .int (QVSn v)]), .inl (0, 40, .inl (QVOw v)), .inl (0, 40, .inl (QVPr v)), .inl (0, 40, .inl (QVPg v)), .inl (0, 40, .inl (QVSt v)), .inl (0, 40, .inl (QVQu v)), .inl (0, 4, .inl (QVSp v)), .inl (0, 4, .inl (QVPd v)), .inl (2, 4, .inl (QVPs v))]
def f_L_isRefused (v : Lysu) (a : Int32) (b : Int32) (c : Int32) : Option (Int32 × Lysu) :=
  if a = 0 then
    refX (f_X8_printNext v b) fun w19 => w19
  else
    if a = 1 then
      refX (f_X8_cancel ((LysuHs v), (LysuY v), (LysuS v)) b) fun w16 => ((LysHs w16), (LysY w16), (LysS w16), (LysuU v))
    else
      if a = 2 then
        refX (f_X8_changePriority ((LysuHs v), (LysuY v), (LysuS v)) b c) fun w13 => ((LysHs w13), (LysY w13), (LysS w13), (LysuU v))
      else
        if a = 3 then
          refX (f_X8_moveJob v b c) fun w10 => w10
        else
          refX (f_X8_submit v 0 0 0 1) fun w7 => w7
def f_L_isIn (v : QV) (a : Int32) (b : Int32) : Option (Int32) :=
  if oob a 40 then none else
  if ((QVSt v) (Int32.toNatClampNeg a)) = 0 then
    if oob a 40 then none else
    if ((QVQu v) (Int32.toNatClampNeg a)) = b then
      some 1
    else
      some 0
  else
    some 0
def f_L_isBefore (v : QV) (a : Int32) (b : Int32) : Option (Int32) :=
  if oob a 40 then none else
  if oob b 40 then none else
  if ((QVPr v) (Int32.toNatClampNeg a)) < ((QVPr v) (Int32.toNatClampNeg b)) then
    some 1
  else
    if oob a 40 then none else
    if oob b 40 then none else
    if ((QVPr v) (Int32.toNatClampNeg a)) = ((QVPr v) (Int32.toNatClampNeg b)) then
      if b ≤ a then
        some 0
      else
        some 1
    else
      some 0
abbrev P_QV_Ls : Type := QV × Ls
def P_QV_LsA (v : P_QV_Ls) : QV := v.1
def P_QV_LsB (v : P_QV_Ls) : Ls := v.2
def P_QV_Ls_sA (v : P_QV_Ls) (x : QV) : P_QV_Ls := (x, P_QV_LsB v)
def P_QV_Ls_sB (v : P_QV_Ls) (x : Ls) : P_QV_Ls := (P_QV_LsA v, x)
def WP_QV_Ls (v : P_QV_Ls) : List AC := [.inr (9, [.ref 1, .ref 2, .ref 3, .ref 4, .ref 5, .ref 6, .ref 7, .ref 8, .int (QVNq (P_QV_LsA v)), .int (QVNo (P_QV_LsA v)), .int (QVJb (P_QV_LsA v)), .int (QVSn (P_QV_LsA v))]), .inl (0, 40, .inl (QVOw (P_QV_LsA v))), .inl (0, 40, .inl (QVPr (P_QV_LsA v))), .inl (0, 40, .inl (QVPg (P_QV_LsA v))), .inl (0, 40, .inl (QVSt (P_QV_LsA v))), .inl (0, 40, .inl (QVQu (P_QV_LsA v))), .inl (0, 4, .inl (QVSp (P_QV_LsA v))), .inl (0, 4, .inl (QVPd (P_QV_LsA v))), .inl (2, 4, .inl (QVPs (P_QV_LsA v))), .inr (8, [.ref 1001000, .ref 1001001, .ref 1001002, .ref 1001003, .ref 10, .ref 1001005, .ref 1001006, .int (LsHs (P_QV_LsB v)), .ref 1001008, .ref 1001009]), .inr (7, [.ref 11, .int (SVJc (LsS (P_QV_LsB v))), .ref 18, .ref 19, .ref 20, .ref 21, .ref 22, .ref 23, .ref 24]), .inr (0, [.ref 12, .ref 13, .ref 14, .ref 15, .ref 16, .int (HVCm (SVH (LsS (P_QV_LsB v)))), .int (HVSw (SVH (LsS (P_QV_LsB v)))), .ref 17]), .inl (0, 40, .inl (HVPr (SVH (LsS (P_QV_LsB v))))), .inl (0, 40, .inl (HVLf (SVH (LsS (P_QV_LsB v))))), .inl (0, 40, .inl (HVRt (SVH (LsS (P_QV_LsB v))))), .inl (0, 40, .inl (HVUp (SVH (LsS (P_QV_LsB v))))), .inl (0, 40, .inl (HVRk (SVH (LsS (P_QV_LsB v))))), .inl (0, 40, .inl (HVPa (SVH (LsS (P_QV_LsB v))))), .inl (0, 40, .inl (SVOw (LsS (P_QV_LsB v)))), .inl (0, 40, .inl (SVPg (LsS (P_QV_LsB v)))), .inl (0, 40, .inl (SVFt (LsS (P_QV_LsB v)))), .inl (0, 40, .inl (SVQu (LsS (P_QV_LsB v)))), .inl (0, 6, .inl (SVRo (LsS (P_QV_LsB v)))), .inl (0, 6, .inl (SVPd (LsS (P_QV_LsB v)))), .inl (2, 6, .inl (SVPs (LsS (P_QV_LsB v))))]
def f_L_isHeap : Nat → P_QV_Ls → Int32 → Int32 → Int32 → Int32 → Option (Int32 × P_QV_Ls)
  | 0, _, _, _, _, _ => none
  | n + 1, v, a, b, c, d =>
    if 0 ≤ a then
      bnd0 (f_X8_leftChild (P_QV_LsB v) a) fun r3 =>
      bnd0 (f_X8_rightChild (P_QV_LsB v) a) fun r6 =>
      if 0 ≤ r3 then
        bnd0 (f_X8_rank (P_QV_LsB v) r3) fun r10 =>
        if 0 ≤ r6 then
          bnd0 (f_X8_rank (P_QV_LsB v) r6) fun r14 =>
          (f_L_isIn (QV_sSn (P_QV_LsA v) ((QVSn (P_QV_LsA v)) + 1)) a b).bind fun r17 =>
          if r17 = 0 then
            some (0, (P_QV_Ls_sA v (QV_sSn (P_QV_LsA v) ((QVSn (P_QV_LsA v)) + 1))))
          else
            bnd0 (f_X8_parent (P_QV_LsB v) a) fun r21 =>
            if r21 = c then
              bnd0 (f_X8_depth (P_QV_LsB v) a) fun r25 =>
              if r25 = d then
                if c < 0 then
                  if r10 < r14 then
                    some (0, (P_QV_Ls_sA v (QV_sSn (P_QV_LsA v) ((QVSn (P_QV_LsA v)) + 1))))
                  else
                    bnd0 (f_X8_rank (P_QV_LsB v) a) fun r31 =>
                    if r31 = (r14 + 1) then
                      bnd2 (f_L_isHeap n ((QV_sSn (P_QV_LsA v) ((QVSn (P_QV_LsA v)) + 1)), (P_QV_LsB v)) r3 b a (d + 1)) fun r35 w36 =>
                      if r35 = 0 then
                        some (0, ((P_QV_LsA w36), (P_QV_LsB w36)))
                      else
                        bnd2 (f_L_isHeap n ((P_QV_LsA w36), (P_QV_LsB w36)) r6 b a (d + 1)) fun r39 w40 =>
                        if r39 = 0 then
                          some (0, ((P_QV_LsA w40), (P_QV_LsB w40)))
                        else
                          some (1, ((P_QV_LsA w40), (P_QV_LsB w40)))
                    else
                      some (0, (P_QV_Ls_sA v (QV_sSn (P_QV_LsA v) ((QVSn (P_QV_LsA v)) + 1))))
                else
                  (f_L_isBefore (QV_sSn (P_QV_LsA v) ((QVSn (P_QV_LsA v)) + 1)) a c).bind fun r43 =>
                  if r43 = 0 then
                    if r10 < r14 then
                      some (0, (P_QV_Ls_sA v (QV_sSn (P_QV_LsA v) ((QVSn (P_QV_LsA v)) + 1))))
                    else
                      bnd0 (f_X8_rank (P_QV_LsB v) a) fun r48 =>
                      if r48 = (r14 + 1) then
                        bnd2 (f_L_isHeap n ((QV_sSn (P_QV_LsA v) ((QVSn (P_QV_LsA v)) + 1)), (P_QV_LsB v)) r3 b a (d + 1)) fun r52 w53 =>
                        if r52 = 0 then
                          some (0, ((P_QV_LsA w53), (P_QV_LsB w53)))
                        else
                          bnd2 (f_L_isHeap n ((P_QV_LsA w53), (P_QV_LsB w53)) r6 b a (d + 1)) fun r56 w57 =>
                          if r56 = 0 then
                            some (0, ((P_QV_LsA w57), (P_QV_LsB w57)))
                          else
                            some (1, ((P_QV_LsA w57), (P_QV_LsB w57)))
                      else
                        some (0, (P_QV_Ls_sA v (QV_sSn (P_QV_LsA v) ((QVSn (P_QV_LsA v)) + 1))))
                  else
                    some (0, (P_QV_Ls_sA v (QV_sSn (P_QV_LsA v) ((QVSn (P_QV_LsA v)) + 1))))
              else
                some (0, (P_QV_Ls_sA v (QV_sSn (P_QV_LsA v) ((QVSn (P_QV_LsA v)) + 1))))
            else
              some (0, (P_QV_Ls_sA v (QV_sSn (P_QV_LsA v) ((QVSn (P_QV_LsA v)) + 1))))
        else
          (f_L_isIn (QV_sSn (P_QV_LsA v) ((QVSn (P_QV_LsA v)) + 1)) a b).bind fun r60 =>
          if r60 = 0 then
            some (0, (P_QV_Ls_sA v (QV_sSn (P_QV_LsA v) ((QVSn (P_QV_LsA v)) + 1))))
          else
            bnd0 (f_X8_parent (P_QV_LsB v) a) fun r64 =>
            if r64 = c then
              bnd0 (f_X8_depth (P_QV_LsB v) a) fun r68 =>
              if r68 = d then
                if c < 0 then
                  if r10 < 0 then
                    some (0, (P_QV_Ls_sA v (QV_sSn (P_QV_LsA v) ((QVSn (P_QV_LsA v)) + 1))))
                  else
                    bnd0 (f_X8_rank (P_QV_LsB v) a) fun r74 =>
                    if r74 = (0 + 1) then
                      bnd2 (f_L_isHeap n ((QV_sSn (P_QV_LsA v) ((QVSn (P_QV_LsA v)) + 1)), (P_QV_LsB v)) r3 b a (d + 1)) fun r78 w79 =>
                      if r78 = 0 then
                        some (0, ((P_QV_LsA w79), (P_QV_LsB w79)))
                      else
                        bnd2 (f_L_isHeap n ((P_QV_LsA w79), (P_QV_LsB w79)) r6 b a (d + 1)) fun r82 w83 =>
                        if r82 = 0 then
                          some (0, ((P_QV_LsA w83), (P_QV_LsB w83)))
                        else
                          some (1, ((P_QV_LsA w83), (P_QV_LsB w83)))
                    else
                      some (0, (P_QV_Ls_sA v (QV_sSn (P_QV_LsA v) ((QVSn (P_QV_LsA v)) + 1))))
                else
                  (f_L_isBefore (QV_sSn (P_QV_LsA v) ((QVSn (P_QV_LsA v)) + 1)) a c).bind fun r86 =>
                  if r86 = 0 then
                    if r10 < 0 then
                      some (0, (P_QV_Ls_sA v (QV_sSn (P_QV_LsA v) ((QVSn (P_QV_LsA v)) + 1))))
                    else
                      bnd0 (f_X8_rank (P_QV_LsB v) a) fun r91 =>
                      if r91 = (0 + 1) then
                        bnd2 (f_L_isHeap n ((QV_sSn (P_QV_LsA v) ((QVSn (P_QV_LsA v)) + 1)), (P_QV_LsB v)) r3 b a (d + 1)) fun r95 w96 =>
                        if r95 = 0 then
                          some (0, ((P_QV_LsA w96), (P_QV_LsB w96)))
                        else
                          bnd2 (f_L_isHeap n ((P_QV_LsA w96), (P_QV_LsB w96)) r6 b a (d + 1)) fun r99 w100 =>
                          if r99 = 0 then
                            some (0, ((P_QV_LsA w100), (P_QV_LsB w100)))
                          else
                            some (1, ((P_QV_LsA w100), (P_QV_LsB w100)))
                      else
                        some (0, (P_QV_Ls_sA v (QV_sSn (P_QV_LsA v) ((QVSn (P_QV_LsA v)) + 1))))
                  else
                    some (0, (P_QV_Ls_sA v (QV_sSn (P_QV_LsA v) ((QVSn (P_QV_LsA v)) + 1))))
              else
                some (0, (P_QV_Ls_sA v (QV_sSn (P_QV_LsA v) ((QVSn (P_QV_LsA v)) + 1))))
            else
              some (0, (P_QV_Ls_sA v (QV_sSn (P_QV_LsA v) ((QVSn (P_QV_LsA v)) + 1))))
      else
        if 0 ≤ r6 then
          bnd0 (f_X8_rank (P_QV_LsB v) r6) fun r104 =>
          (f_L_isIn (QV_sSn (P_QV_LsA v) ((QVSn (P_QV_LsA v)) + 1)) a b).bind fun r107 =>
          if r107 = 0 then
            some (0, (P_QV_Ls_sA v (QV_sSn (P_QV_LsA v) ((QVSn (P_QV_LsA v)) + 1))))
          else
            bnd0 (f_X8_parent (P_QV_LsB v) a) fun r111 =>
            if r111 = c then
              bnd0 (f_X8_depth (P_QV_LsB v) a) fun r115 =>
              if r115 = d then
                if c < 0 then
                  if 0 < r104 then
                    some (0, (P_QV_Ls_sA v (QV_sSn (P_QV_LsA v) ((QVSn (P_QV_LsA v)) + 1))))
                  else
                    bnd0 (f_X8_rank (P_QV_LsB v) a) fun r121 =>
                    if r121 = (r104 + 1) then
                      bnd2 (f_L_isHeap n ((QV_sSn (P_QV_LsA v) ((QVSn (P_QV_LsA v)) + 1)), (P_QV_LsB v)) r3 b a (d + 1)) fun r125 w126 =>
                      if r125 = 0 then
                        some (0, ((P_QV_LsA w126), (P_QV_LsB w126)))
                      else
                        bnd2 (f_L_isHeap n ((P_QV_LsA w126), (P_QV_LsB w126)) r6 b a (d + 1)) fun r129 w130 =>
                        if r129 = 0 then
                          some (0, ((P_QV_LsA w130), (P_QV_LsB w130)))
                        else
                          some (1, ((P_QV_LsA w130), (P_QV_LsB w130)))
                    else
                      some (0, (P_QV_Ls_sA v (QV_sSn (P_QV_LsA v) ((QVSn (P_QV_LsA v)) + 1))))
                else
                  (f_L_isBefore (QV_sSn (P_QV_LsA v) ((QVSn (P_QV_LsA v)) + 1)) a c).bind fun r133 =>
                  if r133 = 0 then
                    if 0 < r104 then
                      some (0, (P_QV_Ls_sA v (QV_sSn (P_QV_LsA v) ((QVSn (P_QV_LsA v)) + 1))))
                    else
                      bnd0 (f_X8_rank (P_QV_LsB v) a) fun r138 =>
                      if r138 = (r104 + 1) then
                        bnd2 (f_L_isHeap n ((QV_sSn (P_QV_LsA v) ((QVSn (P_QV_LsA v)) + 1)), (P_QV_LsB v)) r3 b a (d + 1)) fun r142 w143 =>
                        if r142 = 0 then
                          some (0, ((P_QV_LsA w143), (P_QV_LsB w143)))
                        else
                          bnd2 (f_L_isHeap n ((P_QV_LsA w143), (P_QV_LsB w143)) r6 b a (d + 1)) fun r146 w147 =>
                          if r146 = 0 then
                            some (0, ((P_QV_LsA w147), (P_QV_LsB w147)))
                          else
                            some (1, ((P_QV_LsA w147), (P_QV_LsB w147)))
                      else
                        some (0, (P_QV_Ls_sA v (QV_sSn (P_QV_LsA v) ((QVSn (P_QV_LsA v)) + 1))))
                  else
                    some (0, (P_QV_Ls_sA v (QV_sSn (P_QV_LsA v) ((QVSn (P_QV_LsA v)) + 1))))
              else
                some (0, (P_QV_Ls_sA v (QV_sSn (P_QV_LsA v) ((QVSn (P_QV_LsA v)) + 1))))
            else
              some (0, (P_QV_Ls_sA v (QV_sSn (P_QV_LsA v) ((QVSn (P_QV_LsA v)) + 1))))
        else
          (f_L_isIn (QV_sSn (P_QV_LsA v) ((QVSn (P_QV_LsA v)) + 1)) a b).bind fun r150 =>
          if r150 = 0 then
            some (0, (P_QV_Ls_sA v (QV_sSn (P_QV_LsA v) ((QVSn (P_QV_LsA v)) + 1))))
          else
            bnd0 (f_X8_parent (P_QV_LsB v) a) fun r154 =>
            if r154 = c then
              bnd0 (f_X8_depth (P_QV_LsB v) a) fun r158 =>
              if r158 = d then
                if c < 0 then
                  bnd0 (f_X8_rank (P_QV_LsB v) a) fun r164 =>
                  if r164 = (0 + 1) then
                    bnd2 (f_L_isHeap n ((QV_sSn (P_QV_LsA v) ((QVSn (P_QV_LsA v)) + 1)), (P_QV_LsB v)) r3 b a (d + 1)) fun r168 w169 =>
                    if r168 = 0 then
                      some (0, ((P_QV_LsA w169), (P_QV_LsB w169)))
                    else
                      bnd2 (f_L_isHeap n ((P_QV_LsA w169), (P_QV_LsB w169)) r6 b a (d + 1)) fun r172 w173 =>
                      if r172 = 0 then
                        some (0, ((P_QV_LsA w173), (P_QV_LsB w173)))
                      else
                        some (1, ((P_QV_LsA w173), (P_QV_LsB w173)))
                  else
                    some (0, (P_QV_Ls_sA v (QV_sSn (P_QV_LsA v) ((QVSn (P_QV_LsA v)) + 1))))
                else
                  (f_L_isBefore (QV_sSn (P_QV_LsA v) ((QVSn (P_QV_LsA v)) + 1)) a c).bind fun r176 =>
                  if r176 = 0 then
                    bnd0 (f_X8_rank (P_QV_LsB v) a) fun r181 =>
                    if r181 = (0 + 1) then
                      bnd2 (f_L_isHeap n ((QV_sSn (P_QV_LsA v) ((QVSn (P_QV_LsA v)) + 1)), (P_QV_LsB v)) r3 b a (d + 1)) fun r185 w186 =>
                      if r185 = 0 then
                        some (0, ((P_QV_LsA w186), (P_QV_LsB w186)))
                      else
                        bnd2 (f_L_isHeap n ((P_QV_LsA w186), (P_QV_LsB w186)) r6 b a (d + 1)) fun r189 w190 =>
                        if r189 = 0 then
                          some (0, ((P_QV_LsA w190), (P_QV_LsB w190)))
                        else
                          some (1, ((P_QV_LsA w190), (P_QV_LsB w190)))
                    else
                      some (0, (P_QV_Ls_sA v (QV_sSn (P_QV_LsA v) ((QVSn (P_QV_LsA v)) + 1))))
                  else
                    some (0, (P_QV_Ls_sA v (QV_sSn (P_QV_LsA v) ((QVSn (P_QV_LsA v)) + 1))))
              else
                some (0, (P_QV_Ls_sA v (QV_sSn (P_QV_LsA v) ((QVSn (P_QV_LsA v)) + 1))))
            else
              some (0, (P_QV_Ls_sA v (QV_sSn (P_QV_LsA v) ((QVSn (P_QV_LsA v)) + 1))))
    else
      some (1, v)
def f_L_before_h4 : Nat → Int32 → Int32 → Int32 → QV → Option (Int32)
  | 0, _, _, _, _ => none
  | n + 1, l1, l2, l3, v =>
    if (QVJb v) ≤ l3 then
      some l2
    else
      if oob l1 40 then none else
      (f_L_isIn v l3 ((QVQu v) (Int32.toNatClampNeg l1))).bind fun r4 =>
      if r4 = 0 then
        f_L_before_h4 n l1 l2 (l3 + 1) v
      else
        (f_L_isBefore v l3 l1).bind fun r8 =>
        if r8 = 0 then
          f_L_before_h4 n l1 l2 (l3 + 1) v
        else
          if oob l3 40 then none else
          f_L_before_h4 n l1 (l2 + ((QVPg v) (Int32.toNatClampNeg l3))) (l3 + 1) v
def f_L_before (v : QV) (a : Int32) : Option (Int32) :=
  f_L_before_h4 FU a 0 0 v
def f_L_position_h4 : Nat → Int32 → Int32 → Int32 → QV → Option (Int32)
  | 0, _, _, _, _ => none
  | n + 1, l1, l2, l3, v =>
    if (QVJb v) ≤ l3 then
      some l2
    else
      if oob l1 40 then none else
      (f_L_isIn v l3 ((QVQu v) (Int32.toNatClampNeg l1))).bind fun r4 =>
      if r4 = 0 then
        f_L_position_h4 n l1 l2 (l3 + 1) v
      else
        (f_L_isBefore v l3 l1).bind fun r8 =>
        if r8 = 0 then
          f_L_position_h4 n l1 l2 (l3 + 1) v
        else
          f_L_position_h4 n l1 (l2 + 1) (l3 + 1) v
def f_L_position (v : QV) (a : Int32) : Option (Int32) :=
  f_L_position_h4 FU a 0 0 v
def f_L_first_h4 : Nat → Int32 → Int32 → Int32 → QV → Option (Int32)
  | 0, _, _, _, _ => none
  | n + 1, l1, l2, l3, v =>
    if (QVJb v) ≤ l3 then
      some l2
    else
      (f_L_isIn v l3 l1).bind fun r3 =>
      if r3 = 0 then
        f_L_first_h4 n l1 l2 (l3 + 1) v
      else
        if l2 < 0 then
          f_L_first_h4 n l1 l3 (l3 + 1) v
        else
          (f_L_isBefore v l3 l2).bind fun r8 =>
          if r8 = 0 then
            f_L_first_h4 n l1 l2 (l3 + 1) v
          else
            f_L_first_h4 n l1 l3 (l3 + 1) v
def f_L_first (v : QV) (a : Int32) : Option (Int32) :=
  f_L_first_h4 FU a (-1) 0 v
def f_L_size_h4 : Nat → Int32 → Int32 → Int32 → QV → Option (Int32)
  | 0, _, _, _, _ => none
  | n + 1, l1, l2, l3, v =>
    if (QVJb v) ≤ l3 then
      some l2
    else
      (f_L_isIn v l3 l1).bind fun r3 =>
      if r3 = 0 then
        f_L_size_h4 n l1 l2 (l3 + 1) v
      else
        f_L_size_h4 n l1 (l2 + 1) (l3 + 1) v
def f_L_size (v : QV) (a : Int32) : Option (Int32) :=
  f_L_size_h4 FU a 0 0 v
abbrev P_QV_Lscu : Type := QV × Lscu
def P_QV_LscuA (v : P_QV_Lscu) : QV := v.1
def P_QV_LscuB (v : P_QV_Lscu) : Lscu := v.2
def P_QV_Lscu_sA (v : P_QV_Lscu) (x : QV) : P_QV_Lscu := (x, P_QV_LscuB v)
def P_QV_Lscu_sB (v : P_QV_Lscu) (x : Lscu) : P_QV_Lscu := (P_QV_LscuA v, x)
def WP_QV_Lscu (v : P_QV_Lscu) : List AC := [.inr (9, [.ref 1, .ref 2, .ref 3, .ref 4, .ref 5, .ref 6, .ref 7, .ref 8, .int (QVNq (P_QV_LscuA v)), .int (QVNo (P_QV_LscuA v)), .int (QVJb (P_QV_LscuA v)), .int (QVSn (P_QV_LscuA v))]), .inl (0, 40, .inl (QVOw (P_QV_LscuA v))), .inl (0, 40, .inl (QVPr (P_QV_LscuA v))), .inl (0, 40, .inl (QVPg (P_QV_LscuA v))), .inl (0, 40, .inl (QVSt (P_QV_LscuA v))), .inl (0, 40, .inl (QVQu (P_QV_LscuA v))), .inl (0, 4, .inl (QVSp (P_QV_LscuA v))), .inl (0, 4, .inl (QVPd (P_QV_LscuA v))), .inl (2, 4, .inl (QVPs (P_QV_LscuA v))), .inr (8, [.ref 1001000, .ref 1001001, .ref 1001002, .ref 1001003, .ref 10, .ref 25, .ref 1001006, .int (LscuHs (P_QV_LscuB v)), .ref 40, .ref 1001009]), .inr (7, [.ref 11, .int (SVJc (LscuS (P_QV_LscuB v))), .ref 18, .ref 19, .ref 20, .ref 21, .ref 22, .ref 23, .ref 24]), .inr (0, [.ref 12, .ref 13, .ref 14, .ref 15, .ref 16, .int (HVCm (SVH (LscuS (P_QV_LscuB v)))), .int (HVSw (SVH (LscuS (P_QV_LscuB v)))), .ref 17]), .inl (0, 40, .inl (HVPr (SVH (LscuS (P_QV_LscuB v))))), .inl (0, 40, .inl (HVLf (SVH (LscuS (P_QV_LscuB v))))), .inl (0, 40, .inl (HVRt (SVH (LscuS (P_QV_LscuB v))))), .inl (0, 40, .inl (HVUp (SVH (LscuS (P_QV_LscuB v))))), .inl (0, 40, .inl (HVRk (SVH (LscuS (P_QV_LscuB v))))), .inl (0, 40, .inl (HVPa (SVH (LscuS (P_QV_LscuB v))))), .inl (0, 40, .inl (SVOw (LscuS (P_QV_LscuB v)))), .inl (0, 40, .inl (SVPg (LscuS (P_QV_LscuB v)))), .inl (0, 40, .inl (SVFt (LscuS (P_QV_LscuB v)))), .inl (0, 40, .inl (SVQu (LscuS (P_QV_LscuB v)))), .inl (0, 6, .inl (SVRo (LscuS (P_QV_LscuB v)))), .inl (0, 6, .inl (SVPd (LscuS (P_QV_LscuB v)))), .inl (2, 6, .inl (SVPs (LscuS (P_QV_LscuB v)))), .inr (7, [.ref 26, .int (SVJc (LscuC (P_QV_LscuB v))), .ref 33, .ref 34, .ref 35, .ref 36, .ref 37, .ref 38, .ref 39]), .inr (0, [.ref 27, .ref 28, .ref 29, .ref 30, .ref 31, .int (HVCm (SVH (LscuC (P_QV_LscuB v)))), .int (HVSw (SVH (LscuC (P_QV_LscuB v)))), .ref 32]), .inl (0, 40, .inl (HVPr (SVH (LscuC (P_QV_LscuB v))))), .inl (0, 40, .inl (HVLf (SVH (LscuC (P_QV_LscuB v))))), .inl (0, 40, .inl (HVRt (SVH (LscuC (P_QV_LscuB v))))), .inl (0, 40, .inl (HVUp (SVH (LscuC (P_QV_LscuB v))))), .inl (0, 40, .inl (HVRk (SVH (LscuC (P_QV_LscuB v))))), .inl (0, 40, .inl (HVPa (SVH (LscuC (P_QV_LscuB v))))), .inl (0, 40, .inl (SVOw (LscuC (P_QV_LscuB v)))), .inl (0, 40, .inl (SVPg (LscuC (P_QV_LscuB v)))), .inl (0, 40, .inl (SVFt (LscuC (P_QV_LscuB v)))), .inl (0, 40, .inl (SVQu (LscuC (P_QV_LscuB v)))), .inl (0, 6, .inl (SVRo (LscuC (P_QV_LscuB v)))), .inl (0, 6, .inl (SVPd (LscuC (P_QV_LscuB v)))), .inl (2, 6, .inl (SVPs (LscuC (P_QV_LscuB v)))), .inr (6, [.ref 41, .ref 43, .ref 45]), .inr (2, [.ref 42, .int (NVCt (UVQs (LscuU (P_QV_LscuB v))))]), .inl (1, 8, .inr (.inl (NVPk (UVQs (LscuU (P_QV_LscuB v)))))), .inr (2, [.ref 44, .int (NVCt (UVOs (LscuU (P_QV_LscuB v))))]), .inl (1, 8, .inr (.inl (NVPk (UVOs (LscuU (P_QV_LscuB v)))))), .inl (0, 6, .inl (UVSp (LscuU (P_QV_LscuB v))))]
def f_L_isLike_j243 (kO : Int32 → P_QV_Lscu → Option (Int32 × P_QV_Lscu)) (l2 : Int32) (s0 : Int32) (s1 : Int32) (v : P_QV_Lscu) : Option (Int32 × P_QV_Lscu) :=
  if s1 = s0 then
    bnd0 (f_X8_priority ((LscuHs (P_QV_LscuB v)), (LscuS (P_QV_LscuB v))) l2) fun r30 =>
    if oob l2 40 then none else
    if r30 = ((QVPr (P_QV_LscuA v)) (Int32.toNatClampNeg l2)) then
      bnd0 (f_X8_pages ((LscuHs (P_QV_LscuB v)), (LscuS (P_QV_LscuB v))) l2) fun r35 =>
      if oob l2 40 then none else
      if r35 = ((QVPg (P_QV_LscuA v)) (Int32.toNatClampNeg l2)) then
        bnd0 (f_X8_ownerOf ((LscuHs (P_QV_LscuB v)), (LscuS (P_QV_LscuB v))) l2) fun r40 =>
        if oob l2 40 then none else
        if r40 = ((QVOw (P_QV_LscuA v)) (Int32.toNatClampNeg l2)) then
          if oob l2 40 then none else
          if ((QVSt (P_QV_LscuA v)) (Int32.toNatClampNeg l2)) ≤ 0 then
            (f_L_before (P_QV_LscuA v) l2).bind fun r47 =>
            if oob l2 40 then none else
            if oob l2 40 then none else
            if oob ((QVQu (P_QV_LscuA v)) (Int32.toNatClampNeg l2)) 4 then none else
            bnd0 (f_X8_queueOf ((LscuHs (P_QV_LscuB v)), (LscuS (P_QV_LscuB v))) l2) fun r53 =>
            if oob l2 40 then none else
            if r53 = ((QVQu (P_QV_LscuA v)) (Int32.toNatClampNeg l2)) then
              bnd0 (f_X8_positionOf ((LscuHs (P_QV_LscuB v)), (LscuS (P_QV_LscuB v))) l2) fun r58 =>
              (f_L_position (P_QV_LscuA v) l2).bind fun r61 =>
              if r58 = r61 then
                if oob l2 40 then none else
                (f_L_position (P_QV_LscuA v) l2).bind fun r66 =>
                bnd0 (f_X8_jobAt ((LscuHs (P_QV_LscuB v)), (LscuS (P_QV_LscuB v)), (LscuU (P_QV_LscuB v))) ((QVQu (P_QV_LscuA v)) (Int32.toNatClampNeg l2)) r66) fun r69 =>
                if r69 = l2 then
                  bnd0 (f_X8_pagesBefore ((LscuHs (P_QV_LscuB v)), (LscuS (P_QV_LscuB v))) l2) fun r73 =>
                  (f_L_before (P_QV_LscuA v) l2).bind fun r76 =>
                  if r73 = r76 then
                    bnd0 (f_X8_minutesUntilPrinted ((LscuHs (P_QV_LscuB v)), (LscuS (P_QV_LscuB v)), (LscuU (P_QV_LscuB v))) l2) fun r80 =>
                    if (((QVSp (P_QV_LscuA v)) (Int32.toNatClampNeg ((QVQu (P_QV_LscuA v)) (Int32.toNatClampNeg l2)))) : Int32) = 0 then none else
                    if (((QVSp (P_QV_LscuA v)) (Int32.toNatClampNeg ((QVQu (P_QV_LscuA v)) (Int32.toNatClampNeg l2)))) : Int32) = 0 then none else
                    if ((r47 + ((QVPg (P_QV_LscuA v)) (Int32.toNatClampNeg l2))) - (r47 + ((QVPg (P_QV_LscuA v)) (Int32.toNatClampNeg l2))) / ((QVSp (P_QV_LscuA v)) (Int32.toNatClampNeg ((QVQu (P_QV_LscuA v)) (Int32.toNatClampNeg l2)))) * ((QVSp (P_QV_LscuA v)) (Int32.toNatClampNeg ((QVQu (P_QV_LscuA v)) (Int32.toNatClampNeg l2))))) ≤ 0 then
                      if r80 = (((r47 + ((QVPg (P_QV_LscuA v)) (Int32.toNatClampNeg l2))) / ((QVSp (P_QV_LscuA v)) (Int32.toNatClampNeg ((QVQu (P_QV_LscuA v)) (Int32.toNatClampNeg l2))))) + 0) then
                        kO (l2 + 1) v
                      else
                        some (0, v)
                    else
                      if r80 = (((r47 + ((QVPg (P_QV_LscuA v)) (Int32.toNatClampNeg l2))) / ((QVSp (P_QV_LscuA v)) (Int32.toNatClampNeg ((QVQu (P_QV_LscuA v)) (Int32.toNatClampNeg l2))))) + 1) then
                        kO (l2 + 1) v
                      else
                        some (0, v)
                  else
                    some (0, v)
                else
                  some (0, v)
              else
                some (0, v)
            else
              some (0, v)
          else
            bnd0 (f_X8_queueOf ((LscuHs (P_QV_LscuB v)), (LscuS (P_QV_LscuB v))) l2) fun r88 =>
            if r88 = (-1) then
              bnd0 (f_X8_rank ((LscuHs (P_QV_LscuB v)), (LscuS (P_QV_LscuB v))) l2) fun r92 =>
              if r92 = 0 then
                bnd0 (f_X8_parent ((LscuHs (P_QV_LscuB v)), (LscuS (P_QV_LscuB v))) l2) fun r96 =>
                if r96 = (-1) then
                  bnd0 (f_X8_leftChild ((LscuHs (P_QV_LscuB v)), (LscuS (P_QV_LscuB v))) l2) fun r100 =>
                  if r100 = (-1) then
                    kO (l2 + 1) v
                  else
                    some (0, v)
                else
                  some (0, v)
              else
                some (0, v)
            else
              some (0, v)
        else
          some (0, v)
      else
        some (0, v)
    else
      some (0, v)
  else
    some (0, v)
def f_L_isLike_j220 (kO : Int32 → P_QV_Lscu → Option (Int32 × P_QV_Lscu)) (l2 : Int32) (s0 : Int32) (s1 : Int32) (v : P_QV_Lscu) : Option (Int32 × P_QV_Lscu) :=
  if s1 = s0 then
    bnd0 (f_X8_isCancelled ((LscuHs (P_QV_LscuB v)), (LscuS (P_QV_LscuB v))) l2) fun r24 =>
    if oob l2 40 then none else
    if ((QVSt (P_QV_LscuA v)) (Int32.toNatClampNeg l2)) = 2 then
      f_L_isLike_j243 (kO) l2 1 r24 v
    else
      f_L_isLike_j243 (kO) l2 0 r24 v
  else
    some (0, v)
def f_L_isLike_j197 (kO : Int32 → P_QV_Lscu → Option (Int32 × P_QV_Lscu)) (l2 : Int32) (s0 : Int32) (s1 : Int32) (v : P_QV_Lscu) : Option (Int32 × P_QV_Lscu) :=
  if s1 = s0 then
    bnd0 (f_X8_isPrinted ((LscuHs (P_QV_LscuB v)), (LscuS (P_QV_LscuB v))) l2) fun r18 =>
    if oob l2 40 then none else
    if ((QVSt (P_QV_LscuA v)) (Int32.toNatClampNeg l2)) = 1 then
      f_L_isLike_j220 (kO) l2 1 r18 v
    else
      f_L_isLike_j220 (kO) l2 0 r18 v
  else
    some (0, v)
def f_L_isLike_h170 : Nat → Int32 → P_QV_Lscu → Option (Int32 × P_QV_Lscu)
  | 0, _, _ => none
  | n + 1, l2, v =>
    if (QVJb (P_QV_LscuA v)) ≤ l2 then
      bnd2 (f_X8_isConsistent (P_QV_LscuB v)) fun r8 w9 =>
      if ¬ (r8 = 0 ∨ r8 = 1) then none else
      some (r8, (P_QV_Lscu_sB v w9))
    else
      bnd0 (f_X8_isWaiting ((LscuHs (P_QV_LscuB v)), (LscuS (P_QV_LscuB v))) l2) fun r12 =>
      if oob l2 40 then none else
      if ((QVSt (P_QV_LscuA v)) (Int32.toNatClampNeg l2)) = 0 then
        f_L_isLike_j197 (f_L_isLike_h170 n) l2 1 r12 v
      else
        f_L_isLike_j197 (f_L_isLike_h170 n) l2 0 r12 v
def f_L_isLike_h116 (kO : Int32 → P_QV_Lscu → Option (Int32 × P_QV_Lscu)) : Nat → Int32 → Int32 → Int32 → P_QV_Lscu → Option (Int32 × P_QV_Lscu)
  | 0, _, _, _, _ => none
  | n + 1, l2, l3, l4, v =>
    if (QVJb (P_QV_LscuA v)) ≤ l4 then
      bnd0 (f_X8_waitingPages ((LscuHs (P_QV_LscuB v)), (LscuS (P_QV_LscuB v)), (LscuU (P_QV_LscuB v))) l2) fun r137 =>
      if r137 = l3 then
        kO (l2 + 1) v
      else
        some (0, v)
    else
      (f_L_isIn (P_QV_LscuA v) l4 l2).bind fun r141 =>
      if r141 = 0 then
        f_L_isLike_h116 kO n l2 l3 (l4 + 1) v
      else
        if oob l4 40 then none else
        f_L_isLike_h116 kO n l2 (l3 + ((QVPg (P_QV_LscuA v)) (Int32.toNatClampNeg l4))) (l4 + 1) v
def f_L_isLike_h15 : Nat → Int32 → P_QV_Lscu → Option (Int32 × P_QV_Lscu)
  | 0, _, _ => none
  | n + 1, l2, v =>
    if (QVNq (P_QV_LscuA v)) ≤ l2 then
      f_L_isLike_h170 FU 0 v
    else
      bnd0 (f_X8_root ((LscuHs (P_QV_LscuB v)), (LscuS (P_QV_LscuB v)), (LscuU (P_QV_LscuB v))) l2) fun r104 =>
      (f_L_first (QV_sSn (P_QV_LscuA v) 0) l2).bind fun r107 =>
      if r104 = r107 then
        bnd0 (f_X8_root ((LscuHs (P_QV_LscuB v)), (LscuS (P_QV_LscuB v)), (LscuU (P_QV_LscuB v))) l2) fun r111 =>
        bnd2 (f_L_isHeap 50 ((QV_sSn (P_QV_LscuA v) 0), ((LscuHs (P_QV_LscuB v)), (LscuS (P_QV_LscuB v)))) r111 l2 (-1) 0) fun r114 w115 =>
        if r114 = 0 then
          some (0, ((P_QV_LsA w115), (Lscu_sS (Lscu_sHs (P_QV_LscuB v) (LsHs (P_QV_LsB w115))) (LsS (P_QV_LsB w115)))))
        else
          (f_L_size (P_QV_LsA w115) l2).bind fun r118 =>
          if (QVSn (P_QV_LsA w115)) = r118 then
            bnd0 (f_X8_size ((LsHs (P_QV_LsB w115)), (LsS (P_QV_LsB w115)), (LscuU (P_QV_LscuB v))) l2) fun r122 =>
            if r122 = (QVSn (P_QV_LsA w115)) then
              bnd0 (f_X8_printedPages ((LsHs (P_QV_LsB w115)), (LsS (P_QV_LsB w115)), (LscuU (P_QV_LscuB v))) l2) fun r126 =>
              if oob l2 4 then none else
              if r126 = ((QVPd (P_QV_LsA w115)) (Int32.toNatClampNeg l2)) then
                bnd0 (f_X8_isPaused ((LsHs (P_QV_LsB w115)), (LsS (P_QV_LsB w115)), (LscuU (P_QV_LscuB v))) l2) fun r131 =>
                if oob l2 4 then none else
                if r131 = ((QVPs (P_QV_LsA w115)) (Int32.toNatClampNeg l2)) then
                  f_L_isLike_h116 (f_L_isLike_h15 n) FU l2 0 0 ((P_QV_LsA w115), (Lscu_sS (Lscu_sHs (P_QV_LscuB v) (LsHs (P_QV_LsB w115))) (LsS (P_QV_LsB w115))))
                else
                  some (0, ((P_QV_LsA w115), (Lscu_sS (Lscu_sHs (P_QV_LscuB v) (LsHs (P_QV_LsB w115))) (LsS (P_QV_LsB w115)))))
              else
                some (0, ((P_QV_LsA w115), (Lscu_sS (Lscu_sHs (P_QV_LscuB v) (LsHs (P_QV_LsB w115))) (LsS (P_QV_LsB w115)))))
            else
              some (0, ((P_QV_LsA w115), (Lscu_sS (Lscu_sHs (P_QV_LscuB v) (LsHs (P_QV_LsB w115))) (LsS (P_QV_LsB w115)))))
          else
            some (0, ((P_QV_LsA w115), (Lscu_sS (Lscu_sHs (P_QV_LscuB v) (LsHs (P_QV_LsB w115))) (LsS (P_QV_LsB w115)))))
      else
        some (0, (P_QV_Lscu_sA v (QV_sSn (P_QV_LscuA v) 0)))
def f_L_isLike (v : P_QV_Lscu) : Option (Int32 × P_QV_Lscu) :=
  (f_X8_jobCount ((LscuHs (P_QV_LscuB v)), (LscuS (P_QV_LscuB v)))).bind fun r2 =>
  if r2 = (QVJb (P_QV_LscuA v)) then
    f_L_isLike_h15 FU 0 v
  else
    some (0, v)
def f_L_bits (a : Int32) (b : Int32) (c : Int32) : Option (Int32) :=
  some (((Int32.toUInt32 a >>> (Int32.toUInt32 b &&& Int32.toUInt32 31)).toInt32) &&& ((1 <<< (c &&& 31)) - 1))
abbrev P_QV_Lysu : Type := QV × Lysu
def P_QV_LysuA (v : P_QV_Lysu) : QV := v.1
def P_QV_LysuB (v : P_QV_Lysu) : Lysu := v.2
def P_QV_Lysu_sA (v : P_QV_Lysu) (x : QV) : P_QV_Lysu := (x, P_QV_LysuB v)
def P_QV_Lysu_sB (v : P_QV_Lysu) (x : Lysu) : P_QV_Lysu := (P_QV_LysuA v, x)
def WP_QV_Lysu (v : P_QV_Lysu) : List AC := [.inr (9, [.ref 1, .ref 2, .ref 3, .ref 4, .ref 5, .ref 6, .ref 7, .ref 8, .int (QVNq (P_QV_LysuA v)), .int (QVNo (P_QV_LysuA v)), .int (QVJb (P_QV_LysuA v)), .int (QVSn (P_QV_LysuA v))]), .inl (0, 40, .inl (QVOw (P_QV_LysuA v))), .inl (0, 40, .inl (QVPr (P_QV_LysuA v))), .inl (0, 40, .inl (QVPg (P_QV_LysuA v))), .inl (0, 40, .inl (QVSt (P_QV_LysuA v))), .inl (0, 40, .inl (QVQu (P_QV_LysuA v))), .inl (0, 4, .inl (QVSp (P_QV_LysuA v))), .inl (0, 4, .inl (QVPd (P_QV_LysuA v))), .inl (2, 4, .inl (QVPs (P_QV_LysuA v))), .inr (8, [.ref 1001000, .ref 1001001, .ref 1001002, .ref 10, .ref 132, .ref 1001005, .ref 1001006, .int (LysuHs (P_QV_LysuB v)), .ref 147, .ref 1001009]), .inr (1, [.ref 11, .int (YVCt (LysuY (P_QV_LysuB v))), .int (YVNx (LysuY (P_QV_LysuB v)))]), .inl (4, 8, .inr (.inr (.inr (.inr (hA 12))))), .inr (7, [.ref 13, .int (SVJc ((YVKs (LysuY (P_QV_LysuB v))) 0)), .ref 20, .ref 21, .ref 22, .ref 23, .ref 24, .ref 25, .ref 26]), .inr (0, [.ref 14, .ref 15, .ref 16, .ref 17, .ref 18, .int (HVCm (SVH ((YVKs (LysuY (P_QV_LysuB v))) 0))), .int (HVSw (SVH ((YVKs (LysuY (P_QV_LysuB v))) 0))), .ref 19]), .inl (0, 40, .inl (HVPr (SVH ((YVKs (LysuY (P_QV_LysuB v))) 0)))), .inl (0, 40, .inl (HVLf (SVH ((YVKs (LysuY (P_QV_LysuB v))) 0)))), .inl (0, 40, .inl (HVRt (SVH ((YVKs (LysuY (P_QV_LysuB v))) 0)))), .inl (0, 40, .inl (HVUp (SVH ((YVKs (LysuY (P_QV_LysuB v))) 0)))), .inl (0, 40, .inl (HVRk (SVH ((YVKs (LysuY (P_QV_LysuB v))) 0)))), .inl (0, 40, .inl (HVPa (SVH ((YVKs (LysuY (P_QV_LysuB v))) 0)))), .inl (0, 40, .inl (SVOw ((YVKs (LysuY (P_QV_LysuB v))) 0))), .inl (0, 40, .inl (SVPg ((YVKs (LysuY (P_QV_LysuB v))) 0))), .inl (0, 40, .inl (SVFt ((YVKs (LysuY (P_QV_LysuB v))) 0))), .inl (0, 40, .inl (SVQu ((YVKs (LysuY (P_QV_LysuB v))) 0))), .inl (0, 6, .inl (SVRo ((YVKs (LysuY (P_QV_LysuB v))) 0))), .inl (0, 6, .inl (SVPd ((YVKs (LysuY (P_QV_LysuB v))) 0))), .inl (2, 6, .inl (SVPs ((YVKs (LysuY (P_QV_LysuB v))) 0))), .inr (7, [.ref 28, .int (SVJc ((YVKs (LysuY (P_QV_LysuB v))) 1)), .ref 35, .ref 36, .ref 37, .ref 38, .ref 39, .ref 40, .ref 41]), .inr (0, [.ref 29, .ref 30, .ref 31, .ref 32, .ref 33, .int (HVCm (SVH ((YVKs (LysuY (P_QV_LysuB v))) 1))), .int (HVSw (SVH ((YVKs (LysuY (P_QV_LysuB v))) 1))), .ref 34]), .inl (0, 40, .inl (HVPr (SVH ((YVKs (LysuY (P_QV_LysuB v))) 1)))), .inl (0, 40, .inl (HVLf (SVH ((YVKs (LysuY (P_QV_LysuB v))) 1)))), .inl (0, 40, .inl (HVRt (SVH ((YVKs (LysuY (P_QV_LysuB v))) 1)))), .inl (0, 40, .inl (HVUp (SVH ((YVKs (LysuY (P_QV_LysuB v))) 1)))), .inl (0, 40, .inl (HVRk (SVH ((YVKs (LysuY (P_QV_LysuB v))) 1)))), .inl (0, 40, .inl (HVPa (SVH ((YVKs (LysuY (P_QV_LysuB v))) 1)))), .inl (0, 40, .inl (SVOw ((YVKs (LysuY (P_QV_LysuB v))) 1))), .inl (0, 40, .inl (SVPg ((YVKs (LysuY (P_QV_LysuB v))) 1))), .inl (0, 40, .inl (SVFt ((YVKs (LysuY (P_QV_LysuB v))) 1))), .inl (0, 40, .inl (SVQu ((YVKs (LysuY (P_QV_LysuB v))) 1))), .inl (0, 6, .inl (SVRo ((YVKs (LysuY (P_QV_LysuB v))) 1))), .inl (0, 6, .inl (SVPd ((YVKs (LysuY (P_QV_LysuB v))) 1))), .inl (2, 6, .inl (SVPs ((YVKs (LysuY (P_QV_LysuB v))) 1))), .inr (7, [.ref 43, .int (SVJc ((YVKs (LysuY (P_QV_LysuB v))) 2)), .ref 50, .ref 51, .ref 52, .ref 53, .ref 54, .ref 55, .ref 56]), .inr (0, [.ref 44, .ref 45, .ref 46, .ref 47, .ref 48, .int (HVCm (SVH ((YVKs (LysuY (P_QV_LysuB v))) 2))), .int (HVSw (SVH ((YVKs (LysuY (P_QV_LysuB v))) 2))), .ref 49]), .inl (0, 40, .inl (HVPr (SVH ((YVKs (LysuY (P_QV_LysuB v))) 2)))), .inl (0, 40, .inl (HVLf (SVH ((YVKs (LysuY (P_QV_LysuB v))) 2)))), .inl (0, 40, .inl (HVRt (SVH ((YVKs (LysuY (P_QV_LysuB v))) 2)))), .inl (0, 40, .inl (HVUp (SVH ((YVKs (LysuY (P_QV_LysuB v))) 2)))), .inl (0, 40, .inl (HVRk (SVH ((YVKs (LysuY (P_QV_LysuB v))) 2)))), .inl (0, 40, .inl (HVPa (SVH ((YVKs (LysuY (P_QV_LysuB v))) 2)))), .inl (0, 40, .inl (SVOw ((YVKs (LysuY (P_QV_LysuB v))) 2))), .inl (0, 40, .inl (SVPg ((YVKs (LysuY (P_QV_LysuB v))) 2))), .inl (0, 40, .inl (SVFt ((YVKs (LysuY (P_QV_LysuB v))) 2))), .inl (0, 40, .inl (SVQu ((YVKs (LysuY (P_QV_LysuB v))) 2))), .inl (0, 6, .inl (SVRo ((YVKs (LysuY (P_QV_LysuB v))) 2))), .inl (0, 6, .inl (SVPd ((YVKs (LysuY (P_QV_LysuB v))) 2))), .inl (2, 6, .inl (SVPs ((YVKs (LysuY (P_QV_LysuB v))) 2))), .inr (7, [.ref 58, .int (SVJc ((YVKs (LysuY (P_QV_LysuB v))) 3)), .ref 65, .ref 66, .ref 67, .ref 68, .ref 69, .ref 70, .ref 71]), .inr (0, [.ref 59, .ref 60, .ref 61, .ref 62, .ref 63, .int (HVCm (SVH ((YVKs (LysuY (P_QV_LysuB v))) 3))), .int (HVSw (SVH ((YVKs (LysuY (P_QV_LysuB v))) 3))), .ref 64]), .inl (0, 40, .inl (HVPr (SVH ((YVKs (LysuY (P_QV_LysuB v))) 3)))), .inl (0, 40, .inl (HVLf (SVH ((YVKs (LysuY (P_QV_LysuB v))) 3)))), .inl (0, 40, .inl (HVRt (SVH ((YVKs (LysuY (P_QV_LysuB v))) 3)))), .inl (0, 40, .inl (HVUp (SVH ((YVKs (LysuY (P_QV_LysuB v))) 3)))), .inl (0, 40, .inl (HVRk (SVH ((YVKs (LysuY (P_QV_LysuB v))) 3)))), .inl (0, 40, .inl (HVPa (SVH ((YVKs (LysuY (P_QV_LysuB v))) 3)))), .inl (0, 40, .inl (SVOw ((YVKs (LysuY (P_QV_LysuB v))) 3))), .inl (0, 40, .inl (SVPg ((YVKs (LysuY (P_QV_LysuB v))) 3))), .inl (0, 40, .inl (SVFt ((YVKs (LysuY (P_QV_LysuB v))) 3))), .inl (0, 40, .inl (SVQu ((YVKs (LysuY (P_QV_LysuB v))) 3))), .inl (0, 6, .inl (SVRo ((YVKs (LysuY (P_QV_LysuB v))) 3))), .inl (0, 6, .inl (SVPd ((YVKs (LysuY (P_QV_LysuB v))) 3))), .inl (2, 6, .inl (SVPs ((YVKs (LysuY (P_QV_LysuB v))) 3))), .inr (7, [.ref 73, .int (SVJc ((YVKs (LysuY (P_QV_LysuB v))) 4)), .ref 80, .ref 81, .ref 82, .ref 83, .ref 84, .ref 85, .ref 86]), .inr (0, [.ref 74, .ref 75, .ref 76, .ref 77, .ref 78, .int (HVCm (SVH ((YVKs (LysuY (P_QV_LysuB v))) 4))), .int (HVSw (SVH ((YVKs (LysuY (P_QV_LysuB v))) 4))), .ref 79]), .inl (0, 40, .inl (HVPr (SVH ((YVKs (LysuY (P_QV_LysuB v))) 4)))), .inl (0, 40, .inl (HVLf (SVH ((YVKs (LysuY (P_QV_LysuB v))) 4)))), .inl (0, 40, .inl (HVRt (SVH ((YVKs (LysuY (P_QV_LysuB v))) 4)))), .inl (0, 40, .inl (HVUp (SVH ((YVKs (LysuY (P_QV_LysuB v))) 4)))), .inl (0, 40, .inl (HVRk (SVH ((YVKs (LysuY (P_QV_LysuB v))) 4)))), .inl (0, 40, .inl (HVPa (SVH ((YVKs (LysuY (P_QV_LysuB v))) 4)))), .inl (0, 40, .inl (SVOw ((YVKs (LysuY (P_QV_LysuB v))) 4))), .inl (0, 40, .inl (SVPg ((YVKs (LysuY (P_QV_LysuB v))) 4))), .inl (0, 40, .inl (SVFt ((YVKs (LysuY (P_QV_LysuB v))) 4))), .inl (0, 40, .inl (SVQu ((YVKs (LysuY (P_QV_LysuB v))) 4))), .inl (0, 6, .inl (SVRo ((YVKs (LysuY (P_QV_LysuB v))) 4))), .inl (0, 6, .inl (SVPd ((YVKs (LysuY (P_QV_LysuB v))) 4))), .inl (2, 6, .inl (SVPs ((YVKs (LysuY (P_QV_LysuB v))) 4))), .inr (7, [.ref 88, .int (SVJc ((YVKs (LysuY (P_QV_LysuB v))) 5)), .ref 95, .ref 96, .ref 97, .ref 98, .ref 99, .ref 100, .ref 101]), .inr (0, [.ref 89, .ref 90, .ref 91, .ref 92, .ref 93, .int (HVCm (SVH ((YVKs (LysuY (P_QV_LysuB v))) 5))), .int (HVSw (SVH ((YVKs (LysuY (P_QV_LysuB v))) 5))), .ref 94]), .inl (0, 40, .inl (HVPr (SVH ((YVKs (LysuY (P_QV_LysuB v))) 5)))), .inl (0, 40, .inl (HVLf (SVH ((YVKs (LysuY (P_QV_LysuB v))) 5)))), .inl (0, 40, .inl (HVRt (SVH ((YVKs (LysuY (P_QV_LysuB v))) 5)))), .inl (0, 40, .inl (HVUp (SVH ((YVKs (LysuY (P_QV_LysuB v))) 5)))), .inl (0, 40, .inl (HVRk (SVH ((YVKs (LysuY (P_QV_LysuB v))) 5)))), .inl (0, 40, .inl (HVPa (SVH ((YVKs (LysuY (P_QV_LysuB v))) 5)))), .inl (0, 40, .inl (SVOw ((YVKs (LysuY (P_QV_LysuB v))) 5))), .inl (0, 40, .inl (SVPg ((YVKs (LysuY (P_QV_LysuB v))) 5))), .inl (0, 40, .inl (SVFt ((YVKs (LysuY (P_QV_LysuB v))) 5))), .inl (0, 40, .inl (SVQu ((YVKs (LysuY (P_QV_LysuB v))) 5))), .inl (0, 6, .inl (SVRo ((YVKs (LysuY (P_QV_LysuB v))) 5))), .inl (0, 6, .inl (SVPd ((YVKs (LysuY (P_QV_LysuB v))) 5))), .inl (2, 6, .inl (SVPs ((YVKs (LysuY (P_QV_LysuB v))) 5))), .inr (7, [.ref 103, .int (SVJc ((YVKs (LysuY (P_QV_LysuB v))) 6)), .ref 110, .ref 111, .ref 112, .ref 113, .ref 114, .ref 115, .ref 116]), .inr (0, [.ref 104, .ref 105, .ref 106, .ref 107, .ref 108, .int (HVCm (SVH ((YVKs (LysuY (P_QV_LysuB v))) 6))), .int (HVSw (SVH ((YVKs (LysuY (P_QV_LysuB v))) 6))), .ref 109]), .inl (0, 40, .inl (HVPr (SVH ((YVKs (LysuY (P_QV_LysuB v))) 6)))), .inl (0, 40, .inl (HVLf (SVH ((YVKs (LysuY (P_QV_LysuB v))) 6)))), .inl (0, 40, .inl (HVRt (SVH ((YVKs (LysuY (P_QV_LysuB v))) 6)))), .inl (0, 40, .inl (HVUp (SVH ((YVKs (LysuY (P_QV_LysuB v))) 6)))), .inl (0, 40, .inl (HVRk (SVH ((YVKs (LysuY (P_QV_LysuB v))) 6)))), .inl (0, 40, .inl (HVPa (SVH ((YVKs (LysuY (P_QV_LysuB v))) 6)))), .inl (0, 40, .inl (SVOw ((YVKs (LysuY (P_QV_LysuB v))) 6))), .inl (0, 40, .inl (SVPg ((YVKs (LysuY (P_QV_LysuB v))) 6))), .inl (0, 40, .inl (SVFt ((YVKs (LysuY (P_QV_LysuB v))) 6))), .inl (0, 40, .inl (SVQu ((YVKs (LysuY (P_QV_LysuB v))) 6))), .inl (0, 6, .inl (SVRo ((YVKs (LysuY (P_QV_LysuB v))) 6))), .inl (0, 6, .inl (SVPd ((YVKs (LysuY (P_QV_LysuB v))) 6))), .inl (2, 6, .inl (SVPs ((YVKs (LysuY (P_QV_LysuB v))) 6))), .inr (7, [.ref 118, .int (SVJc ((YVKs (LysuY (P_QV_LysuB v))) 7)), .ref 125, .ref 126, .ref 127, .ref 128, .ref 129, .ref 130, .ref 131]), .inr (0, [.ref 119, .ref 120, .ref 121, .ref 122, .ref 123, .int (HVCm (SVH ((YVKs (LysuY (P_QV_LysuB v))) 7))), .int (HVSw (SVH ((YVKs (LysuY (P_QV_LysuB v))) 7))), .ref 124]), .inl (0, 40, .inl (HVPr (SVH ((YVKs (LysuY (P_QV_LysuB v))) 7)))), .inl (0, 40, .inl (HVLf (SVH ((YVKs (LysuY (P_QV_LysuB v))) 7)))), .inl (0, 40, .inl (HVRt (SVH ((YVKs (LysuY (P_QV_LysuB v))) 7)))), .inl (0, 40, .inl (HVUp (SVH ((YVKs (LysuY (P_QV_LysuB v))) 7)))), .inl (0, 40, .inl (HVRk (SVH ((YVKs (LysuY (P_QV_LysuB v))) 7)))), .inl (0, 40, .inl (HVPa (SVH ((YVKs (LysuY (P_QV_LysuB v))) 7)))), .inl (0, 40, .inl (SVOw ((YVKs (LysuY (P_QV_LysuB v))) 7))), .inl (0, 40, .inl (SVPg ((YVKs (LysuY (P_QV_LysuB v))) 7))), .inl (0, 40, .inl (SVFt ((YVKs (LysuY (P_QV_LysuB v))) 7))), .inl (0, 40, .inl (SVQu ((YVKs (LysuY (P_QV_LysuB v))) 7))), .inl (0, 6, .inl (SVRo ((YVKs (LysuY (P_QV_LysuB v))) 7))), .inl (0, 6, .inl (SVPd ((YVKs (LysuY (P_QV_LysuB v))) 7))), .inl (2, 6, .inl (SVPs ((YVKs (LysuY (P_QV_LysuB v))) 7))), .inr (7, [.ref 133, .int (SVJc (LysuS (P_QV_LysuB v))), .ref 140, .ref 141, .ref 142, .ref 143, .ref 144, .ref 145, .ref 146]), .inr (0, [.ref 134, .ref 135, .ref 136, .ref 137, .ref 138, .int (HVCm (SVH (LysuS (P_QV_LysuB v)))), .int (HVSw (SVH (LysuS (P_QV_LysuB v)))), .ref 139]), .inl (0, 40, .inl (HVPr (SVH (LysuS (P_QV_LysuB v))))), .inl (0, 40, .inl (HVLf (SVH (LysuS (P_QV_LysuB v))))), .inl (0, 40, .inl (HVRt (SVH (LysuS (P_QV_LysuB v))))), .inl (0, 40, .inl (HVUp (SVH (LysuS (P_QV_LysuB v))))), .inl (0, 40, .inl (HVRk (SVH (LysuS (P_QV_LysuB v))))), .inl (0, 40, .inl (HVPa (SVH (LysuS (P_QV_LysuB v))))), .inl (0, 40, .inl (SVOw (LysuS (P_QV_LysuB v)))), .inl (0, 40, .inl (SVPg (LysuS (P_QV_LysuB v)))), .inl (0, 40, .inl (SVFt (LysuS (P_QV_LysuB v)))), .inl (0, 40, .inl (SVQu (LysuS (P_QV_LysuB v)))), .inl (0, 6, .inl (SVRo (LysuS (P_QV_LysuB v)))), .inl (0, 6, .inl (SVPd (LysuS (P_QV_LysuB v)))), .inl (2, 6, .inl (SVPs (LysuS (P_QV_LysuB v)))), .inr (6, [.ref 148, .ref 150, .ref 152]), .inr (2, [.ref 149, .int (NVCt (UVQs (LysuU (P_QV_LysuB v))))]), .inl (1, 8, .inr (.inl (NVPk (UVQs (LysuU (P_QV_LysuB v)))))), .inr (2, [.ref 151, .int (NVCt (UVOs (LysuU (P_QV_LysuB v))))]), .inl (1, 8, .inr (.inl (NVPk (UVOs (LysuU (P_QV_LysuB v)))))), .inl (0, 6, .inl (UVSp (LysuU (P_QV_LysuB v))))]
def f_L_acts_j124 (l2 : Int32) (l3 : Int32) (l5 : Int32) (v : P_QV_Lysu) : Option (Int32 × P_QV_Lysu) :=
  if (QVJb (P_QV_LysuA v)) = 40 then
    bnd2 (f_L_isRefused (P_QV_LysuB v) 4 0 0) fun r36 w37 =>
    if ¬ (r36 = 0 ∨ r36 = 1) then none else
    some (r36, (P_QV_Lysu_sB v w37))
  else
    (f_L_bits l2 8 4).bind fun r19 =>
    if ((QVNo (P_QV_LysuA v)) : Int32) = 0 then none else
    if oob (QVJb (P_QV_LysuA v)) 40 then none else
    if oob (QVJb (P_QV_LysuA v)) 40 then none else
    (f_L_bits l2 18 5).bind fun r25 =>
    if oob (QVJb (P_QV_LysuA v)) 40 then none else
    if oob (QVJb (P_QV_LysuA v)) 40 then none else
    if oob (QVJb (P_QV_LysuA v)) 40 then none else
    if oob (((QVJb (P_QV_LysuA v)) + 1) - 1) 40 then none else
    bnd0X (f_X8_submit (P_QV_LysuB v) l3 (r19 - r19 / (QVNo (P_QV_LysuA v)) * (QVNo (P_QV_LysuA v))) l5 ((upd (QVPg (P_QV_LysuA v)) (Int32.toNatClampNeg (QVJb (P_QV_LysuA v))) (1 + r25)) (Int32.toNatClampNeg (((QVJb (P_QV_LysuA v)) + 1) - 1)))) fun r32 w33 =>
    if r32 = (((QVJb (P_QV_LysuA v)) + 1) - 1) then
      some (1, (((upd (QVOw (P_QV_LysuA v)) (Int32.toNatClampNeg (QVJb (P_QV_LysuA v))) (r19 - r19 / (QVNo (P_QV_LysuA v)) * (QVNo (P_QV_LysuA v)))), (upd (QVPr (P_QV_LysuA v)) (Int32.toNatClampNeg (QVJb (P_QV_LysuA v))) l5), (upd (QVPg (P_QV_LysuA v)) (Int32.toNatClampNeg (QVJb (P_QV_LysuA v))) (1 + r25)), (upd (QVSt (P_QV_LysuA v)) (Int32.toNatClampNeg (QVJb (P_QV_LysuA v))) 0), (upd (QVQu (P_QV_LysuA v)) (Int32.toNatClampNeg (QVJb (P_QV_LysuA v))) l3), (QVSp (P_QV_LysuA v)), (QVPd (P_QV_LysuA v)), (QVPs (P_QV_LysuA v)), (QVNq (P_QV_LysuA v)), (QVNo (P_QV_LysuA v)), ((QVJb (P_QV_LysuA v)) + 1), (QVSn (P_QV_LysuA v))), w33))
    else
      some (0, (((upd (QVOw (P_QV_LysuA v)) (Int32.toNatClampNeg (QVJb (P_QV_LysuA v))) (r19 - r19 / (QVNo (P_QV_LysuA v)) * (QVNo (P_QV_LysuA v)))), (upd (QVPr (P_QV_LysuA v)) (Int32.toNatClampNeg (QVJb (P_QV_LysuA v))) l5), (upd (QVPg (P_QV_LysuA v)) (Int32.toNatClampNeg (QVJb (P_QV_LysuA v))) (1 + r25)), (upd (QVSt (P_QV_LysuA v)) (Int32.toNatClampNeg (QVJb (P_QV_LysuA v))) 0), (upd (QVQu (P_QV_LysuA v)) (Int32.toNatClampNeg (QVJb (P_QV_LysuA v))) l3), (QVSp (P_QV_LysuA v)), (QVPd (P_QV_LysuA v)), (QVPs (P_QV_LysuA v)), (QVNq (P_QV_LysuA v)), (QVNo (P_QV_LysuA v)), ((QVJb (P_QV_LysuA v)) + 1), (QVSn (P_QV_LysuA v))), w33))
def f_L_acts_j314 (l3 : Int32) (v : P_QV_Lysu) : Option (Int32 × P_QV_Lysu) :=
  bnd2 (f_L_isRefused (P_QV_LysuB v) 0 l3 0) fun r58 w59 =>
  if ¬ (r58 = 0 ∨ r58 = 1) then none else
  some (r58, (P_QV_Lysu_sB v w59))
def f_L_acts_j260 (l3 : Int32) (v : P_QV_Lysu) : Option (Int32 × P_QV_Lysu) :=
  (f_L_first (P_QV_LysuA v) l3).bind fun r46 =>
  bnd0 (f_X8_printingObstacle ((LysuHs (P_QV_LysuB v)), (LysuS (P_QV_LysuB v)), (LysuU (P_QV_LysuB v))) l3) fun r49 =>
  if oob l3 4 then none else
  if ((QVPs (P_QV_LysuA v)) (Int32.toNatClampNeg l3)) = 0 then
    if 0 ≤ r46 then
      if r49 = 0 then
        if oob l3 4 then none else
        if ((QVPs (P_QV_LysuA v)) (Int32.toNatClampNeg l3)) = 0 then
          if 0 ≤ r46 then
            if oob r46 40 then none else
            if oob l3 4 then none else
            if oob r46 40 then none else
            if oob l3 4 then none else
            bnd0X (f_X8_printNext (P_QV_LysuB v) l3) fun r67 w68 =>
            if r67 = r46 then
              some (1, ((QV_sPd (QV_sSt (P_QV_LysuA v) (upd (QVSt (P_QV_LysuA v)) (Int32.toNatClampNeg r46) 1)) (upd (QVPd (P_QV_LysuA v)) (Int32.toNatClampNeg l3) (((QVPd (P_QV_LysuA v)) (Int32.toNatClampNeg l3)) + ((QVPg (P_QV_LysuA v)) (Int32.toNatClampNeg r46))))), w68))
            else
              some (0, ((QV_sPd (QV_sSt (P_QV_LysuA v) (upd (QVSt (P_QV_LysuA v)) (Int32.toNatClampNeg r46) 1)) (upd (QVPd (P_QV_LysuA v)) (Int32.toNatClampNeg l3) (((QVPd (P_QV_LysuA v)) (Int32.toNatClampNeg l3)) + ((QVPg (P_QV_LysuA v)) (Int32.toNatClampNeg r46))))), w68))
          else
            f_L_acts_j314 l3 v
        else
          f_L_acts_j314 l3 v
      else
        some (0, v)
    else
      if r49 = 2 then
        if oob l3 4 then none else
        if ((QVPs (P_QV_LysuA v)) (Int32.toNatClampNeg l3)) = 0 then
          if 0 ≤ r46 then
            if oob r46 40 then none else
            if oob l3 4 then none else
            if oob r46 40 then none else
            if oob l3 4 then none else
            bnd0X (f_X8_printNext (P_QV_LysuB v) l3) fun r79 w80 =>
            if r79 = r46 then
              some (1, ((QV_sPd (QV_sSt (P_QV_LysuA v) (upd (QVSt (P_QV_LysuA v)) (Int32.toNatClampNeg r46) 1)) (upd (QVPd (P_QV_LysuA v)) (Int32.toNatClampNeg l3) (((QVPd (P_QV_LysuA v)) (Int32.toNatClampNeg l3)) + ((QVPg (P_QV_LysuA v)) (Int32.toNatClampNeg r46))))), w80))
            else
              some (0, ((QV_sPd (QV_sSt (P_QV_LysuA v) (upd (QVSt (P_QV_LysuA v)) (Int32.toNatClampNeg r46) 1)) (upd (QVPd (P_QV_LysuA v)) (Int32.toNatClampNeg l3) (((QVPd (P_QV_LysuA v)) (Int32.toNatClampNeg l3)) + ((QVPg (P_QV_LysuA v)) (Int32.toNatClampNeg r46))))), w80))
          else
            f_L_acts_j314 l3 v
        else
          f_L_acts_j314 l3 v
      else
        some (0, v)
  else
    if r49 = 1 then
      if oob l3 4 then none else
      if ((QVPs (P_QV_LysuA v)) (Int32.toNatClampNeg l3)) = 0 then
        if 0 ≤ r46 then
          if oob r46 40 then none else
          if oob l3 4 then none else
          if oob r46 40 then none else
          if oob l3 4 then none else
          bnd0X (f_X8_printNext (P_QV_LysuB v) l3) fun r91 w92 =>
          if r91 = r46 then
            some (1, ((QV_sPd (QV_sSt (P_QV_LysuA v) (upd (QVSt (P_QV_LysuA v)) (Int32.toNatClampNeg r46) 1)) (upd (QVPd (P_QV_LysuA v)) (Int32.toNatClampNeg l3) (((QVPd (P_QV_LysuA v)) (Int32.toNatClampNeg l3)) + ((QVPg (P_QV_LysuA v)) (Int32.toNatClampNeg r46))))), w92))
          else
            some (0, ((QV_sPd (QV_sSt (P_QV_LysuA v) (upd (QVSt (P_QV_LysuA v)) (Int32.toNatClampNeg r46) 1)) (upd (QVPd (P_QV_LysuA v)) (Int32.toNatClampNeg l3) (((QVPd (P_QV_LysuA v)) (Int32.toNatClampNeg l3)) + ((QVPg (P_QV_LysuA v)) (Int32.toNatClampNeg r46))))), w92))
        else
          f_L_acts_j314 l3 v
      else
        f_L_acts_j314 l3 v
    else
      some (0, v)
def f_L_acts_j433 (l4 : Int32) (l5 : Int32) (v : P_QV_Lysu) : Option (Int32 × P_QV_Lysu) :=
  if 0 ≤ l4 then
    if oob l4 40 then none else
    if ((QVSt (P_QV_LysuA v)) (Int32.toNatClampNeg l4)) ≤ 0 then
      if oob l4 40 then none else
      bnd0 (f_X8_positionWith ((LysuHs (P_QV_LysuB v)), (LysuS (P_QV_LysuB v))) l4 l5) fun r122 =>
      if 0 ≤ r122 then
        if oob l4 40 then none else
        bnd0X (f_X8_changePriority ((LysuHs (P_QV_LysuB v)), (LysuY (P_QV_LysuB v)), (LysuS (P_QV_LysuB v))) l4 l5) fun r127 w128 =>
        if r127 = ((QVPr (P_QV_LysuA v)) (Int32.toNatClampNeg l4)) then
          some (1, ((QV_sPr (P_QV_LysuA v) (upd (QVPr (P_QV_LysuA v)) (Int32.toNatClampNeg l4) l5)), ((LysHs w128), (LysY w128), (LysS w128), (LysuU (P_QV_LysuB v)))))
        else
          some (0, ((QV_sPr (P_QV_LysuA v) (upd (QVPr (P_QV_LysuA v)) (Int32.toNatClampNeg l4) l5)), ((LysHs w128), (LysY w128), (LysS w128), (LysuU (P_QV_LysuB v)))))
      else
        some (0, v)
    else
      bnd2 (f_L_isRefused (P_QV_LysuB v) 2 l4 l5) fun r131 w132 =>
      if ¬ (r131 = 0 ∨ r131 = 1) then none else
      some (r131, (P_QV_Lysu_sB v w132))
  else
    (f_X8_jobCount ((LysuHs (P_QV_LysuB v)), (LysuS (P_QV_LysuB v)))).bind fun r135 =>
    if r135 = 0 then
      some (1, v)
    else
      some (0, v)
def f_L_acts_j560 (l3 : Int32) (l4 : Int32) (v : P_QV_Lysu) : Option (Int32 × P_QV_Lysu) :=
  bnd2 (f_L_isRefused (P_QV_LysuB v) 3 l4 l3) fun r144 w145 =>
  if ¬ (r144 = 0 ∨ r144 = 1) then none else
  some (r144, (P_QV_Lysu_sB v w145))
def f_L_acts_j521 (l3 : Int32) (l4 : Int32) (v : P_QV_Lysu) : Option (Int32 × P_QV_Lysu) :=
  if 0 ≤ l4 then
    if oob l4 40 then none else
    if 0 < ((QVSt (P_QV_LysuA v)) (Int32.toNatClampNeg l4)) then
      f_L_acts_j560 l3 l4 v
    else
      if oob l4 40 then none else
      if ((QVQu (P_QV_LysuA v)) (Int32.toNatClampNeg l4)) = l3 then
        f_L_acts_j560 l3 l4 v
      else
        if oob l4 40 then none else
        bnd0X (f_X8_moveJob (P_QV_LysuB v) l4 l3) fun r151 w152 =>
        (f_L_first (QV_sQu (P_QV_LysuA v) (upd (QVQu (P_QV_LysuA v)) (Int32.toNatClampNeg l4) l3)) l3).bind fun r154 =>
        if r151 = r154 then
          some (1, ((QV_sQu (P_QV_LysuA v) (upd (QVQu (P_QV_LysuA v)) (Int32.toNatClampNeg l4) l3)), w152))
        else
          some (0, ((QV_sQu (P_QV_LysuA v) (upd (QVQu (P_QV_LysuA v)) (Int32.toNatClampNeg l4) l3)), w152))
  else
    (f_X8_jobCount ((LysuHs (P_QV_LysuB v)), (LysuS (P_QV_LysuB v)))).bind fun r158 =>
    if r158 = 0 then
      some (1, v)
    else
      some (0, v)
def f_L_acts_h619 : Nat → Int32 → Int32 → Int32 → Int32 → Int32 → Int32 → P_QV_Lysu → Option (Int32 × P_QV_Lysu)
  | 0, _, _, _, _, _, _, _ => none
  | n + 1, l2, l3, l4, l5, l6, l7, v =>
    if (QVJb (P_QV_LysuA v)) ≤ l7 then
      bnd0X (f_X8_mergeQueues (P_QV_LysuB v) l3 l6) fun r167 w168 =>
      (f_L_size (P_QV_LysuA v) l6).bind fun r170 =>
      if r167 = r170 then
        some (1, (P_QV_Lysu_sB v w168))
      else
        some (0, (P_QV_Lysu_sB v w168))
    else
      (f_L_isIn (P_QV_LysuA v) l7 l3).bind fun r174 =>
      if r174 = 0 then
        f_L_acts_h619 n l2 l3 l4 l5 l6 (l7 + 1) v
      else
        if oob l7 40 then none else
        f_L_acts_h619 n l2 l3 l4 l5 l6 (l7 + 1) (P_QV_Lysu_sA v (QV_sQu (P_QV_LysuA v) (upd (QVQu (P_QV_LysuA v)) (Int32.toNatClampNeg l7) l6)))
def f_L_acts_j703 (l3 : Int32) (l6 : Int32) (s0 : Int32) (s1 : Int32) (v : P_QV_Lysu) : Option (Int32 × P_QV_Lysu) :=
  if oob s1 4 then none else
  if oob l3 4 then none else
  bnd0X (f_X8_setPaused (P_QV_LysuB v) l3 ((upd (QVPs (P_QV_LysuA v)) (Int32.toNatClampNeg s1) (vp_nar .boolean s0)) (Int32.toNatClampNeg l3))) fun r186 w187 =>
  if r186 = l6 then
    some (1, ((QV_sPs (P_QV_LysuA v) (upd (QVPs (P_QV_LysuA v)) (Int32.toNatClampNeg s1) (vp_nar .boolean s0))), w187))
  else
    some (0, ((QV_sPs (P_QV_LysuA v) (upd (QVPs (P_QV_LysuA v)) (Int32.toNatClampNeg s1) (vp_nar .boolean s0))), w187))
def f_L_acts_j36 (l2 : Int32) (l3 : Int32) (s0 : Int32) (v : P_QV_Lysu) : Option (Int32 × P_QV_Lysu) :=
  (f_L_bits l2 14 4).bind fun r11 =>
  (f_L_bits l2 0 4).bind fun r14 =>
  if r14 = 0 then
    f_L_acts_j124 l2 l3 (r11 * 5) v
  else
  if r14 = 1 then
    f_L_acts_j124 l2 l3 (r11 * 5) v
  else
  if r14 = 2 then
    f_L_acts_j124 l2 l3 (r11 * 5) v
  else
  if r14 = 3 then
    f_L_acts_j124 l2 l3 (r11 * 5) v
  else
  if r14 = 4 then
    f_L_acts_j124 l2 l3 (r11 * 5) v
  else
  if r14 = 5 then
    f_L_acts_j124 l2 l3 (r11 * 5) v
  else
  if r14 = 6 then
    f_L_acts_j260 l3 v
  else
  if r14 = 7 then
    f_L_acts_j260 l3 v
  else
  if r14 = 8 then
    if 0 ≤ s0 then
      if oob s0 40 then none else
      if ((QVSt (P_QV_LysuA v)) (Int32.toNatClampNeg s0)) ≤ 0 then
        if oob s0 40 then none else
        bnd0X (f_X8_cancel ((LysuHs (P_QV_LysuB v)), (LysuY (P_QV_LysuB v)), (LysuS (P_QV_LysuB v))) s0) fun r101 w102 =>
        if oob s0 40 then none else
        (f_L_size (QV_sSt (P_QV_LysuA v) (upd (QVSt (P_QV_LysuA v)) (Int32.toNatClampNeg s0) 2)) ((QVQu (P_QV_LysuA v)) (Int32.toNatClampNeg s0))).bind fun r105 =>
        if r101 = r105 then
          some (1, ((QV_sSt (P_QV_LysuA v) (upd (QVSt (P_QV_LysuA v)) (Int32.toNatClampNeg s0) 2)), ((LysHs w102), (LysY w102), (LysS w102), (LysuU (P_QV_LysuB v)))))
        else
          some (0, ((QV_sSt (P_QV_LysuA v) (upd (QVSt (P_QV_LysuA v)) (Int32.toNatClampNeg s0) 2)), ((LysHs w102), (LysY w102), (LysS w102), (LysuU (P_QV_LysuB v)))))
      else
        bnd2 (f_L_isRefused (P_QV_LysuB v) 1 s0 0) fun r109 w110 =>
        if ¬ (r109 = 0 ∨ r109 = 1) then none else
        some (r109, (P_QV_Lysu_sB v w110))
    else
      (f_X8_jobCount ((LysuHs (P_QV_LysuB v)), (LysuS (P_QV_LysuB v)))).bind fun r113 =>
      if r113 = 0 then
        some (1, v)
      else
        some (0, v)
  else
  if r14 = 9 then
    f_L_acts_j433 s0 (r11 * 5) v
  else
  if r14 = 10 then
    f_L_acts_j433 s0 (r11 * 5) v
  else
  if r14 = 11 then
    f_L_acts_j521 l3 s0 v
  else
  if r14 = 12 then
    f_L_acts_j521 l3 s0 v
  else
  if r14 = 13 then
    if ((QVNq (P_QV_LysuA v)) : Int32) = 0 then none else
    if ((l3 + 1) - (l3 + 1) / (QVNq (P_QV_LysuA v)) * (QVNq (P_QV_LysuA v))) = l3 then
      some (1, v)
    else
      f_L_acts_h619 FU l2 l3 s0 (r11 * 5) ((l3 + 1) - (l3 + 1) / (QVNq (P_QV_LysuA v)) * (QVNq (P_QV_LysuA v))) 0 v
  else
  if oob l3 4 then none else
  (f_L_bits l2 8 2).bind fun r180 =>
  if r180 = 0 then
    f_L_acts_j703 l3 ((QVPs (P_QV_LysuA v)) (Int32.toNatClampNeg l3)) 1 l3 v
  else
    f_L_acts_j703 l3 ((QVPs (P_QV_LysuA v)) (Int32.toNatClampNeg l3)) 0 l3 v
def f_L_acts (v : P_QV_Lysu) (a : Int32) : Option (Int32 × P_QV_Lysu) :=
  (f_L_bits a 4 4).bind fun r2 =>
  if ((QVNq (P_QV_LysuA v)) : Int32) = 0 then none else
  if (QVJb (P_QV_LysuA v)) = 0 then
    f_L_acts_j36 a (r2 - r2 / (QVNq (P_QV_LysuA v)) * (QVNq (P_QV_LysuA v))) (-1) v
  else
    (f_L_bits a 8 6).bind fun r7 =>
    if ((QVJb (P_QV_LysuA v)) : Int32) = 0 then none else
    f_L_acts_j36 a (r2 - r2 / (QVNq (P_QV_LysuA v)) * (QVNq (P_QV_LysuA v))) (r7 - r7 / (QVJb (P_QV_LysuA v)) * (QVJb (P_QV_LysuA v))) v
