/-! ===== 12.defs: the functions of all methods, by program (wip/tools/dc.py, gen12.py) ===== -/
def f_X0_isNode (a : Int32) : Option (Int32) :=
  if a < 0 then
    some 0
  else
    if 40 ≤ a then
      some 0
    else
      some 1
def f_X0_ancestors_h4 : Nat → Int32 → Int32 → Int32 → HV → Option (Int32)
  | 0, _, _, _, _ => none
  | n + 1, l1, l2, l3, v =>
    if 40 ≤ l2 then
      some l2
    else
      (f_X0_isNode l3).bind fun r3 =>
      if r3 = 0 then
        some l2
      else
        if oob l3 40 then none else
        (f_X0_isNode ((HVUp v) (Int32.toNatClampNeg l3))).bind fun r8 =>
        if r8 = 0 then
          some l2
        else
          if oob l3 40 then none else
          f_X0_ancestors_h4 n l1 (l2 + 1) ((HVUp v) (Int32.toNatClampNeg l3)) v
def f_X0_ancestors (v : HV) (a : Int32) : Option (Int32) :=
  f_X0_ancestors_h4 FU a 0 a v
def f_X0_clearCounters (v : HV) : Option (Unit × HV) :=
  some ((), (HV_sSw (HV_sCm v 0) 0))
def f_X0_comesBefore (v : HV) (a : Int32) (b : Int32) (c : Int32) : Option (Int32) :=
  if oob a 40 then none else
  if ((HVPr v) (Int32.toNatClampNeg a)) < c then
    some 1
  else
    if oob a 40 then none else
    if ((HVPr v) (Int32.toNatClampNeg a)) = c then
      if b ≤ a then
        some 0
      else
        some 1
    else
      some 0
def f_X0_precedes (v : HV) (a : Int32) (b : Int32) : Option (Int32) :=
  (f_X0_isNode a).bind fun r2 =>
  if r2 = 0 then
    some 0
  else
    (f_X0_isNode b).bind fun r6 =>
    if r6 = 0 then
      some 0
    else
      if oob b 40 then none else
      (f_X0_comesBefore v a b ((HVPr v) (Int32.toNatClampNeg b))).bind fun r11 =>
      if ¬ (r11 = 0 ∨ r11 = 1) then none else
      some r11
def f_X0_comparisonsToMerge_h8 : Nat → Int32 → Int32 → Int32 → Int32 → Int32 → HV → Option (Int32)
  | 0, _, _, _, _, _, _ => none
  | n + 1, l1, l2, l3, l4, l5, v =>
    if 40 ≤ l5 then
      some l5
    else
      (f_X0_isNode l3).bind fun r3 =>
      if r3 = 0 then
        some l5
      else
        (f_X0_isNode l4).bind fun r7 =>
        if r7 = 0 then
          some l5
        else
          (f_X0_precedes v l3 l4).bind fun r11 =>
          if r11 = 0 then
            if oob l4 40 then none else
            f_X0_comparisonsToMerge_h8 n l1 l2 l3 ((HVRt v) (Int32.toNatClampNeg l4)) (l5 + 1) v
          else
            if oob l3 40 then none else
            f_X0_comparisonsToMerge_h8 n l1 l2 ((HVRt v) (Int32.toNatClampNeg l3)) l4 (l5 + 1) v
def f_X0_comparisonsToMerge (v : HV) (a : Int32) (b : Int32) : Option (Int32) :=
  f_X0_comparisonsToMerge_h8 FU a b a b 0 v
abbrev P_HV_HV : Type := HV × HV
def P_HV_HVA (v : P_HV_HV) : HV := v.1
def P_HV_HVB (v : P_HV_HV) : HV := v.2
def P_HV_HV_sA (v : P_HV_HV) (x : HV) : P_HV_HV := (x, P_HV_HVB v)
def P_HV_HV_sB (v : P_HV_HV) (x : HV) : P_HV_HV := (P_HV_HVA v, x)
def WP_HV_HV (v : P_HV_HV) : List AC := [.inr (0, [.ref 1, .ref 2, .ref 3, .ref 4, .ref 5, .int (HVCm (P_HV_HVA v)), .int (HVSw (P_HV_HVA v)), .ref 6]), .inl (0, 40, .inl (HVPr (P_HV_HVA v))), .inl (0, 40, .inl (HVLf (P_HV_HVA v))), .inl (0, 40, .inl (HVRt (P_HV_HVA v))), .inl (0, 40, .inl (HVUp (P_HV_HVA v))), .inl (0, 40, .inl (HVRk (P_HV_HVA v))), .inl (0, 40, .inl (HVPa (P_HV_HVA v))), .inr (0, [.ref 8, .ref 9, .ref 10, .ref 11, .ref 12, .int (HVCm (P_HV_HVB v)), .int (HVSw (P_HV_HVB v)), .ref 13]), .inl (0, 40, .inl (HVPr (P_HV_HVB v))), .inl (0, 40, .inl (HVLf (P_HV_HVB v))), .inl (0, 40, .inl (HVRt (P_HV_HVB v))), .inl (0, 40, .inl (HVUp (P_HV_HVB v))), .inl (0, 40, .inl (HVRk (P_HV_HVB v))), .inl (0, 40, .inl (HVPa (P_HV_HVB v)))]
def f_X0_copyFrom (v : P_HV_HV) : Option (Unit × P_HV_HV) :=
  some ((), (P_HV_HV_sA v ((va_cpy (HVPr (P_HV_HVB v)) (HVPr (P_HV_HVA v)) 0 0 40), (va_cpy (HVLf (P_HV_HVB v)) (HVLf (P_HV_HVA v)) 0 0 40), (va_cpy (HVRt (P_HV_HVB v)) (HVRt (P_HV_HVA v)) 0 0 40), (va_cpy (HVUp (P_HV_HVB v)) (HVUp (P_HV_HVA v)) 0 0 40), (va_cpy (HVRk (P_HV_HVB v)) (HVRk (P_HV_HVA v)) 0 0 40), (HVCm (P_HV_HVB v)), (HVSw (P_HV_HVB v)), (HVPa (P_HV_HVA v)))))
def f_X0_isChildOf (v : HV) (a : Int32) (b : Int32) : Option (Int32) :=
  (f_X0_isNode a).bind fun r2 =>
  if r2 = 0 then
    some 1
  else
    if oob a 40 then none else
    if ((HVUp v) (Int32.toNatClampNeg a)) = b then
      some 1
    else
      some 0
def f_X0_isOutside (v : HV) (a : Int32) : Option (Int32) :=
  (f_X0_isNode a).bind fun r2 =>
  if r2 = 0 then
    some 0
  else
    if oob a 40 then none else
    if ((HVLf v) (Int32.toNatClampNeg a)) = (-1) then
      if oob a 40 then none else
      if ((HVRt v) (Int32.toNatClampNeg a)) = (-1) then
        if oob a 40 then none else
        if ((HVUp v) (Int32.toNatClampNeg a)) = (-1) then
          if oob a 40 then none else
          if ((HVRk v) (Int32.toNatClampNeg a)) = 0 then
            some 1
          else
            some 0
        else
          some 0
      else
        some 0
    else
      some 0
def f_X0_rankOf (v : HV) (a : Int32) : Option (Int32) :=
  if a < 0 then
    some 0
  else
    if 40 ≤ a then
      some 0
    else
      if oob a 40 then none else
      some ((HVRk v) (Int32.toNatClampNeg a))
def f_X0_isSound (v : HV) (a : Int32) : Option (Int32) :=
  (f_X0_isNode a).bind fun r2 =>
  if r2 = 0 then
    some 0
  else
    if oob a 40 then none else
    (f_X0_precedes v a ((HVUp v) (Int32.toNatClampNeg a))).bind fun r7 =>
    if r7 = 0 then
      if oob a 40 then none else
      (f_X0_isChildOf v ((HVLf v) (Int32.toNatClampNeg a)) a).bind fun r12 =>
      if r12 = 0 then
        some 0
      else
        if oob a 40 then none else
        (f_X0_isChildOf v ((HVRt v) (Int32.toNatClampNeg a)) a).bind fun r17 =>
        if r17 = 0 then
          some 0
        else
          if oob a 40 then none else
          (f_X0_rankOf v ((HVLf v) (Int32.toNatClampNeg a))).bind fun r22 =>
          if oob a 40 then none else
          (f_X0_rankOf v ((HVRt v) (Int32.toNatClampNeg a))).bind fun r26 =>
          if r22 < r26 then
            some 0
          else
            if oob a 40 then none else
            if oob a 40 then none else
            (f_X0_rankOf v ((HVRt v) (Int32.toNatClampNeg a))).bind fun r32 =>
            if ((HVRk v) (Int32.toNatClampNeg a)) = (1 + r32) then
              if oob a 40 then none else
              (f_X0_isNode ((HVUp v) (Int32.toNatClampNeg a))).bind fun r37 =>
              if r37 = 0 then
                some 1
              else
                if oob a 40 then none else
                if oob ((HVUp v) (Int32.toNatClampNeg a)) 40 then none else
                if ((HVLf v) (Int32.toNatClampNeg ((HVUp v) (Int32.toNatClampNeg a)))) = a then
                  some 1
                else
                  if oob a 40 then none else
                  if oob ((HVUp v) (Int32.toNatClampNeg a)) 40 then none else
                  if ((HVRt v) (Int32.toNatClampNeg ((HVUp v) (Int32.toNatClampNeg a)))) = a then
                    some 1
                  else
                    some 0
            else
              some 0
    else
      some 0
def f_X0_setAbove (v : HV) (a : Int32) (b : Int32) : Option (Unit × HV) :=
  (f_X0_isNode a).bind fun r2 =>
  if r2 = 0 then
    some ((), v)
  else
    if oob a 40 then none else
    some ((), (HV_sUp v (upd (HVUp v) (Int32.toNatClampNeg a) b)))
def f_X0_settle (v : HV) (a : Int32) : Option (Unit × HV) :=
  if oob a 40 then none else
  (f_X0_rankOf v ((HVLf v) (Int32.toNatClampNeg a))).bind fun r3 =>
  if oob a 40 then none else
  (f_X0_rankOf v ((HVRt v) (Int32.toNatClampNeg a))).bind fun r7 =>
  if r7 ≤ r3 then
    if oob a 40 then none else
    (f_X0_rankOf v ((HVRt v) (Int32.toNatClampNeg a))).bind fun r12 =>
    if oob a 40 then none else
    some ((), (HV_sRk v (upd (HVRk v) (Int32.toNatClampNeg a) (1 + r12))))
  else
    if oob a 40 then none else
    if oob a 40 then none else
    if oob a 40 then none else
    if oob a 40 then none else
    if oob a 40 then none else
    (f_X0_rankOf (HV_sSw (HV_sRt (HV_sLf v (upd (HVLf v) (Int32.toNatClampNeg a) ((HVRt v) (Int32.toNatClampNeg a)))) (upd (HVRt v) (Int32.toNatClampNeg a) ((HVLf v) (Int32.toNatClampNeg a)))) ((HVSw v) + 1)) ((upd (HVRt v) (Int32.toNatClampNeg a) ((HVLf v) (Int32.toNatClampNeg a))) (Int32.toNatClampNeg a))).bind fun r21 =>
    if oob a 40 then none else
    some ((), ((HVPr v), (upd (HVLf v) (Int32.toNatClampNeg a) ((HVRt v) (Int32.toNatClampNeg a))), (upd (HVRt v) (Int32.toNatClampNeg a) ((HVLf v) (Int32.toNatClampNeg a))), (HVUp v), (upd (HVRk v) (Int32.toNatClampNeg a) (1 + r21)), (HVCm v), ((HVSw v) + 1), (HVPa v)))
def f_X0_merge_h113 : Nat → Int32 → Int32 → Int32 → Int32 → Int32 → Int32 → Int32 → HV → Option (Int32 × HV)
  | 0, _, _, _, _, _, _, _, _ => none
  | n + 1, l1, l2, l3, l4, l5, l6, l7, v =>
    if l7 < 0 then
      bnd2 (f_X0_setAbove v l6 (-1)) fun r8 w9 =>
      some (l6, w9)
    else
      if oob l7 40 then none else
      if oob ((HVPa v) (Int32.toNatClampNeg l7)) 40 then none else
      bnd2 (f_X0_setAbove (HV_sRt v (upd (HVRt v) (Int32.toNatClampNeg ((HVPa v) (Int32.toNatClampNeg l7))) l6)) l6 ((HVPa v) (Int32.toNatClampNeg l7))) fun r13 w14 =>
      bnd2 (f_X0_settle w14 ((HVPa v) (Int32.toNatClampNeg l7))) fun r16 w17 =>
      f_X0_merge_h113 n l1 l2 l3 l4 l5 ((HVPa v) (Int32.toNatClampNeg l7)) (l7 + (-1)) w17
def f_X0_merge_h8 : Nat → Int32 → Int32 → Int32 → Int32 → Int32 → HV → Option (Int32 × HV)
  | 0, _, _, _, _, _, _ => none
  | n + 1, l1, l2, l3, l4, l5, v =>
    if 40 ≤ l5 then
      (f_X0_isNode l3).bind fun r3 =>
      if r3 = 0 then
        f_X0_merge_h113 FU l1 l2 l3 l4 l5 l4 (l5 - 1) v
      else
        f_X0_merge_h113 FU l1 l2 l3 l4 l5 l3 (l5 - 1) v
    else
      (f_X0_isNode l3).bind fun r19 =>
      if r19 = 0 then
        (f_X0_isNode l3).bind fun r23 =>
        if r23 = 0 then
          f_X0_merge_h113 FU l1 l2 l3 l4 l5 l4 (l5 - 1) v
        else
          f_X0_merge_h113 FU l1 l2 l3 l4 l5 l3 (l5 - 1) v
      else
        (f_X0_isNode l4).bind fun r27 =>
        if r27 = 0 then
          (f_X0_isNode l3).bind fun r31 =>
          if r31 = 0 then
            f_X0_merge_h113 FU l1 l2 l3 l4 l5 l4 (l5 - 1) v
          else
            f_X0_merge_h113 FU l1 l2 l3 l4 l5 l3 (l5 - 1) v
        else
          (f_X0_precedes (HV_sCm v ((HVCm v) + 1)) l3 l4).bind fun r35 =>
          if r35 = 0 then
            if oob l5 40 then none else
            if oob l4 40 then none else
            f_X0_merge_h8 n l1 l2 l3 ((HVRt v) (Int32.toNatClampNeg l4)) (l5 + 1) (HV_sPa (HV_sCm v ((HVCm v) + 1)) (upd (HVPa v) (Int32.toNatClampNeg l5) l4))
          else
            if oob l5 40 then none else
            if oob l3 40 then none else
            f_X0_merge_h8 n l1 l2 ((HVRt v) (Int32.toNatClampNeg l3)) l4 (l5 + 1) (HV_sPa (HV_sCm v ((HVCm v) + 1)) (upd (HVPa v) (Int32.toNatClampNeg l5) l3))
def f_X0_merge (v : HV) (a : Int32) (b : Int32) : Option (Int32 × HV) :=
  f_X0_merge_h8 FU a b a b 0 v
def f_X0_unlink (v : HV) (a : Int32) : Option (Unit × HV) :=
  if oob a 40 then none else
  if oob a 40 then none else
  if oob a 40 then none else
  if oob a 40 then none else
  some ((), ((HVPr v), (upd (HVLf v) (Int32.toNatClampNeg a) (-1)), (upd (HVRt v) (Int32.toNatClampNeg a) (-1)), (upd (HVUp v) (Int32.toNatClampNeg a) (-1)), (upd (HVRk v) (Int32.toNatClampNeg a) 0), (HVCm v), (HVSw v), (HVPa v)))
def f_X0_plant (v : HV) (a : Int32) (b : Int32) : Option (Unit × HV) :=
  (f_X0_isNode a).bind fun r2 =>
  if r2 = 0 then
    some ((), v)
  else
    if oob a 40 then none else
    bnd2 (f_X0_unlink (HV_sPr v (upd (HVPr v) (Int32.toNatClampNeg a) b)) a) fun r7 w8 =>
    if oob a 40 then none else
    some ((), (HV_sRk w8 (upd (HVRk w8) (Int32.toNatClampNeg a) 1)))
def f_X0_rankOfMerged_h117 : Nat → Int32 → Int32 → Int32 → HV → Option (Int32 × HV)
  | 0, _, _, _, _ => none
  | n + 1, l5, l6, l7, v =>
    if l7 < 0 then
      some (l6, v)
    else
      if oob l7 40 then none else
      (f_X0_rankOf v ((HVPa v) (Int32.toNatClampNeg l7))).bind fun r12 =>
      f_X0_rankOfMerged_h117 n l5 (1 + (if r12 < l6 then r12 else l6)) (l7 + (-1)) v
def f_X0_rankOfMerged_j106 (l5 : Int32) (s0 : Int32) (v : HV) : Option (Int32 × HV) :=
  (f_X0_rankOf v s0).bind fun r7 =>
  f_X0_rankOfMerged_h117 FU l5 r7 (l5 - 1) v
def f_X0_rankOfMerged_j92 (l3 : Int32) (l4 : Int32) (l5 : Int32) (v : HV) : Option (Int32 × HV) :=
  (f_X0_isNode l3).bind fun r3 =>
  if r3 = 0 then
    f_X0_rankOfMerged_j106 l5 l4 v
  else
    f_X0_rankOfMerged_j106 l5 l3 v
def f_X0_rankOfMerged_h8 : Nat → Int32 → Int32 → Int32 → Int32 → Int32 → HV → Option (Int32 × HV)
  | 0, _, _, _, _, _, _ => none
  | n + 1, l1, l2, l3, l4, l5, v =>
    if 40 ≤ l5 then
      f_X0_rankOfMerged_j92 l3 l4 l5 v
    else
      (f_X0_isNode l3).bind fun r15 =>
      if r15 = 0 then
        f_X0_rankOfMerged_j92 l3 l4 l5 v
      else
        (f_X0_isNode l4).bind fun r19 =>
        if r19 = 0 then
          f_X0_rankOfMerged_j92 l3 l4 l5 v
        else
          (f_X0_precedes v l3 l4).bind fun r23 =>
          if r23 = 0 then
            if oob l4 40 then none else
            if oob l5 40 then none else
            if oob l4 40 then none else
            f_X0_rankOfMerged_h8 n l1 l2 l3 ((HVRt v) (Int32.toNatClampNeg l4)) (l5 + 1) (HV_sPa v (upd (HVPa v) (Int32.toNatClampNeg l5) ((HVLf v) (Int32.toNatClampNeg l4))))
          else
            if oob l3 40 then none else
            if oob l5 40 then none else
            if oob l3 40 then none else
            f_X0_rankOfMerged_h8 n l1 l2 ((HVRt v) (Int32.toNatClampNeg l3)) l4 (l5 + 1) (HV_sPa v (upd (HVPa v) (Int32.toNatClampNeg l5) ((HVLf v) (Int32.toNatClampNeg l3))))
def f_X0_rankOfMerged (v : HV) (a : Int32) (b : Int32) : Option (Int32 × HV) :=
  f_X0_rankOfMerged_h8 FU a b a b 0 v
def f_X0_takeOut_h91 : Nat → Int32 → Int32 → Int32 → Int32 → Int32 → Int32 → HV → Option (Int32 × HV)
  | 0, _, _, _, _, _, _, _ => none
  | n + 1, l1, l2, l3, l4, l5, l6, v =>
    if 40 ≤ l6 then
      some (l1, v)
    else
      (f_X0_isNode l5).bind fun r26 =>
      if r26 = 0 then
        some (l1, v)
      else
        bnd2 (f_X0_settle v l5) fun r30 w31 =>
        if oob l5 40 then none else
        f_X0_takeOut_h91 n l1 l2 l3 l4 ((HVUp w31) (Int32.toNatClampNeg l5)) (l6 + 1) w31
def f_X0_takeOut (v : HV) (a : Int32) (b : Int32) : Option (Int32 × HV) :=
  (f_X0_isNode b).bind fun r2 =>
  if r2 = 0 then
    some (a, v)
  else
    if oob b 40 then none else
    if oob b 40 then none else
    if oob b 40 then none else
    bnd2 (f_X0_merge v ((HVLf v) (Int32.toNatClampNeg b)) ((HVRt v) (Int32.toNatClampNeg b))) fun r9 w10 =>
    bnd2 (f_X0_unlink w10 b) fun r12 w13 =>
    (f_X0_isNode ((HVUp v) (Int32.toNatClampNeg b))).bind fun r15 =>
    if r15 = 0 then
      some (r9, w13)
    else
      if oob ((HVUp v) (Int32.toNatClampNeg b)) 40 then none else
      if ((HVLf w13) (Int32.toNatClampNeg ((HVUp v) (Int32.toNatClampNeg b)))) = b then
        if oob ((HVUp v) (Int32.toNatClampNeg b)) 40 then none else
        bnd2 (f_X0_setAbove (HV_sLf w13 (upd (HVLf w13) (Int32.toNatClampNeg ((HVUp v) (Int32.toNatClampNeg b))) r9)) r9 ((HVUp v) (Int32.toNatClampNeg b))) fun r35 w36 =>
        f_X0_takeOut_h91 FU a b ((HVUp v) (Int32.toNatClampNeg b)) r9 ((HVUp v) (Int32.toNatClampNeg b)) 0 w36
      else
        if oob ((HVUp v) (Int32.toNatClampNeg b)) 40 then none else
        bnd2 (f_X0_setAbove (HV_sRt w13 (upd (HVRt w13) (Int32.toNatClampNeg ((HVUp v) (Int32.toNatClampNeg b))) r9)) r9 ((HVUp v) (Int32.toNatClampNeg b))) fun r22 w23 =>
        f_X0_takeOut_h91 FU a b ((HVUp v) (Int32.toNatClampNeg b)) r9 ((HVUp v) (Int32.toNatClampNeg b)) 0 w23
def f_X1_clear (v : YV) : Option (Unit × YV) :=
  some ((), (YV_sCt v 0))
abbrev P_SV_SV : Type := SV × SV
def P_SV_SVA (v : P_SV_SV) : SV := v.1
def P_SV_SVB (v : P_SV_SV) : SV := v.2
def P_SV_SV_sA (v : P_SV_SV) (x : SV) : P_SV_SV := (x, P_SV_SVB v)
def P_SV_SV_sB (v : P_SV_SV) (x : SV) : P_SV_SV := (P_SV_SVA v, x)
def WP_SV_SV (v : P_SV_SV) : List AC := [.inr (7, [.ref 1, .int (SVJc (P_SV_SVA v)), .ref 8, .ref 9, .ref 10, .ref 11, .ref 12, .ref 13, .ref 14]), .inr (0, [.ref 2, .ref 3, .ref 4, .ref 5, .ref 6, .int (HVCm (SVH (P_SV_SVA v))), .int (HVSw (SVH (P_SV_SVA v))), .ref 7]), .inl (0, 40, .inl (HVPr (SVH (P_SV_SVA v)))), .inl (0, 40, .inl (HVLf (SVH (P_SV_SVA v)))), .inl (0, 40, .inl (HVRt (SVH (P_SV_SVA v)))), .inl (0, 40, .inl (HVUp (SVH (P_SV_SVA v)))), .inl (0, 40, .inl (HVRk (SVH (P_SV_SVA v)))), .inl (0, 40, .inl (HVPa (SVH (P_SV_SVA v)))), .inl (0, 40, .inl (SVOw (P_SV_SVA v))), .inl (0, 40, .inl (SVPg (P_SV_SVA v))), .inl (0, 40, .inl (SVFt (P_SV_SVA v))), .inl (0, 40, .inl (SVQu (P_SV_SVA v))), .inl (0, 6, .inl (SVRo (P_SV_SVA v))), .inl (0, 6, .inl (SVPd (P_SV_SVA v))), .inl (2, 6, .inl (SVPs (P_SV_SVA v))), .inr (7, [.ref 16, .int (SVJc (P_SV_SVB v)), .ref 23, .ref 24, .ref 25, .ref 26, .ref 27, .ref 28, .ref 29]), .inr (0, [.ref 17, .ref 18, .ref 19, .ref 20, .ref 21, .int (HVCm (SVH (P_SV_SVB v))), .int (HVSw (SVH (P_SV_SVB v))), .ref 22]), .inl (0, 40, .inl (HVPr (SVH (P_SV_SVB v)))), .inl (0, 40, .inl (HVLf (SVH (P_SV_SVB v)))), .inl (0, 40, .inl (HVRt (SVH (P_SV_SVB v)))), .inl (0, 40, .inl (HVUp (SVH (P_SV_SVB v)))), .inl (0, 40, .inl (HVRk (SVH (P_SV_SVB v)))), .inl (0, 40, .inl (HVPa (SVH (P_SV_SVB v)))), .inl (0, 40, .inl (SVOw (P_SV_SVB v))), .inl (0, 40, .inl (SVPg (P_SV_SVB v))), .inl (0, 40, .inl (SVFt (P_SV_SVB v))), .inl (0, 40, .inl (SVQu (P_SV_SVB v))), .inl (0, 6, .inl (SVRo (P_SV_SVB v))), .inl (0, 6, .inl (SVPd (P_SV_SVB v))), .inl (2, 6, .inl (SVPs (P_SV_SVB v)))]
def f_X7_copyFrom_h87 : Nat → Int32 → P_SV_SV → Option (Unit × P_SV_SV)
  | 0, _, _ => none
  | n + 1, l2, v =>
    if 6 ≤ l2 then
      some ((), v)
    else
      if oob l2 6 then none else
      if oob l2 6 then none else
      f_X7_copyFrom_h87 n (l2 + 1) (P_SV_SV_sA v (SV_sPs (P_SV_SVA v) (upd (SVPs (P_SV_SVA v)) (Int32.toNatClampNeg l2) (vp_nar .boolean ((SVPs (P_SV_SVB v)) (Int32.toNatClampNeg l2))))))
def f_X7_copyFrom (v : P_SV_SV) : Option (Unit × P_SV_SV) :=
  bnd2 (f_X0_copyFrom ((SVH (P_SV_SVA v)), (SVH (P_SV_SVB v)))) fun r2 w3 =>
  f_X7_copyFrom_h87 FU 0 (((P_HV_HVA w3), (SVJc (P_SV_SVB v)), (va_cpy (SVOw (P_SV_SVB v)) (SVOw (P_SV_SVA v)) 0 0 40), (va_cpy (SVPg (P_SV_SVB v)) (SVPg (P_SV_SVA v)) 0 0 40), (va_cpy (SVFt (P_SV_SVB v)) (SVFt (P_SV_SVA v)) 0 0 40), (va_cpy (SVQu (P_SV_SVB v)) (SVQu (P_SV_SVA v)) 0 0 40), (va_cpy (SVRo (P_SV_SVB v)) (SVRo (P_SV_SVA v)) 0 0 6), (va_cpy (SVPd (P_SV_SVB v)) (SVPd (P_SV_SVA v)) 0 0 6), (SVPs (P_SV_SVA v))), (SV_sH (P_SV_SVB v) (P_HV_HVB w3)))
abbrev P_YV_SV : Type := YV × SV
def P_YV_SVA (v : P_YV_SV) : YV := v.1
def P_YV_SVB (v : P_YV_SV) : SV := v.2
def P_YV_SV_sA (v : P_YV_SV) (x : YV) : P_YV_SV := (x, P_YV_SVB v)
def P_YV_SV_sB (v : P_YV_SV) (x : SV) : P_YV_SV := (P_YV_SVA v, x)
def WP_YV_SV (v : P_YV_SV) : List AC := [.inr (1, [.ref 1, .int (YVCt (P_YV_SVA v)), .int (YVNx (P_YV_SVA v))]), .inl (4, 8, .inr (.inr (.inr (.inr (hA 2))))), .inr (7, [.ref 3, .int (SVJc ((YVKs (P_YV_SVA v)) 0)), .ref 10, .ref 11, .ref 12, .ref 13, .ref 14, .ref 15, .ref 16]), .inr (0, [.ref 4, .ref 5, .ref 6, .ref 7, .ref 8, .int (HVCm (SVH ((YVKs (P_YV_SVA v)) 0))), .int (HVSw (SVH ((YVKs (P_YV_SVA v)) 0))), .ref 9]), .inl (0, 40, .inl (HVPr (SVH ((YVKs (P_YV_SVA v)) 0)))), .inl (0, 40, .inl (HVLf (SVH ((YVKs (P_YV_SVA v)) 0)))), .inl (0, 40, .inl (HVRt (SVH ((YVKs (P_YV_SVA v)) 0)))), .inl (0, 40, .inl (HVUp (SVH ((YVKs (P_YV_SVA v)) 0)))), .inl (0, 40, .inl (HVRk (SVH ((YVKs (P_YV_SVA v)) 0)))), .inl (0, 40, .inl (HVPa (SVH ((YVKs (P_YV_SVA v)) 0)))), .inl (0, 40, .inl (SVOw ((YVKs (P_YV_SVA v)) 0))), .inl (0, 40, .inl (SVPg ((YVKs (P_YV_SVA v)) 0))), .inl (0, 40, .inl (SVFt ((YVKs (P_YV_SVA v)) 0))), .inl (0, 40, .inl (SVQu ((YVKs (P_YV_SVA v)) 0))), .inl (0, 6, .inl (SVRo ((YVKs (P_YV_SVA v)) 0))), .inl (0, 6, .inl (SVPd ((YVKs (P_YV_SVA v)) 0))), .inl (2, 6, .inl (SVPs ((YVKs (P_YV_SVA v)) 0))), .inr (7, [.ref 18, .int (SVJc ((YVKs (P_YV_SVA v)) 1)), .ref 25, .ref 26, .ref 27, .ref 28, .ref 29, .ref 30, .ref 31]), .inr (0, [.ref 19, .ref 20, .ref 21, .ref 22, .ref 23, .int (HVCm (SVH ((YVKs (P_YV_SVA v)) 1))), .int (HVSw (SVH ((YVKs (P_YV_SVA v)) 1))), .ref 24]), .inl (0, 40, .inl (HVPr (SVH ((YVKs (P_YV_SVA v)) 1)))), .inl (0, 40, .inl (HVLf (SVH ((YVKs (P_YV_SVA v)) 1)))), .inl (0, 40, .inl (HVRt (SVH ((YVKs (P_YV_SVA v)) 1)))), .inl (0, 40, .inl (HVUp (SVH ((YVKs (P_YV_SVA v)) 1)))), .inl (0, 40, .inl (HVRk (SVH ((YVKs (P_YV_SVA v)) 1)))), .inl (0, 40, .inl (HVPa (SVH ((YVKs (P_YV_SVA v)) 1)))), .inl (0, 40, .inl (SVOw ((YVKs (P_YV_SVA v)) 1))), .inl (0, 40, .inl (SVPg ((YVKs (P_YV_SVA v)) 1))), .inl (0, 40, .inl (SVFt ((YVKs (P_YV_SVA v)) 1))), .inl (0, 40, .inl (SVQu ((YVKs (P_YV_SVA v)) 1))), .inl (0, 6, .inl (SVRo ((YVKs (P_YV_SVA v)) 1))), .inl (0, 6, .inl (SVPd ((YVKs (P_YV_SVA v)) 1))), .inl (2, 6, .inl (SVPs ((YVKs (P_YV_SVA v)) 1))), .inr (7, [.ref 33, .int (SVJc ((YVKs (P_YV_SVA v)) 2)), .ref 40, .ref 41, .ref 42, .ref 43, .ref 44, .ref 45, .ref 46]), .inr (0, [.ref 34, .ref 35, .ref 36, .ref 37, .ref 38, .int (HVCm (SVH ((YVKs (P_YV_SVA v)) 2))), .int (HVSw (SVH ((YVKs (P_YV_SVA v)) 2))), .ref 39]), .inl (0, 40, .inl (HVPr (SVH ((YVKs (P_YV_SVA v)) 2)))), .inl (0, 40, .inl (HVLf (SVH ((YVKs (P_YV_SVA v)) 2)))), .inl (0, 40, .inl (HVRt (SVH ((YVKs (P_YV_SVA v)) 2)))), .inl (0, 40, .inl (HVUp (SVH ((YVKs (P_YV_SVA v)) 2)))), .inl (0, 40, .inl (HVRk (SVH ((YVKs (P_YV_SVA v)) 2)))), .inl (0, 40, .inl (HVPa (SVH ((YVKs (P_YV_SVA v)) 2)))), .inl (0, 40, .inl (SVOw ((YVKs (P_YV_SVA v)) 2))), .inl (0, 40, .inl (SVPg ((YVKs (P_YV_SVA v)) 2))), .inl (0, 40, .inl (SVFt ((YVKs (P_YV_SVA v)) 2))), .inl (0, 40, .inl (SVQu ((YVKs (P_YV_SVA v)) 2))), .inl (0, 6, .inl (SVRo ((YVKs (P_YV_SVA v)) 2))), .inl (0, 6, .inl (SVPd ((YVKs (P_YV_SVA v)) 2))), .inl (2, 6, .inl (SVPs ((YVKs (P_YV_SVA v)) 2))), .inr (7, [.ref 48, .int (SVJc ((YVKs (P_YV_SVA v)) 3)), .ref 55, .ref 56, .ref 57, .ref 58, .ref 59, .ref 60, .ref 61]), .inr (0, [.ref 49, .ref 50, .ref 51, .ref 52, .ref 53, .int (HVCm (SVH ((YVKs (P_YV_SVA v)) 3))), .int (HVSw (SVH ((YVKs (P_YV_SVA v)) 3))), .ref 54]), .inl (0, 40, .inl (HVPr (SVH ((YVKs (P_YV_SVA v)) 3)))), .inl (0, 40, .inl (HVLf (SVH ((YVKs (P_YV_SVA v)) 3)))), .inl (0, 40, .inl (HVRt (SVH ((YVKs (P_YV_SVA v)) 3)))), .inl (0, 40, .inl (HVUp (SVH ((YVKs (P_YV_SVA v)) 3)))), .inl (0, 40, .inl (HVRk (SVH ((YVKs (P_YV_SVA v)) 3)))), .inl (0, 40, .inl (HVPa (SVH ((YVKs (P_YV_SVA v)) 3)))), .inl (0, 40, .inl (SVOw ((YVKs (P_YV_SVA v)) 3))), .inl (0, 40, .inl (SVPg ((YVKs (P_YV_SVA v)) 3))), .inl (0, 40, .inl (SVFt ((YVKs (P_YV_SVA v)) 3))), .inl (0, 40, .inl (SVQu ((YVKs (P_YV_SVA v)) 3))), .inl (0, 6, .inl (SVRo ((YVKs (P_YV_SVA v)) 3))), .inl (0, 6, .inl (SVPd ((YVKs (P_YV_SVA v)) 3))), .inl (2, 6, .inl (SVPs ((YVKs (P_YV_SVA v)) 3))), .inr (7, [.ref 63, .int (SVJc ((YVKs (P_YV_SVA v)) 4)), .ref 70, .ref 71, .ref 72, .ref 73, .ref 74, .ref 75, .ref 76]), .inr (0, [.ref 64, .ref 65, .ref 66, .ref 67, .ref 68, .int (HVCm (SVH ((YVKs (P_YV_SVA v)) 4))), .int (HVSw (SVH ((YVKs (P_YV_SVA v)) 4))), .ref 69]), .inl (0, 40, .inl (HVPr (SVH ((YVKs (P_YV_SVA v)) 4)))), .inl (0, 40, .inl (HVLf (SVH ((YVKs (P_YV_SVA v)) 4)))), .inl (0, 40, .inl (HVRt (SVH ((YVKs (P_YV_SVA v)) 4)))), .inl (0, 40, .inl (HVUp (SVH ((YVKs (P_YV_SVA v)) 4)))), .inl (0, 40, .inl (HVRk (SVH ((YVKs (P_YV_SVA v)) 4)))), .inl (0, 40, .inl (HVPa (SVH ((YVKs (P_YV_SVA v)) 4)))), .inl (0, 40, .inl (SVOw ((YVKs (P_YV_SVA v)) 4))), .inl (0, 40, .inl (SVPg ((YVKs (P_YV_SVA v)) 4))), .inl (0, 40, .inl (SVFt ((YVKs (P_YV_SVA v)) 4))), .inl (0, 40, .inl (SVQu ((YVKs (P_YV_SVA v)) 4))), .inl (0, 6, .inl (SVRo ((YVKs (P_YV_SVA v)) 4))), .inl (0, 6, .inl (SVPd ((YVKs (P_YV_SVA v)) 4))), .inl (2, 6, .inl (SVPs ((YVKs (P_YV_SVA v)) 4))), .inr (7, [.ref 78, .int (SVJc ((YVKs (P_YV_SVA v)) 5)), .ref 85, .ref 86, .ref 87, .ref 88, .ref 89, .ref 90, .ref 91]), .inr (0, [.ref 79, .ref 80, .ref 81, .ref 82, .ref 83, .int (HVCm (SVH ((YVKs (P_YV_SVA v)) 5))), .int (HVSw (SVH ((YVKs (P_YV_SVA v)) 5))), .ref 84]), .inl (0, 40, .inl (HVPr (SVH ((YVKs (P_YV_SVA v)) 5)))), .inl (0, 40, .inl (HVLf (SVH ((YVKs (P_YV_SVA v)) 5)))), .inl (0, 40, .inl (HVRt (SVH ((YVKs (P_YV_SVA v)) 5)))), .inl (0, 40, .inl (HVUp (SVH ((YVKs (P_YV_SVA v)) 5)))), .inl (0, 40, .inl (HVRk (SVH ((YVKs (P_YV_SVA v)) 5)))), .inl (0, 40, .inl (HVPa (SVH ((YVKs (P_YV_SVA v)) 5)))), .inl (0, 40, .inl (SVOw ((YVKs (P_YV_SVA v)) 5))), .inl (0, 40, .inl (SVPg ((YVKs (P_YV_SVA v)) 5))), .inl (0, 40, .inl (SVFt ((YVKs (P_YV_SVA v)) 5))), .inl (0, 40, .inl (SVQu ((YVKs (P_YV_SVA v)) 5))), .inl (0, 6, .inl (SVRo ((YVKs (P_YV_SVA v)) 5))), .inl (0, 6, .inl (SVPd ((YVKs (P_YV_SVA v)) 5))), .inl (2, 6, .inl (SVPs ((YVKs (P_YV_SVA v)) 5))), .inr (7, [.ref 93, .int (SVJc ((YVKs (P_YV_SVA v)) 6)), .ref 100, .ref 101, .ref 102, .ref 103, .ref 104, .ref 105, .ref 106]), .inr (0, [.ref 94, .ref 95, .ref 96, .ref 97, .ref 98, .int (HVCm (SVH ((YVKs (P_YV_SVA v)) 6))), .int (HVSw (SVH ((YVKs (P_YV_SVA v)) 6))), .ref 99]), .inl (0, 40, .inl (HVPr (SVH ((YVKs (P_YV_SVA v)) 6)))), .inl (0, 40, .inl (HVLf (SVH ((YVKs (P_YV_SVA v)) 6)))), .inl (0, 40, .inl (HVRt (SVH ((YVKs (P_YV_SVA v)) 6)))), .inl (0, 40, .inl (HVUp (SVH ((YVKs (P_YV_SVA v)) 6)))), .inl (0, 40, .inl (HVRk (SVH ((YVKs (P_YV_SVA v)) 6)))), .inl (0, 40, .inl (HVPa (SVH ((YVKs (P_YV_SVA v)) 6)))), .inl (0, 40, .inl (SVOw ((YVKs (P_YV_SVA v)) 6))), .inl (0, 40, .inl (SVPg ((YVKs (P_YV_SVA v)) 6))), .inl (0, 40, .inl (SVFt ((YVKs (P_YV_SVA v)) 6))), .inl (0, 40, .inl (SVQu ((YVKs (P_YV_SVA v)) 6))), .inl (0, 6, .inl (SVRo ((YVKs (P_YV_SVA v)) 6))), .inl (0, 6, .inl (SVPd ((YVKs (P_YV_SVA v)) 6))), .inl (2, 6, .inl (SVPs ((YVKs (P_YV_SVA v)) 6))), .inr (7, [.ref 108, .int (SVJc ((YVKs (P_YV_SVA v)) 7)), .ref 115, .ref 116, .ref 117, .ref 118, .ref 119, .ref 120, .ref 121]), .inr (0, [.ref 109, .ref 110, .ref 111, .ref 112, .ref 113, .int (HVCm (SVH ((YVKs (P_YV_SVA v)) 7))), .int (HVSw (SVH ((YVKs (P_YV_SVA v)) 7))), .ref 114]), .inl (0, 40, .inl (HVPr (SVH ((YVKs (P_YV_SVA v)) 7)))), .inl (0, 40, .inl (HVLf (SVH ((YVKs (P_YV_SVA v)) 7)))), .inl (0, 40, .inl (HVRt (SVH ((YVKs (P_YV_SVA v)) 7)))), .inl (0, 40, .inl (HVUp (SVH ((YVKs (P_YV_SVA v)) 7)))), .inl (0, 40, .inl (HVRk (SVH ((YVKs (P_YV_SVA v)) 7)))), .inl (0, 40, .inl (HVPa (SVH ((YVKs (P_YV_SVA v)) 7)))), .inl (0, 40, .inl (SVOw ((YVKs (P_YV_SVA v)) 7))), .inl (0, 40, .inl (SVPg ((YVKs (P_YV_SVA v)) 7))), .inl (0, 40, .inl (SVFt ((YVKs (P_YV_SVA v)) 7))), .inl (0, 40, .inl (SVQu ((YVKs (P_YV_SVA v)) 7))), .inl (0, 6, .inl (SVRo ((YVKs (P_YV_SVA v)) 7))), .inl (0, 6, .inl (SVPd ((YVKs (P_YV_SVA v)) 7))), .inl (2, 6, .inl (SVPs ((YVKs (P_YV_SVA v)) 7))), .inr (7, [.ref 123, .int (SVJc (P_YV_SVB v)), .ref 130, .ref 131, .ref 132, .ref 133, .ref 134, .ref 135, .ref 136]), .inr (0, [.ref 124, .ref 125, .ref 126, .ref 127, .ref 128, .int (HVCm (SVH (P_YV_SVB v))), .int (HVSw (SVH (P_YV_SVB v))), .ref 129]), .inl (0, 40, .inl (HVPr (SVH (P_YV_SVB v)))), .inl (0, 40, .inl (HVLf (SVH (P_YV_SVB v)))), .inl (0, 40, .inl (HVRt (SVH (P_YV_SVB v)))), .inl (0, 40, .inl (HVUp (SVH (P_YV_SVB v)))), .inl (0, 40, .inl (HVRk (SVH (P_YV_SVB v)))), .inl (0, 40, .inl (HVPa (SVH (P_YV_SVB v)))), .inl (0, 40, .inl (SVOw (P_YV_SVB v))), .inl (0, 40, .inl (SVPg (P_YV_SVB v))), .inl (0, 40, .inl (SVFt (P_YV_SVB v))), .inl (0, 40, .inl (SVQu (P_YV_SVB v))), .inl (0, 6, .inl (SVRo (P_YV_SVB v))), .inl (0, 6, .inl (SVPd (P_YV_SVB v))), .inl (2, 6, .inl (SVPs (P_YV_SVB v)))]
def f_X1_keep_j24 (v : P_YV_SV) : Option (Unit × P_YV_SV) :=
  some ((), (P_YV_SV_sA v (YV_sNx (YV_sCt (P_YV_SVA v) (if 8 < ((YVCt (P_YV_SVA v)) + 1) then 8 else ((YVCt (P_YV_SVA v)) + 1))) (fmod ((YVNx (P_YV_SVA v)) + 1) 8))))
def f_X1_keep (v : P_YV_SV) : Option (Unit × P_YV_SV) :=
  if oob (fmod (YVNx (P_YV_SVA v)) 8) 8 then none else
  if (fmod (YVNx (P_YV_SVA v)) 8) = 0 then
    bnd2 (f_X7_copyFrom (((YVKs (P_YV_SVA v)) 0), (P_YV_SVB v))) fun r3 w4 =>
    f_X1_keep_j24 ((YV_sKs (P_YV_SVA v) (updS (YVKs (P_YV_SVA v)) 0 (P_SV_SVA w4))), (P_SV_SVB w4))
  else
  if (fmod (YVNx (P_YV_SVA v)) 8) = 1 then
    bnd2 (f_X7_copyFrom (((YVKs (P_YV_SVA v)) 1), (P_YV_SVB v))) fun r7 w8 =>
    f_X1_keep_j24 ((YV_sKs (P_YV_SVA v) (updS (YVKs (P_YV_SVA v)) 1 (P_SV_SVA w8))), (P_SV_SVB w8))
  else
  if (fmod (YVNx (P_YV_SVA v)) 8) = 2 then
    bnd2 (f_X7_copyFrom (((YVKs (P_YV_SVA v)) 2), (P_YV_SVB v))) fun r11 w12 =>
    f_X1_keep_j24 ((YV_sKs (P_YV_SVA v) (updS (YVKs (P_YV_SVA v)) 2 (P_SV_SVA w12))), (P_SV_SVB w12))
  else
  if (fmod (YVNx (P_YV_SVA v)) 8) = 3 then
    bnd2 (f_X7_copyFrom (((YVKs (P_YV_SVA v)) 3), (P_YV_SVB v))) fun r15 w16 =>
    f_X1_keep_j24 ((YV_sKs (P_YV_SVA v) (updS (YVKs (P_YV_SVA v)) 3 (P_SV_SVA w16))), (P_SV_SVB w16))
  else
  if (fmod (YVNx (P_YV_SVA v)) 8) = 4 then
    bnd2 (f_X7_copyFrom (((YVKs (P_YV_SVA v)) 4), (P_YV_SVB v))) fun r19 w20 =>
    f_X1_keep_j24 ((YV_sKs (P_YV_SVA v) (updS (YVKs (P_YV_SVA v)) 4 (P_SV_SVA w20))), (P_SV_SVB w20))
  else
  if (fmod (YVNx (P_YV_SVA v)) 8) = 5 then
    bnd2 (f_X7_copyFrom (((YVKs (P_YV_SVA v)) 5), (P_YV_SVB v))) fun r23 w24 =>
    f_X1_keep_j24 ((YV_sKs (P_YV_SVA v) (updS (YVKs (P_YV_SVA v)) 5 (P_SV_SVA w24))), (P_SV_SVB w24))
  else
  if (fmod (YVNx (P_YV_SVA v)) 8) = 6 then
    bnd2 (f_X7_copyFrom (((YVKs (P_YV_SVA v)) 6), (P_YV_SVB v))) fun r27 w28 =>
    f_X1_keep_j24 ((YV_sKs (P_YV_SVA v) (updS (YVKs (P_YV_SVA v)) 6 (P_SV_SVA w28))), (P_SV_SVB w28))
  else
  bnd2 (f_X7_copyFrom (((YVKs (P_YV_SVA v)) 7), (P_YV_SVB v))) fun r31 w32 =>
  f_X1_keep_j24 ((YV_sKs (P_YV_SVA v) (updS (YVKs (P_YV_SVA v)) 7 (P_SV_SVA w32))), (P_SV_SVB w32))
def f_X1_takeBack (v : P_YV_SV) : Option (Unit × P_YV_SV) :=
  if oob (fmod ((YVNx (P_YV_SVA v)) - 1) 8) 8 then none else
  if (fmod ((YVNx (P_YV_SVA v)) - 1) 8) = 0 then
    bnd2 (f_X7_copyFrom ((P_YV_SVB v), ((YVKs (P_YV_SVA v)) 0))) fun r3 w4 =>
    some ((), (((updS (YVKs (P_YV_SVA v)) 0 (P_SV_SVB w4)), ((YVCt (P_YV_SVA v)) - 1), (fmod ((YVNx (P_YV_SVA v)) - 1) 8)), (P_SV_SVA w4)))
  else
  if (fmod ((YVNx (P_YV_SVA v)) - 1) 8) = 1 then
    bnd2 (f_X7_copyFrom ((P_YV_SVB v), ((YVKs (P_YV_SVA v)) 1))) fun r7 w8 =>
    some ((), (((updS (YVKs (P_YV_SVA v)) 1 (P_SV_SVB w8)), ((YVCt (P_YV_SVA v)) - 1), (fmod ((YVNx (P_YV_SVA v)) - 1) 8)), (P_SV_SVA w8)))
  else
  if (fmod ((YVNx (P_YV_SVA v)) - 1) 8) = 2 then
    bnd2 (f_X7_copyFrom ((P_YV_SVB v), ((YVKs (P_YV_SVA v)) 2))) fun r11 w12 =>
    some ((), (((updS (YVKs (P_YV_SVA v)) 2 (P_SV_SVB w12)), ((YVCt (P_YV_SVA v)) - 1), (fmod ((YVNx (P_YV_SVA v)) - 1) 8)), (P_SV_SVA w12)))
  else
  if (fmod ((YVNx (P_YV_SVA v)) - 1) 8) = 3 then
    bnd2 (f_X7_copyFrom ((P_YV_SVB v), ((YVKs (P_YV_SVA v)) 3))) fun r15 w16 =>
    some ((), (((updS (YVKs (P_YV_SVA v)) 3 (P_SV_SVB w16)), ((YVCt (P_YV_SVA v)) - 1), (fmod ((YVNx (P_YV_SVA v)) - 1) 8)), (P_SV_SVA w16)))
  else
  if (fmod ((YVNx (P_YV_SVA v)) - 1) 8) = 4 then
    bnd2 (f_X7_copyFrom ((P_YV_SVB v), ((YVKs (P_YV_SVA v)) 4))) fun r19 w20 =>
    some ((), (((updS (YVKs (P_YV_SVA v)) 4 (P_SV_SVB w20)), ((YVCt (P_YV_SVA v)) - 1), (fmod ((YVNx (P_YV_SVA v)) - 1) 8)), (P_SV_SVA w20)))
  else
  if (fmod ((YVNx (P_YV_SVA v)) - 1) 8) = 5 then
    bnd2 (f_X7_copyFrom ((P_YV_SVB v), ((YVKs (P_YV_SVA v)) 5))) fun r23 w24 =>
    some ((), (((updS (YVKs (P_YV_SVA v)) 5 (P_SV_SVB w24)), ((YVCt (P_YV_SVA v)) - 1), (fmod ((YVNx (P_YV_SVA v)) - 1) 8)), (P_SV_SVA w24)))
  else
  if (fmod ((YVNx (P_YV_SVA v)) - 1) 8) = 6 then
    bnd2 (f_X7_copyFrom ((P_YV_SVB v), ((YVKs (P_YV_SVA v)) 6))) fun r27 w28 =>
    some ((), (((updS (YVKs (P_YV_SVA v)) 6 (P_SV_SVB w28)), ((YVCt (P_YV_SVA v)) - 1), (fmod ((YVNx (P_YV_SVA v)) - 1) 8)), (P_SV_SVA w28)))
  else
  bnd2 (f_X7_copyFrom ((P_YV_SVB v), ((YVKs (P_YV_SVA v)) 7))) fun r31 w32 =>
  some ((), (((updS (YVKs (P_YV_SVA v)) 7 (P_SV_SVB w32)), ((YVCt (P_YV_SVA v)) - 1), (fmod ((YVNx (P_YV_SVA v)) - 1) 8)), (P_SV_SVA w32)))
def f_X2_add (v : NV) (a : Int64) : Option (Unit × NV) :=
  if (NVCt v) < 0 then
    some ((), v)
  else
    if 8 ≤ (NVCt v) then
      some ((), v)
    else
      if oob (NVCt v) 8 then none else
      some ((), ((vp_updL (NVPk v) (Int32.toNatClampNeg (NVCt v)) a), ((NVCt v) + 1)))
def f_X2_find_h2 : Nat → Int64 → Int32 → NV → Option (Int32)
  | 0, _, _, _ => none
  | n + 1, l1, l3, v =>
    if (NVCt v) ≤ l3 then
      some (-1)
    else
      if 8 ≤ l3 then
        some (-1)
      else
        if oob l3 8 then none else
        if (lg_cmp ((NVPk v) (Int32.toNatClampNeg l3)) l1) = 0 then
          some l3
        else
          f_X2_find_h2 n l1 (l3 + 1) v
def f_X2_find (v : NV) (a : Int64) : Option (Int32) :=
  f_X2_find_h2 FU a 0 v
def f_X2_letter (v : NV) (a : Int32) (b : Int32) : Option (Int32) :=
  if a < 0 then
    some (-1)
  else
    if 8 ≤ a then
      some (-1)
    else
      if b < 0 then
        some (-1)
      else
        if b < 6 then
          if oob a 8 then none else
          if ((Int64.toInt32 ((Int64.toUInt64 ((NVPk v) (Int32.toNatClampNeg a)) >>> ((Int32.toInt64 (8 * b)).toUInt64 &&& Int64.toUInt64 63)).toInt64)) &&& 255) = 0 then
            some (-1)
          else
            some ((Int64.toInt32 ((Int64.toUInt64 ((NVPk v) (Int32.toNatClampNeg a)) >>> ((Int32.toInt64 (8 * b)).toUInt64 &&& Int64.toUInt64 63)).toInt64)) &&& 255)
        else
          some (-1)
def f_X3_add (v : OV) (a : Int32) : Option (Unit × OV) :=
  if (OVLn v) < 0 then
    some ((), v)
  else
    if 200 ≤ (OVLn v) then
      some ((), v)
    else
      if oob (OVLn v) 200 then none else
      some ((), ((upd (OVBy v) (Int32.toNatClampNeg (OVLn v)) a), ((OVLn v) + 1)))
def f_X3_addNumber (v : OV) (a : Int32) : Option (Unit × OV) :=
  if a < 10 then
    if (10 : Int32) = 0 then none else
    bnd2 (f_X3_add v (48 + (a - a / 10 * 10))) fun r4 w5 =>
    some ((), w5)
  else
    if (10 : Int32) = 0 then none else
    bnd2 (f_X3_add v (48 + (a / 10))) fun r8 w9 =>
    if (10 : Int32) = 0 then none else
    bnd2 (f_X3_add w9 (48 + (a - a / 10 * 10))) fun r12 w13 =>
    some ((), w13)
def f_X3_at (v : OV) (a : Int32) : Option (Int32) :=
  if a < 0 then
    some (-1)
  else
    if (OVLn v) ≤ a then
      some (-1)
    else
      if 200 ≤ a then
        some (-1)
      else
        if oob a 200 then none else
        some ((OVBy v) (Int32.toNatClampNeg a))
def f_X4_fail (v : RV) (a : Int32) : Option (Unit × RV) :=
  if (RVEk v) = 0 then
    some ((), (RV_sEa (RV_sEk v a) (RVAt v)))
  else
    some ((), v)
def f_X4_isValid (v : RV) : Option (Int32) :=
  if (RVEk v) = 0 then
    some 1
  else
    some 0
def f_X4_accepts (v : RV) (a : Int32) (b : Int32) : Option (Int32 × RV) :=
  if (RVTk v) = a then
    if ((RVNx v) - (RVAt v)) ≤ b then
      (f_X4_isValid v).bind fun r11 =>
      if ¬ (r11 = 0 ∨ r11 = 1) then none else
      some (r11, v)
    else
      bnd2 (f_X4_fail v 1) fun r15 w16 =>
      (f_X4_isValid w16).bind fun r18 =>
      if ¬ (r18 = 0 ∨ r18 = 1) then none else
      some (r18, w16)
  else
    bnd2 (f_X4_fail v 1) fun r3 w4 =>
    (f_X4_isValid w4).bind fun r6 =>
    if ¬ (r6 = 0 ∨ r6 = 1) then none else
    some (r6, w4)
def f_X4_appendByte (v : RV) (a : Int32) : Option (Unit × RV) :=
  if (RVLn v) < 0 then
    some ((), v)
  else
    if 600 ≤ (RVLn v) then
      some ((), v)
    else
      if oob (RVLn v) 600 then none else
      some ((), (RV_sLn (RV_sTx v (upd (RVTx v) (Int32.toNatClampNeg (RVLn v)) (a &&& 255))) ((RVLn v) + 1)))
def f_X4_appendFourBytes (v : RV) (a : Int32) : Option (Unit × RV) :=
  bnd2 (f_X4_appendByte v ((Int32.toUInt32 a >>> (Int32.toUInt32 24 &&& Int32.toUInt32 31)).toInt32)) fun r2 w3 =>
  bnd2 (f_X4_appendByte w3 ((Int32.toUInt32 a >>> (Int32.toUInt32 16 &&& Int32.toUInt32 31)).toInt32)) fun r5 w6 =>
  bnd2 (f_X4_appendByte w6 ((Int32.toUInt32 a >>> (Int32.toUInt32 8 &&& Int32.toUInt32 31)).toInt32)) fun r8 w9 =>
  bnd2 (f_X4_appendByte w9 a) fun r11 w12 =>
  some ((), w12)
def f_X4_appendText_h2 (a : Nat) : Nat → Int32 → RV → Option (Unit × RV)
  | 0, _, _ => none
  | n + 1, l2, v =>
    if (nI (lenS.getD a 0)) ≤ l2 then
      some ((), v)
    else
      if oob l2 (lenS.getD a 0) then none else
      bnd2 (f_X4_appendByte v (schar a (Int32.toNatClampNeg l2))) fun r4 w5 =>
      f_X4_appendText_h2 a n (l2 + 1) w5
def f_X4_appendText (v : RV) (a : Nat) : Option (Unit × RV) :=
  f_X4_appendText_h2 a FU 0 v
def f_X4_begin (v : RV) : Option (Unit × RV) :=
  some ((), ((RVTx v), 0, (RVLn v), 0, (RVTk v), (RVAt v), (RVWd v), (RVVa v), 0, (-1)))
def f_X4_isBlank (a : Int32) : Option (Int32) :=
  if a = 32 then
    some 1
  else
    if a = 10 then
      some 1
    else
      some 0
def f_X4_isDigit (a : Int32) : Option (Int32) :=
  if a < 48 then
    some 0
  else
    if 57 < a then
      some 0
    else
      some 1
def f_X4_isLetter (a : Int32) : Option (Int32) :=
  if a < 97 then
    some 0
  else
    if 122 < a then
      some 0
    else
      some 1
def f_X4_packed_h4 (a : Nat) : Nat → Int64 → Int32 → Option (Int64)
  | 0, _, _ => none
  | n + 1, l1, l3 =>
    if (nI (lenS.getD a 0)) ≤ l3 then
      some l1
    else
      if 8 ≤ l3 then
        some l1
      else
        if oob l3 (lenS.getD a 0) then none else
        f_X4_packed_h4 a n (l1 ||| ((Int32.toInt64 (schar a (Int32.toNatClampNeg l3))) <<< (Int32.toInt64 (8 * l3) &&& 63))) (l3 + 1)
def f_X4_packed (a : Nat) : Option (Int64) :=
  f_X4_packed_h4 a FU 0 0
def f_X4_isWord (v : RV) (a : Nat) : Option (Int32) :=
  if (RVTk v) = 1 then
    (f_X4_packed a).bind fun r3 =>
    if (lg_cmp (RVWd v) r3) = 0 then
      some 1
    else
      some 0
  else
    some 0
def f_X4_nextByte (v : RV) : Option (Int32) :=
  if (RVNx v) < 0 then
    some (-1)
  else
    if (RVEn v) ≤ (RVNx v) then
      some (-1)
    else
      if 600 ≤ (RVNx v) then
        some (-1)
      else
        if oob (RVNx v) 600 then none else
        some ((RVTx v) (Int32.toNatClampNeg (RVNx v)))
def f_X4_readDigits_h5 : Nat → RV → Option (Unit × RV)
  | 0, _ => none
  | n + 1, v =>
    if (RVEn v) ≤ (RVNx v) then
      some ((), (RV_sTk v 2))
    else
      (f_X4_nextByte v).bind fun r3 =>
      (f_X4_isDigit r3).bind fun r6 =>
      if r6 = 0 then
        some ((), (RV_sTk v 2))
      else
        if 3 ≤ ((RVNx v) - (RVAt v)) then
          f_X4_readDigits_h5 n (RV_sNx v ((RVNx v) + 1))
        else
          (f_X4_nextByte v).bind fun r11 =>
          f_X4_readDigits_h5 n (RV_sVa (RV_sNx v ((RVNx v) + 1)) ((((RVVa v) * 10) + r11) - 48))
def f_X4_readDigits (v : RV) : Option (Unit × RV) :=
  f_X4_readDigits_h5 FU (RV_sVa v 0)
def f_X4_readWord_h5 : Nat → RV → Option (Unit × RV)
  | 0, _ => none
  | n + 1, v =>
    if (RVEn v) ≤ (RVNx v) then
      if ((RVNx v) - (RVAt v)) ≤ 8 then
        some ((), (RV_sTk v 1))
      else
        some ((), (RV_sTk v 4))
    else
      (f_X4_nextByte v).bind fun r4 =>
      (f_X4_isLetter r4).bind fun r7 =>
      if r7 = 0 then
        if ((RVNx v) - (RVAt v)) ≤ 8 then
          some ((), (RV_sTk v 1))
        else
          some ((), (RV_sTk v 4))
      else
        if 8 ≤ ((RVNx v) - (RVAt v)) then
          f_X4_readWord_h5 n (RV_sNx v ((RVNx v) + 1))
        else
          (f_X4_nextByte v).bind fun r13 =>
          f_X4_readWord_h5 n (RV_sWd (RV_sNx v ((RVNx v) + 1)) ((RVWd v) ||| ((Int32.toInt64 r13) <<< (Int32.toInt64 (8 * ((RVNx v) - (RVAt v))) &&& 63))))
def f_X4_readWord (v : RV) : Option (Unit × RV) :=
  f_X4_readWord_h5 FU (RV_sWd v 0)
def f_X4_readToken_h8 : Nat → RV → Option (Unit × RV)
  | 0, _ => none
  | n + 1, v =>
    if (RVEn v) ≤ (RVNx v) then
      (f_X4_nextByte (RV_sAt v (RVNx v))).bind fun r7 =>
      (f_X4_isLetter r7).bind fun r10 =>
      if r10 = 0 then
        (f_X4_isDigit r7).bind fun r14 =>
        if r14 = 0 then
          if r7 = 59 then
            some ((), (RV_sAt (RV_sTk (RV_sNx v ((RVNx v) + 1)) 3) (RVNx v)))
          else
            if r7 = (-1) then
              some ((), (RV_sAt (RV_sTk v 0) (RVNx v)))
            else
              some ((), (RV_sAt (RV_sTk v 4) (RVNx v)))
        else
          bnd2 (f_X4_readDigits (RV_sAt v (RVNx v))) fun r20 w21 =>
          some ((), w21)
      else
        bnd2 (f_X4_readWord (RV_sAt v (RVNx v))) fun r23 w24 =>
        some ((), w24)
    else
      (f_X4_nextByte v).bind fun r26 =>
      (f_X4_isBlank r26).bind fun r29 =>
      if r29 = 0 then
        (f_X4_nextByte (RV_sAt v (RVNx v))).bind fun r33 =>
        (f_X4_isLetter r33).bind fun r36 =>
        if r36 = 0 then
          (f_X4_isDigit r33).bind fun r40 =>
          if r40 = 0 then
            if r33 = 59 then
              some ((), (RV_sAt (RV_sTk (RV_sNx v ((RVNx v) + 1)) 3) (RVNx v)))
            else
              if r33 = (-1) then
                some ((), (RV_sAt (RV_sTk v 0) (RVNx v)))
              else
                some ((), (RV_sAt (RV_sTk v 4) (RVNx v)))
          else
            bnd2 (f_X4_readDigits (RV_sAt v (RVNx v))) fun r46 w47 =>
            some ((), w47)
        else
          bnd2 (f_X4_readWord (RV_sAt v (RVNx v))) fun r49 w50 =>
          some ((), w50)
      else
        f_X4_readToken_h8 n (RV_sNx v ((RVNx v) + 1))
def f_X4_readToken (v : RV) : Option (Unit × RV) :=
  (f_X4_isValid v).bind fun r2 =>
  if r2 = 0 then
    some ((), v)
  else
    f_X4_readToken_h8 FU v
abbrev P_RV_NV : Type := RV × NV
def P_RV_NVA (v : P_RV_NV) : RV := v.1
def P_RV_NVB (v : P_RV_NV) : NV := v.2
def P_RV_NV_sA (v : P_RV_NV) (x : RV) : P_RV_NV := (x, P_RV_NVB v)
def P_RV_NV_sB (v : P_RV_NV) (x : NV) : P_RV_NV := (P_RV_NVA v, x)
def WP_RV_NV (v : P_RV_NV) : List AC := [.inr (4, [.ref 1, .int (RVLn (P_RV_NVA v)), .int (RVEn (P_RV_NVA v)), .int (RVNx (P_RV_NVA v)), .int (RVTk (P_RV_NVA v)), .int (RVAt (P_RV_NVA v)), .long (RVWd (P_RV_NVA v)), .int (RVVa (P_RV_NVA v)), .int (RVEk (P_RV_NVA v)), .int (RVEa (P_RV_NVA v))]), .inl (0, 600, .inl (RVTx (P_RV_NVA v))), .inr (2, [.ref 3, .int (NVCt (P_RV_NVB v))]), .inl (1, 8, .inr (.inl (NVPk (P_RV_NVB v))))]
def f_X4_knownName (v : P_RV_NV) : Option (Int32 × P_RV_NV) :=
  bnd2 (f_X4_readToken (P_RV_NVA v)) fun r2 w3 =>
  bnd2 (f_X4_accepts w3 1 6) fun r5 w6 =>
  if r5 = 0 then
    some ((-1), (P_RV_NV_sA v w6))
  else
    (f_X2_find (P_RV_NVB v) (RVWd w6)).bind fun r9 =>
    if r9 = (-1) then
      bnd2 (f_X4_fail w6 3) fun r13 w14 =>
      some (r9, (P_RV_NV_sA v w14))
    else
      some (r9, (P_RV_NV_sA v w6))
def f_X4_newName (v : P_RV_NV) : Option (Int64 × P_RV_NV) :=
  bnd2 (f_X4_readToken (P_RV_NVA v)) fun r2 w3 =>
  bnd2 (f_X4_accepts w3 1 6) fun r5 w6 =>
  if r5 = 0 then
    some ((RVWd w6), (P_RV_NV_sA v w6))
  else
    (f_X2_find (P_RV_NVB v) (RVWd w6)).bind fun r9 =>
    if r9 = (-1) then
      some ((RVWd w6), (P_RV_NV_sA v w6))
    else
      bnd2 (f_X4_fail w6 3) fun r13 w14 =>
      some ((RVWd w14), (P_RV_NV_sA v w14))
def f_X4_number (v : RV) (a : Int32) (b : Int32) : Option (Int32 × RV) :=
  bnd2 (f_X4_readToken v) fun r2 w3 =>
  bnd2 (f_X4_accepts w3 2 3) fun r5 w6 =>
  if r5 = 0 then
    some ((-1), w6)
  else
    if (RVVa w6) < a then
      bnd2 (f_X4_fail w6 2) fun r10 w11 =>
      some ((-1), w11)
    else
      if (RVVa w6) ≤ b then
        some ((RVVa w6), w6)
      else
        bnd2 (f_X4_fail w6 2) fun r14 w15 =>
        some ((-1), w15)
def f_X4_semicolon (v : RV) : Option (Unit × RV) :=
  bnd2 (f_X4_readToken v) fun r2 w3 =>
  bnd2 (f_X4_accepts w3 3 1) fun r5 w6 =>
  some ((), w6)
def f_X4_startsStatement (v : RV) : Option (Int32 × RV) :=
  bnd2 (f_X4_readToken v) fun r2 w3 =>
  if (RVTk w3) = 1 then
    (f_X4_isValid w3).bind fun r6 =>
    if r6 = 0 then
      some (0, w3)
    else
      if (RVTk w3) = 1 then
        some (1, w3)
      else
        some (0, w3)
  else
    if (RVTk w3) = 0 then
      (f_X4_isValid w3).bind fun r12 =>
      if r12 = 0 then
        some (0, w3)
      else
        if (RVTk w3) = 1 then
          some (1, w3)
        else
          some (0, w3)
    else
      bnd2 (f_X4_fail w3 1) fun r17 w18 =>
      (f_X4_isValid w18).bind fun r20 =>
      if r20 = 0 then
        some (0, w18)
      else
        if (RVTk w18) = 1 then
          some (1, w18)
        else
          some (0, w18)
def f_X5_add (v : TV) (a : Int32) (b : Int32) (c : Int32) (d : Int32) (e : Int32) : Option (Unit × TV) :=
  if (TVCt v) < 0 then
    some ((), v)
  else
    if 30 ≤ (TVCt v) then
      some ((), v)
    else
      if oob (TVCt v) 30 then none else
      if oob (TVCt v) 30 then none else
      if oob (TVCt v) 30 then none else
      if oob (TVCt v) 30 then none else
      if oob (TVCt v) 30 then none else
      some ((), ((upd (TVK v) (Int32.toNatClampNeg (TVCt v)) a), (upd (TVA v) (Int32.toNatClampNeg (TVCt v)) b), (upd (TVB v) (Int32.toNatClampNeg (TVCt v)) c), (upd (TVC v) (Int32.toNatClampNeg (TVCt v)) d), (upd (TVD v) (Int32.toNatClampNeg (TVCt v)) e), ((TVCt v) + 1)))
def f_X6_addQueue (v : UV) (a : Int64) (b : Int32) : Option (Unit × UV) :=
  if (NVCt (UVQs v)) < 0 then
    some ((), v)
  else
    if 6 ≤ (NVCt (UVQs v)) then
      some ((), v)
    else
      if oob (NVCt (UVQs v)) 6 then none else
      bnd2 (f_X2_add (UVQs v) a) fun r5 w6 =>
      some ((), (UV_sSp (UV_sQs v w6) (upd (UVSp v) (Int32.toNatClampNeg (NVCt (UVQs v))) b)))
def f_X6_clear (v : UV) : Option (Unit × UV) :=
  some ((), (UV_sOs (UV_sQs v (NV_sCt (UVQs v) 0)) (NV_sCt (UVOs v) 0)))
def f_X6_minutes (v : UV) (a : Int32) (b : Int32) : Option (Int32) :=
  if a < 0 then
    some 0
  else
    if 6 ≤ a then
      some 0
    else
      if oob a 6 then none else
      if ((UVSp v) (Int32.toNatClampNeg a)) ≤ 0 then
        some 0
      else
        if (((UVSp v) (Int32.toNatClampNeg a)) : Int32) = 0 then none else
        some (((b + ((UVSp v) (Int32.toNatClampNeg a))) - 1) / ((UVSp v) (Int32.toNatClampNeg a)))
def f_X7_isFull (v : SV) : Option (Int32) :=
  if (SVJc v) < 40 then
    some 0
  else
    some 1
def f_X7_isQueue (a : Int32) : Option (Int32) :=
  if a < 0 then
    some 0
  else
    if 6 ≤ a then
      some 0
    else
      some 1
def f_X7_addJob (v : SV) (a : Int32) (b : Int32) (c : Int32) (d : Int32) : Option (Int32 × SV) :=
  (f_X7_isFull v).bind fun r2 =>
  if r2 = 0 then
    if (SVJc v) < 0 then
      some ((-1), v)
    else
      (f_X7_isQueue a).bind fun r7 =>
      if r7 = 0 then
        some ((-1), v)
      else
        if oob (SVJc v) 40 then none else
        if oob (SVJc v) 40 then none else
        if oob (SVJc v) 40 then none else
        if oob (SVJc v) 40 then none else
        bnd2 (f_X0_plant (SVH v) (SVJc v) c) fun r15 w16 =>
        if oob a 6 then none else
        bnd2 (f_X0_merge w16 ((SVRo v) (Int32.toNatClampNeg a)) (SVJc v)) fun r19 w20 =>
        if oob a 6 then none else
        some ((SVJc v), (w20, ((SVJc v) + 1), (upd (SVOw v) (Int32.toNatClampNeg (SVJc v)) b), (upd (SVPg v) (Int32.toNatClampNeg (SVJc v)) d), (upd (SVFt v) (Int32.toNatClampNeg (SVJc v)) 0), (upd (SVQu v) (Int32.toNatClampNeg (SVJc v)) a), (upd (SVRo v) (Int32.toNatClampNeg a) r19), (SVPd v), (SVPs v)))
  else
    some ((-1), v)
def f_X7_waits (v : SV) (a : Int32) : Option (Int32) :=
  if a < 0 then
    some 0
  else
    if (SVJc v) ≤ a then
      some 0
    else
      if 40 ≤ a then
        some 0
      else
        if oob a 40 then none else
        if ((SVFt v) (Int32.toNatClampNeg a)) = 0 then
          if oob a 40 then none else
          (f_X7_isQueue ((SVQu v) (Int32.toNatClampNeg a))).bind fun r8 =>
          if r8 = 0 then
            some 0
          else
            some 1
        else
          some 0
def f_X7_canMove (v : SV) (a : Int32) (b : Int32) : Option (Int32) :=
  (f_X7_waits v a).bind fun r2 =>
  if r2 = 0 then
    some 0
  else
    if oob a 40 then none else
    if ((SVQu v) (Int32.toNatClampNeg a)) = b then
      some 0
    else
      some 1
def f_X7_clear_h14 : Nat → Int32 → SV → Option (Unit × SV)
  | 0, _, _ => none
  | n + 1, l1, v =>
    if 6 ≤ l1 then
      some ((), v)
    else
      if oob l1 6 then none else
      if oob l1 6 then none else
      if oob l1 6 then none else
      f_X7_clear_h14 n (l1 + 1) (SV_sPs (SV_sPd (SV_sRo v (upd (SVRo v) (Int32.toNatClampNeg l1) (-1))) (upd (SVPd v) (Int32.toNatClampNeg l1) 0)) (upd (SVPs v) (Int32.toNatClampNeg l1) (vp_nar .boolean 0)))
def f_X7_clear (v : SV) : Option (Unit × SV) :=
  bnd2 (f_X0_clearCounters (SVH v)) fun r2 w3 =>
  f_X7_clear_h14 FU 0 (SV_sJc (SV_sH v w3) 0)
def f_X7_firstAfter_h5 : Nat → Int32 → Int32 → Int32 → Int32 → SV → Option (Int32)
  | 0, _, _, _, _, _ => none
  | n + 1, l1, l2, l3, l4, v =>
    if (SVJc v) ≤ l4 then
      some l3
    else
      if 40 ≤ l4 then
        some l3
      else
        if oob l4 40 then none else
        if ((SVQu v) (Int32.toNatClampNeg l4)) = l1 then
          if l2 = (-1) then
            if l3 = (-1) then
              f_X7_firstAfter_h5 n l1 l2 l4 (l4 + 1) v
            else
              (f_X0_precedes (SVH v) l4 l3).bind fun r10 =>
              if r10 = 0 then
                f_X7_firstAfter_h5 n l1 l2 l3 (l4 + 1) v
              else
                f_X7_firstAfter_h5 n l1 l2 l4 (l4 + 1) v
          else
            (f_X0_precedes (SVH v) l2 l4).bind fun r14 =>
            if r14 = 0 then
              f_X7_firstAfter_h5 n l1 l2 l3 (l4 + 1) v
            else
              if l3 = (-1) then
                f_X7_firstAfter_h5 n l1 l2 l4 (l4 + 1) v
              else
                (f_X0_precedes (SVH v) l4 l3).bind fun r21 =>
                if r21 = 0 then
                  f_X7_firstAfter_h5 n l1 l2 l3 (l4 + 1) v
                else
                  f_X7_firstAfter_h5 n l1 l2 l4 (l4 + 1) v
        else
          f_X7_firstAfter_h5 n l1 l2 l3 (l4 + 1) v
def f_X7_firstAfter (v : SV) (a : Int32) (b : Int32) : Option (Int32) :=
  f_X7_firstAfter_h5 FU a b (-1) 0 v
abbrev P_SV_HV : Type := SV × HV
def P_SV_HVA (v : P_SV_HV) : SV := v.1
def P_SV_HVB (v : P_SV_HV) : HV := v.2
def P_SV_HV_sA (v : P_SV_HV) (x : SV) : P_SV_HV := (x, P_SV_HVB v)
def P_SV_HV_sB (v : P_SV_HV) (x : HV) : P_SV_HV := (P_SV_HVA v, x)
def WP_SV_HV (v : P_SV_HV) : List AC := [.inr (7, [.ref 1, .int (SVJc (P_SV_HVA v)), .ref 8, .ref 9, .ref 10, .ref 11, .ref 12, .ref 13, .ref 14]), .inr (0, [.ref 2, .ref 3, .ref 4, .ref 5, .ref 6, .int (HVCm (SVH (P_SV_HVA v))), .int (HVSw (SVH (P_SV_HVA v))), .ref 7]), .inl (0, 40, .inl (HVPr (SVH (P_SV_HVA v)))), .inl (0, 40, .inl (HVLf (SVH (P_SV_HVA v)))), .inl (0, 40, .inl (HVRt (SVH (P_SV_HVA v)))), .inl (0, 40, .inl (HVUp (SVH (P_SV_HVA v)))), .inl (0, 40, .inl (HVRk (SVH (P_SV_HVA v)))), .inl (0, 40, .inl (HVPa (SVH (P_SV_HVA v)))), .inl (0, 40, .inl (SVOw (P_SV_HVA v))), .inl (0, 40, .inl (SVPg (P_SV_HVA v))), .inl (0, 40, .inl (SVFt (P_SV_HVA v))), .inl (0, 40, .inl (SVQu (P_SV_HVA v))), .inl (0, 6, .inl (SVRo (P_SV_HVA v))), .inl (0, 6, .inl (SVPd (P_SV_HVA v))), .inl (2, 6, .inl (SVPs (P_SV_HVA v))), .inr (0, [.ref 16, .ref 17, .ref 18, .ref 19, .ref 20, .int (HVCm (P_SV_HVB v)), .int (HVSw (P_SV_HVB v)), .ref 21]), .inl (0, 40, .inl (HVPr (P_SV_HVB v))), .inl (0, 40, .inl (HVLf (P_SV_HVB v))), .inl (0, 40, .inl (HVRt (P_SV_HVB v))), .inl (0, 40, .inl (HVUp (P_SV_HVB v))), .inl (0, 40, .inl (HVRk (P_SV_HVB v))), .inl (0, 40, .inl (HVPa (P_SV_HVB v)))]
def f_X7_empties_h27 : Nat → Int32 → Int32 → Int32 → Int32 → P_SV_HV → Option (Int32 × P_SV_HV)
  | 0, _, _, _, _, _ => none
  | n + 1, l1, l3, l4, l5, v =>
    if 40 ≤ l5 then
      if l3 = (-1) then
        if l4 = (-1) then
          some (1, v)
        else
          some (0, v)
      else
        some (0, v)
    else
      if l3 = (-1) then
        if l3 = (-1) then
          if l4 = (-1) then
            some (1, v)
          else
            some (0, v)
        else
          some (0, v)
      else
        if l3 = l4 then
          bnd2 (f_X0_takeOut (P_SV_HVB v) l3 l3) fun r19 w20 =>
          (f_X7_firstAfter (P_SV_HVA v) l1 l4).bind fun r22 =>
          f_X7_empties_h27 n l1 r19 r22 (l5 + 1) (P_SV_HV_sB v w20)
        else
          if l3 = (-1) then
            if l4 = (-1) then
              some (1, v)
            else
              some (0, v)
          else
            some (0, v)
def f_X7_empties (v : P_SV_HV) (a : Int32) : Option (Int32 × P_SV_HV) :=
  (f_X7_isQueue a).bind fun r2 =>
  if r2 = 0 then
    some (0, v)
  else
    if oob a 6 then none else
    (f_X7_firstAfter (P_SV_HVA v) a (-1)).bind fun r7 =>
    f_X7_empties_h27 FU a ((SVRo (P_SV_HVA v)) (Int32.toNatClampNeg a)) r7 0 v
def f_X7_endJob (v : SV) (a : Int32) (b : Int32) : Option (Int32 × SV) :=
  (f_X7_waits v a).bind fun r2 =>
  if r2 = 0 then
    some (0, v)
  else
    if oob a 40 then none else
    if oob ((SVQu v) (Int32.toNatClampNeg a)) 6 then none else
    bnd2 (f_X0_takeOut (SVH v) ((SVRo v) (Int32.toNatClampNeg ((SVQu v) (Int32.toNatClampNeg a)))) a) fun r8 w9 =>
    if oob ((SVQu v) (Int32.toNatClampNeg a)) 6 then none else
    if oob a 40 then none else
    if oob a 40 then none else
    if b = 1 then
      if oob ((SVQu v) (Int32.toNatClampNeg a)) 6 then none else
      if oob a 40 then none else
      if oob ((SVQu v) (Int32.toNatClampNeg a)) 6 then none else
      some (1, (w9, (SVJc v), (SVOw v), (SVPg v), (upd (SVFt v) (Int32.toNatClampNeg a) b), (upd (SVQu v) (Int32.toNatClampNeg a) (-1)), (upd (SVRo v) (Int32.toNatClampNeg ((SVQu v) (Int32.toNatClampNeg a))) r8), (upd (SVPd v) (Int32.toNatClampNeg ((SVQu v) (Int32.toNatClampNeg a))) (((SVPd v) (Int32.toNatClampNeg ((SVQu v) (Int32.toNatClampNeg a)))) + ((SVPg v) (Int32.toNatClampNeg a)))), (SVPs v)))
    else
      some (1, (SV_sRo (SV_sQu (SV_sFt (SV_sH v w9) (upd (SVFt v) (Int32.toNatClampNeg a) b)) (upd (SVQu v) (Int32.toNatClampNeg a) (-1))) (upd (SVRo v) (Int32.toNatClampNeg ((SVQu v) (Int32.toNatClampNeg a))) r8)))
def f_X7_holdQueue (v : SV) (a : Int32) (b : Int32) : Option (Int32 × SV) :=
  (f_X7_isQueue a).bind fun r2 =>
  if r2 = 0 then
    some (0, v)
  else
    if oob a 6 then none else
    some (1, (SV_sPs v (upd (SVPs v) (Int32.toNatClampNeg a) (vp_nar .boolean b))))
def f_X7_insertAgain (v : SV) (a : Int32) (b : Int32) (c : Int32) : Option (Int32 × SV) :=
  (f_X7_waits v a).bind fun r2 =>
  if r2 = 0 then
    some (0, v)
  else
    (f_X7_isQueue b).bind fun r6 =>
    if r6 = 0 then
      some (0, v)
    else
      if oob a 40 then none else
      if oob ((SVQu v) (Int32.toNatClampNeg a)) 6 then none else
      bnd2 (f_X0_takeOut (SVH v) ((SVRo v) (Int32.toNatClampNeg ((SVQu v) (Int32.toNatClampNeg a)))) a) fun r12 w13 =>
      if oob ((SVQu v) (Int32.toNatClampNeg a)) 6 then none else
      bnd2 (f_X0_plant w13 a c) fun r16 w17 =>
      if oob b 6 then none else
      bnd2 (f_X0_merge w17 ((upd (SVRo v) (Int32.toNatClampNeg ((SVQu v) (Int32.toNatClampNeg a))) r12) (Int32.toNatClampNeg b)) a) fun r20 w21 =>
      if oob b 6 then none else
      if oob a 40 then none else
      some (1, (SV_sRo (SV_sQu (SV_sH v w21) (upd (SVQu v) (Int32.toNatClampNeg a) b)) (upd (upd (SVRo v) (Int32.toNatClampNeg ((SVQu v) (Int32.toNatClampNeg a))) r12) (Int32.toNatClampNeg b) r20)))
def f_X7_isSound (v : SV) (a : Int32) : Option (Int32) :=
  (f_X7_waits v a).bind fun r2 =>
  if r2 = 0 then
    if oob a 40 then none else
    if ((SVFt v) (Int32.toNatClampNeg a)) = 1 then
      if oob a 40 then none else
      if ((SVQu v) (Int32.toNatClampNeg a)) = (-1) then
        (f_X0_isOutside (SVH v) a).bind fun r30 =>
        if r30 = 0 then
          some 0
        else
          some 1
      else
        some 0
    else
      if oob a 40 then none else
      if ((SVFt v) (Int32.toNatClampNeg a)) = 2 then
        if oob a 40 then none else
        if ((SVQu v) (Int32.toNatClampNeg a)) = (-1) then
          (f_X0_isOutside (SVH v) a).bind fun r40 =>
          if r40 = 0 then
            some 0
          else
            some 1
        else
          some 0
      else
        some 0
  else
    if oob a 40 then none else
    if oob ((SVQu v) (Int32.toNatClampNeg a)) 6 then none else
    if ((SVRo v) (Int32.toNatClampNeg ((SVQu v) (Int32.toNatClampNeg a)))) = a then
      (f_X0_isSound (SVH v) a).bind fun r17 =>
      if r17 = 0 then
        some 0
      else
        if oob a 40 then none else
        if ((HVUp (SVH v)) (Int32.toNatClampNeg a)) = (-1) then
          some 1
        else
          some 0
    else
      (f_X0_isSound (SVH v) a).bind fun r9 =>
      if r9 = 0 then
        some 0
      else
        if oob a 40 then none else
        if ((HVUp (SVH v)) (Int32.toNatClampNeg a)) = (-1) then
          some 0
        else
          some 1
def f_X7_jobsAhead_h15 : Nat → Int32 → Int32 → Int32 → Int32 → SV → Option (Int32)
  | 0, _, _, _, _, _ => none
  | n + 1, l1, l2, l3, l4, v =>
    if (SVJc v) ≤ l4 then
      some l3
    else
      if 40 ≤ l4 then
        some l3
      else
        if l4 = l1 then
          f_X7_jobsAhead_h15 n l1 l2 l3 (l4 + 1) v
        else
          if oob l4 40 then none else
          if oob l1 40 then none else
          if ((SVQu v) (Int32.toNatClampNeg l4)) = ((SVQu v) (Int32.toNatClampNeg l1)) then
            (f_X0_comesBefore (SVH v) l4 l1 l2).bind fun r12 =>
            if r12 = 0 then
              f_X7_jobsAhead_h15 n l1 l2 l3 (l4 + 1) v
            else
              f_X7_jobsAhead_h15 n l1 l2 (l3 + 1) (l4 + 1) v
          else
            f_X7_jobsAhead_h15 n l1 l2 l3 (l4 + 1) v
def f_X7_jobsAhead (v : SV) (a : Int32) (b : Int32) : Option (Int32) :=
  (f_X7_waits v a).bind fun r2 =>
  if r2 = 0 then
    some 0
  else
    f_X7_jobsAhead_h15 FU a b 0 0 v
def f_X7_jobsIn_h4 : Nat → Int32 → Int32 → Int32 → SV → Option (Int32)
  | 0, _, _, _, _ => none
  | n + 1, l1, l2, l3, v =>
    if (SVJc v) ≤ l3 then
      some l2
    else
      if 40 ≤ l3 then
        some l2
      else
        if oob l3 40 then none else
        if ((SVQu v) (Int32.toNatClampNeg l3)) = l1 then
          f_X7_jobsIn_h4 n l1 (l2 + 1) (l3 + 1) v
        else
          f_X7_jobsIn_h4 n l1 l2 (l3 + 1) v
def f_X7_jobsIn (v : SV) (a : Int32) : Option (Int32) :=
  f_X7_jobsIn_h4 FU a 0 0 v
def f_X7_joinQueues_h55 : Nat → Int32 → Int32 → Int32 → SV → Option (Int32 × SV)
  | 0, _, _, _, _ => none
  | n + 1, l1, l2, l3, v =>
    if (SVJc v) ≤ l3 then
      some (1, v)
    else
      if 40 ≤ l3 then
        some (1, v)
      else
        if oob l3 40 then none else
        if ((SVQu v) (Int32.toNatClampNeg l3)) = l1 then
          if oob l3 40 then none else
          f_X7_joinQueues_h55 n l1 l2 (l3 + 1) (SV_sQu v (upd (SVQu v) (Int32.toNatClampNeg l3) l2))
        else
          f_X7_joinQueues_h55 n l1 l2 (l3 + 1) v
def f_X7_joinQueues (v : SV) (a : Int32) (b : Int32) : Option (Int32 × SV) :=
  (f_X7_isQueue a).bind fun r2 =>
  if r2 = 0 then
    some (0, v)
  else
    (f_X7_isQueue b).bind fun r6 =>
    if r6 = 0 then
      some (0, v)
    else
      if a = b then
        some (0, v)
      else
        if oob a 6 then none else
        if oob b 6 then none else
        bnd2 (f_X0_merge (SVH v) ((SVRo v) (Int32.toNatClampNeg a)) ((SVRo v) (Int32.toNatClampNeg b))) fun r13 w14 =>
        if oob b 6 then none else
        if oob a 6 then none else
        f_X7_joinQueues_h55 FU a b 0 (SV_sRo (SV_sH v w14) (upd (upd (SVRo v) (Int32.toNatClampNeg b) r13) (Int32.toNatClampNeg a) (-1)))
def f_X7_longestPath_h4 : Nat → Int32 → Int32 → Int32 → SV → Option (Int32)
  | 0, _, _, _, _ => none
  | n + 1, l1, l2, l3, v =>
    if (SVJc v) ≤ l3 then
      some l2
    else
      if 40 ≤ l3 then
        some l2
      else
        if oob l3 40 then none else
        if ((SVQu v) (Int32.toNatClampNeg l3)) = l1 then
          (f_X0_ancestors (SVH v) l3).bind fun r6 =>
          f_X7_longestPath_h4 n l1 (if l2 < (1 + r6) then (1 + r6) else l2) (l3 + 1) v
        else
          f_X7_longestPath_h4 n l1 l2 (l3 + 1) v
def f_X7_longestPath (v : SV) (a : Int32) : Option (Int32) :=
  f_X7_longestPath_h4 FU a 0 0 v
def f_X7_obstacle (v : SV) (a : Int32) : Option (Int32) :=
  (f_X7_isQueue a).bind fun r2 =>
  if r2 = 0 then
    some 1
  else
    if oob a 6 then none else
    if ((SVPs v) (Int32.toNatClampNeg a)) = 0 then
      if oob a 6 then none else
      if ((SVRo v) (Int32.toNatClampNeg a)) = (-1) then
        some 2
      else
        some 0
    else
      some 1
def f_X7_pagesAhead_h14 : Nat → Int32 → Int32 → Int32 → SV → Option (Int32)
  | 0, _, _, _, _ => none
  | n + 1, l1, l2, l3, v =>
    if (SVJc v) ≤ l3 then
      some l2
    else
      if 40 ≤ l3 then
        some l2
      else
        if oob l3 40 then none else
        if oob l1 40 then none else
        if ((SVQu v) (Int32.toNatClampNeg l3)) = ((SVQu v) (Int32.toNatClampNeg l1)) then
          (f_X0_precedes (SVH v) l3 l1).bind fun r11 =>
          if r11 = 0 then
            f_X7_pagesAhead_h14 n l1 l2 (l3 + 1) v
          else
            if oob l3 40 then none else
            f_X7_pagesAhead_h14 n l1 (l2 + ((SVPg v) (Int32.toNatClampNeg l3))) (l3 + 1) v
        else
          f_X7_pagesAhead_h14 n l1 l2 (l3 + 1) v
def f_X7_pagesAhead (v : SV) (a : Int32) : Option (Int32) :=
  (f_X7_waits v a).bind fun r2 =>
  if r2 = 0 then
    some 0
  else
    f_X7_pagesAhead_h14 FU a 0 0 v
def f_X7_pagesIn_h4 : Nat → Int32 → Int32 → Int32 → SV → Option (Int32)
  | 0, _, _, _, _ => none
  | n + 1, l1, l2, l3, v =>
    if (SVJc v) ≤ l3 then
      some l2
    else
      if 40 ≤ l3 then
        some l2
      else
        if oob l3 40 then none else
        if ((SVQu v) (Int32.toNatClampNeg l3)) = l1 then
          if oob l3 40 then none else
          f_X7_pagesIn_h4 n l1 (l2 + ((SVPg v) (Int32.toNatClampNeg l3))) (l3 + 1) v
        else
          f_X7_pagesIn_h4 n l1 l2 (l3 + 1) v
def f_X7_pagesIn (v : SV) (a : Int32) : Option (Int32) :=
  f_X7_pagesIn_h4 FU a 0 0 v
def f_X7_pagesOfAllJobs_h4 : Nat → Int32 → Int32 → SV → Option (Int32)
  | 0, _, _, _ => none
  | n + 1, l1, l2, v =>
    if (SVJc v) ≤ l2 then
      some l1
    else
      if 40 ≤ l2 then
        some l1
      else
        if oob l2 40 then none else
        f_X7_pagesOfAllJobs_h4 n (l1 + ((SVPg v) (Int32.toNatClampNeg l2))) (l2 + 1) v
def f_X7_pagesOfAllJobs (v : SV) : Option (Int32) :=
  f_X7_pagesOfAllJobs_h4 FU 0 0 v
def f_X7_pagesOfAllPrinted_h4 : Nat → Int32 → Int32 → SV → Option (Int32)
  | 0, _, _, _ => none
  | n + 1, l1, l2, v =>
    if 6 ≤ l2 then
      some l1
    else
      if oob l2 6 then none else
      f_X7_pagesOfAllPrinted_h4 n (l1 + ((SVPd v) (Int32.toNatClampNeg l2))) (l2 + 1) v
def f_X7_pagesOfAllPrinted (v : SV) : Option (Int32) :=
  f_X7_pagesOfAllPrinted_h4 FU 0 0 v
def f_X7_pagesOfOwner_h5 : Nat → Int32 → Int32 → Int32 → Int32 → SV → Option (Int32)
  | 0, _, _, _, _, _ => none
  | n + 1, l1, l2, l3, l4, v =>
    if (SVJc v) ≤ l4 then
      some l3
    else
      if 40 ≤ l4 then
        some l3
      else
        if oob l4 40 then none else
        if ((SVOw v) (Int32.toNatClampNeg l4)) = l1 then
          if oob l4 40 then none else
          if ((SVFt v) (Int32.toNatClampNeg l4)) = l2 then
            if oob l4 40 then none else
            f_X7_pagesOfOwner_h5 n l1 l2 (l3 + ((SVPg v) (Int32.toNatClampNeg l4))) (l4 + 1) v
          else
            f_X7_pagesOfOwner_h5 n l1 l2 l3 (l4 + 1) v
        else
          f_X7_pagesOfOwner_h5 n l1 l2 l3 (l4 + 1) v
def f_X7_pagesOfOwner (v : SV) (a : Int32) (b : Int32) : Option (Int32) :=
  f_X7_pagesOfOwner_h5 FU a b 0 0 v
def f_X7_sumOfRanks_h4 : Nat → Int32 → Int32 → SV → Option (Int32)
  | 0, _, _, _ => none
  | n + 1, l1, l2, v =>
    if (SVJc v) ≤ l2 then
      some l1
    else
      if 40 ≤ l2 then
        some l1
      else
        (f_X0_rankOf (SVH v) l2).bind fun r4 =>
        f_X7_sumOfRanks_h4 n (l1 + r4) (l2 + 1) v
def f_X7_sumOfRanks (v : SV) : Option (Int32) :=
  f_X7_sumOfRanks_h4 FU 0 0 v
def f_X7_waitingJobs_h4 : Nat → Int32 → Int32 → SV → Option (Int32)
  | 0, _, _, _ => none
  | n + 1, l1, l2, v =>
    if (SVJc v) ≤ l2 then
      some l1
    else
      if 40 ≤ l2 then
        some l1
      else
        (f_X7_waits v l2).bind fun r4 =>
        if r4 = 0 then
          f_X7_waitingJobs_h4 n l1 (l2 + 1) v
        else
          f_X7_waitingJobs_h4 n (l1 + 1) (l2 + 1) v
def f_X7_waitingJobs (v : SV) : Option (Int32) :=
  f_X7_waitingJobs_h4 FU 0 0 v
abbrev Lyscud : Type := Int32 × YV × SV × SV × UV × UV
def LyscudHs (v : Lyscud) : Int32 := v.1
def LyscudY (v : Lyscud) : YV := v.2.1
def LyscudS (v : Lyscud) : SV := v.2.2.1
def LyscudC (v : Lyscud) : SV := v.2.2.2.1
def LyscudU (v : Lyscud) : UV := v.2.2.2.2.1
def LyscudD (v : Lyscud) : UV := v.2.2.2.2.2
def Lyscud_sHs (v : Lyscud) (x : Int32) : Lyscud := (x, LyscudY v, LyscudS v, LyscudC v, LyscudU v, LyscudD v)
def Lyscud_sY (v : Lyscud) (x : YV) : Lyscud := (LyscudHs v, x, LyscudS v, LyscudC v, LyscudU v, LyscudD v)
def Lyscud_sS (v : Lyscud) (x : SV) : Lyscud := (LyscudHs v, LyscudY v, x, LyscudC v, LyscudU v, LyscudD v)
def Lyscud_sC (v : Lyscud) (x : SV) : Lyscud := (LyscudHs v, LyscudY v, LyscudS v, x, LyscudU v, LyscudD v)
def Lyscud_sU (v : Lyscud) (x : UV) : Lyscud := (LyscudHs v, LyscudY v, LyscudS v, LyscudC v, x, LyscudD v)
def Lyscud_sD (v : Lyscud) (x : UV) : Lyscud := (LyscudHs v, LyscudY v, LyscudS v, LyscudC v, LyscudU v, x)
def WLyscud (v : Lyscud) : List AC := [.inr (8, [.ref 1001000, .ref 1001001, .ref 1001002, .ref 1, .ref 123, .ref 138, .ref 1001006, .int (LyscudHs v), .ref 153, .ref 159]), .inr (1, [.ref 2, .int (YVCt (LyscudY v)), .int (YVNx (LyscudY v))]), .inl (4, 8, .inr (.inr (.inr (.inr (hA 3))))), .inr (7, [.ref 4, .int (SVJc ((YVKs (LyscudY v)) 0)), .ref 11, .ref 12, .ref 13, .ref 14, .ref 15, .ref 16, .ref 17]), .inr (0, [.ref 5, .ref 6, .ref 7, .ref 8, .ref 9, .int (HVCm (SVH ((YVKs (LyscudY v)) 0))), .int (HVSw (SVH ((YVKs (LyscudY v)) 0))), .ref 10]), .inl (0, 40, .inl (HVPr (SVH ((YVKs (LyscudY v)) 0)))), .inl (0, 40, .inl (HVLf (SVH ((YVKs (LyscudY v)) 0)))), .inl (0, 40, .inl (HVRt (SVH ((YVKs (LyscudY v)) 0)))), .inl (0, 40, .inl (HVUp (SVH ((YVKs (LyscudY v)) 0)))), .inl (0, 40, .inl (HVRk (SVH ((YVKs (LyscudY v)) 0)))), .inl (0, 40, .inl (HVPa (SVH ((YVKs (LyscudY v)) 0)))), .inl (0, 40, .inl (SVOw ((YVKs (LyscudY v)) 0))), .inl (0, 40, .inl (SVPg ((YVKs (LyscudY v)) 0))), .inl (0, 40, .inl (SVFt ((YVKs (LyscudY v)) 0))), .inl (0, 40, .inl (SVQu ((YVKs (LyscudY v)) 0))), .inl (0, 6, .inl (SVRo ((YVKs (LyscudY v)) 0))), .inl (0, 6, .inl (SVPd ((YVKs (LyscudY v)) 0))), .inl (2, 6, .inl (SVPs ((YVKs (LyscudY v)) 0))), .inr (7, [.ref 19, .int (SVJc ((YVKs (LyscudY v)) 1)), .ref 26, .ref 27, .ref 28, .ref 29, .ref 30, .ref 31, .ref 32]), .inr (0, [.ref 20, .ref 21, .ref 22, .ref 23, .ref 24, .int (HVCm (SVH ((YVKs (LyscudY v)) 1))), .int (HVSw (SVH ((YVKs (LyscudY v)) 1))), .ref 25]), .inl (0, 40, .inl (HVPr (SVH ((YVKs (LyscudY v)) 1)))), .inl (0, 40, .inl (HVLf (SVH ((YVKs (LyscudY v)) 1)))), .inl (0, 40, .inl (HVRt (SVH ((YVKs (LyscudY v)) 1)))), .inl (0, 40, .inl (HVUp (SVH ((YVKs (LyscudY v)) 1)))), .inl (0, 40, .inl (HVRk (SVH ((YVKs (LyscudY v)) 1)))), .inl (0, 40, .inl (HVPa (SVH ((YVKs (LyscudY v)) 1)))), .inl (0, 40, .inl (SVOw ((YVKs (LyscudY v)) 1))), .inl (0, 40, .inl (SVPg ((YVKs (LyscudY v)) 1))), .inl (0, 40, .inl (SVFt ((YVKs (LyscudY v)) 1))), .inl (0, 40, .inl (SVQu ((YVKs (LyscudY v)) 1))), .inl (0, 6, .inl (SVRo ((YVKs (LyscudY v)) 1))), .inl (0, 6, .inl (SVPd ((YVKs (LyscudY v)) 1))), .inl (2, 6, .inl (SVPs ((YVKs (LyscudY v)) 1))), .inr (7, [.ref 34, .int (SVJc ((YVKs (LyscudY v)) 2)), .ref 41, .ref 42, .ref 43, .ref 44, .ref 45, .ref 46, .ref 47]), .inr (0, [.ref 35, .ref 36, .ref 37, .ref 38, .ref 39, .int (HVCm (SVH ((YVKs (LyscudY v)) 2))), .int (HVSw (SVH ((YVKs (LyscudY v)) 2))), .ref 40]), .inl (0, 40, .inl (HVPr (SVH ((YVKs (LyscudY v)) 2)))), .inl (0, 40, .inl (HVLf (SVH ((YVKs (LyscudY v)) 2)))), .inl (0, 40, .inl (HVRt (SVH ((YVKs (LyscudY v)) 2)))), .inl (0, 40, .inl (HVUp (SVH ((YVKs (LyscudY v)) 2)))), .inl (0, 40, .inl (HVRk (SVH ((YVKs (LyscudY v)) 2)))), .inl (0, 40, .inl (HVPa (SVH ((YVKs (LyscudY v)) 2)))), .inl (0, 40, .inl (SVOw ((YVKs (LyscudY v)) 2))), .inl (0, 40, .inl (SVPg ((YVKs (LyscudY v)) 2))), .inl (0, 40, .inl (SVFt ((YVKs (LyscudY v)) 2))), .inl (0, 40, .inl (SVQu ((YVKs (LyscudY v)) 2))), .inl (0, 6, .inl (SVRo ((YVKs (LyscudY v)) 2))), .inl (0, 6, .inl (SVPd ((YVKs (LyscudY v)) 2))), .inl (2, 6, .inl (SVPs ((YVKs (LyscudY v)) 2))), .inr (7, [.ref 49, .int (SVJc ((YVKs (LyscudY v)) 3)), .ref 56, .ref 57, .ref 58, .ref 59, .ref 60, .ref 61, .ref 62]), .inr (0, [.ref 50, .ref 51, .ref 52, .ref 53, .ref 54, .int (HVCm (SVH ((YVKs (LyscudY v)) 3))), .int (HVSw (SVH ((YVKs (LyscudY v)) 3))), .ref 55]), .inl (0, 40, .inl (HVPr (SVH ((YVKs (LyscudY v)) 3)))), .inl (0, 40, .inl (HVLf (SVH ((YVKs (LyscudY v)) 3)))), .inl (0, 40, .inl (HVRt (SVH ((YVKs (LyscudY v)) 3)))), .inl (0, 40, .inl (HVUp (SVH ((YVKs (LyscudY v)) 3)))), .inl (0, 40, .inl (HVRk (SVH ((YVKs (LyscudY v)) 3)))), .inl (0, 40, .inl (HVPa (SVH ((YVKs (LyscudY v)) 3)))), .inl (0, 40, .inl (SVOw ((YVKs (LyscudY v)) 3))), .inl (0, 40, .inl (SVPg ((YVKs (LyscudY v)) 3))), .inl (0, 40, .inl (SVFt ((YVKs (LyscudY v)) 3))), .inl (0, 40, .inl (SVQu ((YVKs (LyscudY v)) 3))), .inl (0, 6, .inl (SVRo ((YVKs (LyscudY v)) 3))), .inl (0, 6, .inl (SVPd ((YVKs (LyscudY v)) 3))), .inl (2, 6, .inl (SVPs ((YVKs (LyscudY v)) 3))), .inr (7, [.ref 64, .int (SVJc ((YVKs (LyscudY v)) 4)), .ref 71, .ref 72, .ref 73, .ref 74, .ref 75, .ref 76, .ref 77]), .inr (0, [.ref 65, .ref 66, .ref 67, .ref 68, .ref 69, .int (HVCm (SVH ((YVKs (LyscudY v)) 4))), .int (HVSw (SVH ((YVKs (LyscudY v)) 4))), .ref 70]), .inl (0, 40, .inl (HVPr (SVH ((YVKs (LyscudY v)) 4)))), .inl (0, 40, .inl (HVLf (SVH ((YVKs (LyscudY v)) 4)))), .inl (0, 40, .inl (HVRt (SVH ((YVKs (LyscudY v)) 4)))), .inl (0, 40, .inl (HVUp (SVH ((YVKs (LyscudY v)) 4)))), .inl (0, 40, .inl (HVRk (SVH ((YVKs (LyscudY v)) 4)))), .inl (0, 40, .inl (HVPa (SVH ((YVKs (LyscudY v)) 4)))), .inl (0, 40, .inl (SVOw ((YVKs (LyscudY v)) 4))), .inl (0, 40, .inl (SVPg ((YVKs (LyscudY v)) 4))), .inl (0, 40, .inl (SVFt ((YVKs (LyscudY v)) 4))), .inl (0, 40, .inl (SVQu ((YVKs (LyscudY v)) 4))), .inl (0, 6, .inl (SVRo ((YVKs (LyscudY v)) 4))), .inl (0, 6, .inl (SVPd ((YVKs (LyscudY v)) 4))), .inl (2, 6, .inl (SVPs ((YVKs (LyscudY v)) 4))), .inr (7, [.ref 79, .int (SVJc ((YVKs (LyscudY v)) 5)), .ref 86, .ref 87, .ref 88, .ref 89, .ref 90, .ref 91, .ref 92]), .inr (0, [.ref 80, .ref 81, .ref 82, .ref 83, .ref 84, .int (HVCm (SVH ((YVKs (LyscudY v)) 5))), .int (HVSw (SVH ((YVKs (LyscudY v)) 5))), .ref 85]), .inl (0, 40, .inl (HVPr (SVH ((YVKs (LyscudY v)) 5)))), .inl (0, 40, .inl (HVLf (SVH ((YVKs (LyscudY v)) 5)))), .inl (0, 40, .inl (HVRt (SVH ((YVKs (LyscudY v)) 5)))), .inl (0, 40, .inl (HVUp (SVH ((YVKs (LyscudY v)) 5)))), .inl (0, 40, .inl (HVRk (SVH ((YVKs (LyscudY v)) 5)))), .inl (0, 40, .inl (HVPa (SVH ((YVKs (LyscudY v)) 5)))), .inl (0, 40, .inl (SVOw ((YVKs (LyscudY v)) 5))), .inl (0, 40, .inl (SVPg ((YVKs (LyscudY v)) 5))), .inl (0, 40, .inl (SVFt ((YVKs (LyscudY v)) 5))), .inl (0, 40, .inl (SVQu ((YVKs (LyscudY v)) 5))), .inl (0, 6, .inl (SVRo ((YVKs (LyscudY v)) 5))), .inl (0, 6, .inl (SVPd ((YVKs (LyscudY v)) 5))), .inl (2, 6, .inl (SVPs ((YVKs (LyscudY v)) 5))), .inr (7, [.ref 94, .int (SVJc ((YVKs (LyscudY v)) 6)), .ref 101, .ref 102, .ref 103, .ref 104, .ref 105, .ref 106, .ref 107]), .inr (0, [.ref 95, .ref 96, .ref 97, .ref 98, .ref 99, .int (HVCm (SVH ((YVKs (LyscudY v)) 6))), .int (HVSw (SVH ((YVKs (LyscudY v)) 6))), .ref 100]), .inl (0, 40, .inl (HVPr (SVH ((YVKs (LyscudY v)) 6)))), .inl (0, 40, .inl (HVLf (SVH ((YVKs (LyscudY v)) 6)))), .inl (0, 40, .inl (HVRt (SVH ((YVKs (LyscudY v)) 6)))), .inl (0, 40, .inl (HVUp (SVH ((YVKs (LyscudY v)) 6)))), .inl (0, 40, .inl (HVRk (SVH ((YVKs (LyscudY v)) 6)))), .inl (0, 40, .inl (HVPa (SVH ((YVKs (LyscudY v)) 6)))), .inl (0, 40, .inl (SVOw ((YVKs (LyscudY v)) 6))), .inl (0, 40, .inl (SVPg ((YVKs (LyscudY v)) 6))), .inl (0, 40, .inl (SVFt ((YVKs (LyscudY v)) 6))), .inl (0, 40, .inl (SVQu ((YVKs (LyscudY v)) 6))), .inl (0, 6, .inl (SVRo ((YVKs (LyscudY v)) 6))), .inl (0, 6, .inl (SVPd ((YVKs (LyscudY v)) 6))), .inl (2, 6, .inl (SVPs ((YVKs (LyscudY v)) 6))), .inr (7, [.ref 109, .int (SVJc ((YVKs (LyscudY v)) 7)), .ref 116, .ref 117, .ref 118, .ref 119, .ref 120, .ref 121, .ref 122]), .inr (0, [.ref 110, .ref 111, .ref 112, .ref 113, .ref 114, .int (HVCm (SVH ((YVKs (LyscudY v)) 7))), .int (HVSw (SVH ((YVKs (LyscudY v)) 7))), .ref 115]), .inl (0, 40, .inl (HVPr (SVH ((YVKs (LyscudY v)) 7)))), .inl (0, 40, .inl (HVLf (SVH ((YVKs (LyscudY v)) 7)))), .inl (0, 40, .inl (HVRt (SVH ((YVKs (LyscudY v)) 7)))), .inl (0, 40, .inl (HVUp (SVH ((YVKs (LyscudY v)) 7)))), .inl (0, 40, .inl (HVRk (SVH ((YVKs (LyscudY v)) 7)))), .inl (0, 40, .inl (HVPa (SVH ((YVKs (LyscudY v)) 7)))), .inl (0, 40, .inl (SVOw ((YVKs (LyscudY v)) 7))), .inl (0, 40, .inl (SVPg ((YVKs (LyscudY v)) 7))), .inl (0, 40, .inl (SVFt ((YVKs (LyscudY v)) 7))), .inl (0, 40, .inl (SVQu ((YVKs (LyscudY v)) 7))), .inl (0, 6, .inl (SVRo ((YVKs (LyscudY v)) 7))), .inl (0, 6, .inl (SVPd ((YVKs (LyscudY v)) 7))), .inl (2, 6, .inl (SVPs ((YVKs (LyscudY v)) 7))), .inr (7, [.ref 124, .int (SVJc (LyscudS v)), .ref 131, .ref 132, .ref 133, .ref 134, .ref 135, .ref 136, .ref 137]), .inr (0, [.ref 125, .ref 126, .ref 127, .ref 128, .ref 129, .int (HVCm (SVH (LyscudS v))), .int (HVSw (SVH (LyscudS v))), .ref 130]), .inl (0, 40, .inl (HVPr (SVH (LyscudS v)))), .inl (0, 40, .inl (HVLf (SVH (LyscudS v)))), .inl (0, 40, .inl (HVRt (SVH (LyscudS v)))), .inl (0, 40, .inl (HVUp (SVH (LyscudS v)))), .inl (0, 40, .inl (HVRk (SVH (LyscudS v)))), .inl (0, 40, .inl (HVPa (SVH (LyscudS v)))), .inl (0, 40, .inl (SVOw (LyscudS v))), .inl (0, 40, .inl (SVPg (LyscudS v))), .inl (0, 40, .inl (SVFt (LyscudS v))), .inl (0, 40, .inl (SVQu (LyscudS v))), .inl (0, 6, .inl (SVRo (LyscudS v))), .inl (0, 6, .inl (SVPd (LyscudS v))), .inl (2, 6, .inl (SVPs (LyscudS v))), .inr (7, [.ref 139, .int (SVJc (LyscudC v)), .ref 146, .ref 147, .ref 148, .ref 149, .ref 150, .ref 151, .ref 152]), .inr (0, [.ref 140, .ref 141, .ref 142, .ref 143, .ref 144, .int (HVCm (SVH (LyscudC v))), .int (HVSw (SVH (LyscudC v))), .ref 145]), .inl (0, 40, .inl (HVPr (SVH (LyscudC v)))), .inl (0, 40, .inl (HVLf (SVH (LyscudC v)))), .inl (0, 40, .inl (HVRt (SVH (LyscudC v)))), .inl (0, 40, .inl (HVUp (SVH (LyscudC v)))), .inl (0, 40, .inl (HVRk (SVH (LyscudC v)))), .inl (0, 40, .inl (HVPa (SVH (LyscudC v)))), .inl (0, 40, .inl (SVOw (LyscudC v))), .inl (0, 40, .inl (SVPg (LyscudC v))), .inl (0, 40, .inl (SVFt (LyscudC v))), .inl (0, 40, .inl (SVQu (LyscudC v))), .inl (0, 6, .inl (SVRo (LyscudC v))), .inl (0, 6, .inl (SVPd (LyscudC v))), .inl (2, 6, .inl (SVPs (LyscudC v))), .inr (6, [.ref 154, .ref 156, .ref 158]), .inr (2, [.ref 155, .int (NVCt (UVQs (LyscudU v)))]), .inl (1, 8, .inr (.inl (NVPk (UVQs (LyscudU v))))), .inr (2, [.ref 157, .int (NVCt (UVOs (LyscudU v)))]), .inl (1, 8, .inr (.inl (NVPk (UVOs (LyscudU v))))), .inl (0, 6, .inl (UVSp (LyscudU v))), .inr (6, [.ref 160, .ref 162, .ref 164]), .inr (2, [.ref 161, .int (NVCt (UVQs (LyscudD v)))]), .inl (1, 8, .inr (.inl (NVPk (UVQs (LyscudD v))))), .inr (2, [.ref 163, .int (NVCt (UVOs (LyscudD v)))]), .inl (1, 8, .inr (.inl (NVPk (UVOs (LyscudD v))))), .inl (0, 6, .inl (UVSp (LyscudD v)))]
def WLyscuds (v : Lyscud) : List AC := [.inr (8, [.ref 1001000, .ref 1001001, .ref 1001002, .ref 1, .ref 123, .ref 138, .ref 1001006, .int (LyscudHs v), .ref 159, .ref 153]), .inr (1, [.ref 2, .int (YVCt (LyscudY v)), .int (YVNx (LyscudY v))]), .inl (4, 8, .inr (.inr (.inr (.inr (hA 3))))), .inr (7, [.ref 4, .int (SVJc ((YVKs (LyscudY v)) 0)), .ref 11, .ref 12, .ref 13, .ref 14, .ref 15, .ref 16, .ref 17]), .inr (0, [.ref 5, .ref 6, .ref 7, .ref 8, .ref 9, .int (HVCm (SVH ((YVKs (LyscudY v)) 0))), .int (HVSw (SVH ((YVKs (LyscudY v)) 0))), .ref 10]), .inl (0, 40, .inl (HVPr (SVH ((YVKs (LyscudY v)) 0)))), .inl (0, 40, .inl (HVLf (SVH ((YVKs (LyscudY v)) 0)))), .inl (0, 40, .inl (HVRt (SVH ((YVKs (LyscudY v)) 0)))), .inl (0, 40, .inl (HVUp (SVH ((YVKs (LyscudY v)) 0)))), .inl (0, 40, .inl (HVRk (SVH ((YVKs (LyscudY v)) 0)))), .inl (0, 40, .inl (HVPa (SVH ((YVKs (LyscudY v)) 0)))), .inl (0, 40, .inl (SVOw ((YVKs (LyscudY v)) 0))), .inl (0, 40, .inl (SVPg ((YVKs (LyscudY v)) 0))), .inl (0, 40, .inl (SVFt ((YVKs (LyscudY v)) 0))), .inl (0, 40, .inl (SVQu ((YVKs (LyscudY v)) 0))), .inl (0, 6, .inl (SVRo ((YVKs (LyscudY v)) 0))), .inl (0, 6, .inl (SVPd ((YVKs (LyscudY v)) 0))), .inl (2, 6, .inl (SVPs ((YVKs (LyscudY v)) 0))), .inr (7, [.ref 19, .int (SVJc ((YVKs (LyscudY v)) 1)), .ref 26, .ref 27, .ref 28, .ref 29, .ref 30, .ref 31, .ref 32]), .inr (0, [.ref 20, .ref 21, .ref 22, .ref 23, .ref 24, .int (HVCm (SVH ((YVKs (LyscudY v)) 1))), .int (HVSw (SVH ((YVKs (LyscudY v)) 1))), .ref 25]), .inl (0, 40, .inl (HVPr (SVH ((YVKs (LyscudY v)) 1)))), .inl (0, 40, .inl (HVLf (SVH ((YVKs (LyscudY v)) 1)))), .inl (0, 40, .inl (HVRt (SVH ((YVKs (LyscudY v)) 1)))), .inl (0, 40, .inl (HVUp (SVH ((YVKs (LyscudY v)) 1)))), .inl (0, 40, .inl (HVRk (SVH ((YVKs (LyscudY v)) 1)))), .inl (0, 40, .inl (HVPa (SVH ((YVKs (LyscudY v)) 1)))), .inl (0, 40, .inl (SVOw ((YVKs (LyscudY v)) 1))), .inl (0, 40, .inl (SVPg ((YVKs (LyscudY v)) 1))), .inl (0, 40, .inl (SVFt ((YVKs (LyscudY v)) 1))), .inl (0, 40, .inl (SVQu ((YVKs (LyscudY v)) 1))), .inl (0, 6, .inl (SVRo ((YVKs (LyscudY v)) 1))), .inl (0, 6, .inl (SVPd ((YVKs (LyscudY v)) 1))), .inl (2, 6, .inl (SVPs ((YVKs (LyscudY v)) 1))), .inr (7, [.ref 34, .int (SVJc ((YVKs (LyscudY v)) 2)), .ref 41, .ref 42, .ref 43, .ref 44, .ref 45, .ref 46, .ref 47]), .inr (0, [.ref 35, .ref 36, .ref 37, .ref 38, .ref 39, .int (HVCm (SVH ((YVKs (LyscudY v)) 2))), .int (HVSw (SVH ((YVKs (LyscudY v)) 2))), .ref 40]), .inl (0, 40, .inl (HVPr (SVH ((YVKs (LyscudY v)) 2)))), .inl (0, 40, .inl (HVLf (SVH ((YVKs (LyscudY v)) 2)))), .inl (0, 40, .inl (HVRt (SVH ((YVKs (LyscudY v)) 2)))), .inl (0, 40, .inl (HVUp (SVH ((YVKs (LyscudY v)) 2)))), .inl (0, 40, .inl (HVRk (SVH ((YVKs (LyscudY v)) 2)))), .inl (0, 40, .inl (HVPa (SVH ((YVKs (LyscudY v)) 2)))), .inl (0, 40, .inl (SVOw ((YVKs (LyscudY v)) 2))), .inl (0, 40, .inl (SVPg ((YVKs (LyscudY v)) 2))), .inl (0, 40, .inl (SVFt ((YVKs (LyscudY v)) 2))), .inl (0, 40, .inl (SVQu ((YVKs (LyscudY v)) 2))), .inl (0, 6, .inl (SVRo ((YVKs (LyscudY v)) 2))), .inl (0, 6, .inl (SVPd ((YVKs (LyscudY v)) 2))), .inl (2, 6, .inl (SVPs ((YVKs (LyscudY v)) 2))), .inr (7, [.ref 49, .int (SVJc ((YVKs (LyscudY v)) 3)), .ref 56, .ref 57, .ref 58, .ref 59, .ref 60, .ref 61, .ref 62]), .inr (0, [.ref 50, .ref 51, .ref 52, .ref 53, .ref 54, .int (HVCm (SVH ((YVKs (LyscudY v)) 3))), .int (HVSw (SVH ((YVKs (LyscudY v)) 3))), .ref 55]), .inl (0, 40, .inl (HVPr (SVH ((YVKs (LyscudY v)) 3)))), .inl (0, 40, .inl (HVLf (SVH ((YVKs (LyscudY v)) 3)))), .inl (0, 40, .inl (HVRt (SVH ((YVKs (LyscudY v)) 3)))), .inl (0, 40, .inl (HVUp (SVH ((YVKs (LyscudY v)) 3)))), .inl (0, 40, .inl (HVRk (SVH ((YVKs (LyscudY v)) 3)))), .inl (0, 40, .inl (HVPa (SVH ((YVKs (LyscudY v)) 3)))), .inl (0, 40, .inl (SVOw ((YVKs (LyscudY v)) 3))), .inl (0, 40, .inl (SVPg ((YVKs (LyscudY v)) 3))), .inl (0, 40, .inl (SVFt ((YVKs (LyscudY v)) 3))), .inl (0, 40, .inl (SVQu ((YVKs (LyscudY v)) 3))), .inl (0, 6, .inl (SVRo ((YVKs (LyscudY v)) 3))), .inl (0, 6, .inl (SVPd ((YVKs (LyscudY v)) 3))), .inl (2, 6, .inl (SVPs ((YVKs (LyscudY v)) 3))), .inr (7, [.ref 64, .int (SVJc ((YVKs (LyscudY v)) 4)), .ref 71, .ref 72, .ref 73, .ref 74, .ref 75, .ref 76, .ref 77]), .inr (0, [.ref 65, .ref 66, .ref 67, .ref 68, .ref 69, .int (HVCm (SVH ((YVKs (LyscudY v)) 4))), .int (HVSw (SVH ((YVKs (LyscudY v)) 4))), .ref 70]), .inl (0, 40, .inl (HVPr (SVH ((YVKs (LyscudY v)) 4)))), .inl (0, 40, .inl (HVLf (SVH ((YVKs (LyscudY v)) 4)))), .inl (0, 40, .inl (HVRt (SVH ((YVKs (LyscudY v)) 4)))), .inl (0, 40, .inl (HVUp (SVH ((YVKs (LyscudY v)) 4)))), .inl (0, 40, .inl (HVRk (SVH ((YVKs (LyscudY v)) 4)))), .inl (0, 40, .inl (HVPa (SVH ((YVKs (LyscudY v)) 4)))), .inl (0, 40, .inl (SVOw ((YVKs (LyscudY v)) 4))), .inl (0, 40, .inl (SVPg ((YVKs (LyscudY v)) 4))), .inl (0, 40, .inl (SVFt ((YVKs (LyscudY v)) 4))), .inl (0, 40, .inl (SVQu ((YVKs (LyscudY v)) 4))), .inl (0, 6, .inl (SVRo ((YVKs (LyscudY v)) 4))), .inl (0, 6, .inl (SVPd ((YVKs (LyscudY v)) 4))), .inl (2, 6, .inl (SVPs ((YVKs (LyscudY v)) 4))), .inr (7, [.ref 79, .int (SVJc ((YVKs (LyscudY v)) 5)), .ref 86, .ref 87, .ref 88, .ref 89, .ref 90, .ref 91, .ref 92]), .inr (0, [.ref 80, .ref 81, .ref 82, .ref 83, .ref 84, .int (HVCm (SVH ((YVKs (LyscudY v)) 5))), .int (HVSw (SVH ((YVKs (LyscudY v)) 5))), .ref 85]), .inl (0, 40, .inl (HVPr (SVH ((YVKs (LyscudY v)) 5)))), .inl (0, 40, .inl (HVLf (SVH ((YVKs (LyscudY v)) 5)))), .inl (0, 40, .inl (HVRt (SVH ((YVKs (LyscudY v)) 5)))), .inl (0, 40, .inl (HVUp (SVH ((YVKs (LyscudY v)) 5)))), .inl (0, 40, .inl (HVRk (SVH ((YVKs (LyscudY v)) 5)))), .inl (0, 40, .inl (HVPa (SVH ((YVKs (LyscudY v)) 5)))), .inl (0, 40, .inl (SVOw ((YVKs (LyscudY v)) 5))), .inl (0, 40, .inl (SVPg ((YVKs (LyscudY v)) 5))), .inl (0, 40, .inl (SVFt ((YVKs (LyscudY v)) 5))), .inl (0, 40, .inl (SVQu ((YVKs (LyscudY v)) 5))), .inl (0, 6, .inl (SVRo ((YVKs (LyscudY v)) 5))), .inl (0, 6, .inl (SVPd ((YVKs (LyscudY v)) 5))), .inl (2, 6, .inl (SVPs ((YVKs (LyscudY v)) 5))), .inr (7, [.ref 94, .int (SVJc ((YVKs (LyscudY v)) 6)), .ref 101, .ref 102, .ref 103, .ref 104, .ref 105, .ref 106, .ref 107]), .inr (0, [.ref 95, .ref 96, .ref 97, .ref 98, .ref 99, .int (HVCm (SVH ((YVKs (LyscudY v)) 6))), .int (HVSw (SVH ((YVKs (LyscudY v)) 6))), .ref 100]), .inl (0, 40, .inl (HVPr (SVH ((YVKs (LyscudY v)) 6)))), .inl (0, 40, .inl (HVLf (SVH ((YVKs (LyscudY v)) 6)))), .inl (0, 40, .inl (HVRt (SVH ((YVKs (LyscudY v)) 6)))), .inl (0, 40, .inl (HVUp (SVH ((YVKs (LyscudY v)) 6)))), .inl (0, 40, .inl (HVRk (SVH ((YVKs (LyscudY v)) 6)))), .inl (0, 40, .inl (HVPa (SVH ((YVKs (LyscudY v)) 6)))), .inl (0, 40, .inl (SVOw ((YVKs (LyscudY v)) 6))), .inl (0, 40, .inl (SVPg ((YVKs (LyscudY v)) 6))), .inl (0, 40, .inl (SVFt ((YVKs (LyscudY v)) 6))), .inl (0, 40, .inl (SVQu ((YVKs (LyscudY v)) 6))), .inl (0, 6, .inl (SVRo ((YVKs (LyscudY v)) 6))), .inl (0, 6, .inl (SVPd ((YVKs (LyscudY v)) 6))), .inl (2, 6, .inl (SVPs ((YVKs (LyscudY v)) 6))), .inr (7, [.ref 109, .int (SVJc ((YVKs (LyscudY v)) 7)), .ref 116, .ref 117, .ref 118, .ref 119, .ref 120, .ref 121, .ref 122]), .inr (0, [.ref 110, .ref 111, .ref 112, .ref 113, .ref 114, .int (HVCm (SVH ((YVKs (LyscudY v)) 7))), .int (HVSw (SVH ((YVKs (LyscudY v)) 7))), .ref 115]), .inl (0, 40, .inl (HVPr (SVH ((YVKs (LyscudY v)) 7)))), .inl (0, 40, .inl (HVLf (SVH ((YVKs (LyscudY v)) 7)))), .inl (0, 40, .inl (HVRt (SVH ((YVKs (LyscudY v)) 7)))), .inl (0, 40, .inl (HVUp (SVH ((YVKs (LyscudY v)) 7)))), .inl (0, 40, .inl (HVRk (SVH ((YVKs (LyscudY v)) 7)))), .inl (0, 40, .inl (HVPa (SVH ((YVKs (LyscudY v)) 7)))), .inl (0, 40, .inl (SVOw ((YVKs (LyscudY v)) 7))), .inl (0, 40, .inl (SVPg ((YVKs (LyscudY v)) 7))), .inl (0, 40, .inl (SVFt ((YVKs (LyscudY v)) 7))), .inl (0, 40, .inl (SVQu ((YVKs (LyscudY v)) 7))), .inl (0, 6, .inl (SVRo ((YVKs (LyscudY v)) 7))), .inl (0, 6, .inl (SVPd ((YVKs (LyscudY v)) 7))), .inl (2, 6, .inl (SVPs ((YVKs (LyscudY v)) 7))), .inr (7, [.ref 124, .int (SVJc (LyscudS v)), .ref 131, .ref 132, .ref 133, .ref 134, .ref 135, .ref 136, .ref 137]), .inr (0, [.ref 125, .ref 126, .ref 127, .ref 128, .ref 129, .int (HVCm (SVH (LyscudS v))), .int (HVSw (SVH (LyscudS v))), .ref 130]), .inl (0, 40, .inl (HVPr (SVH (LyscudS v)))), .inl (0, 40, .inl (HVLf (SVH (LyscudS v)))), .inl (0, 40, .inl (HVRt (SVH (LyscudS v)))), .inl (0, 40, .inl (HVUp (SVH (LyscudS v)))), .inl (0, 40, .inl (HVRk (SVH (LyscudS v)))), .inl (0, 40, .inl (HVPa (SVH (LyscudS v)))), .inl (0, 40, .inl (SVOw (LyscudS v))), .inl (0, 40, .inl (SVPg (LyscudS v))), .inl (0, 40, .inl (SVFt (LyscudS v))), .inl (0, 40, .inl (SVQu (LyscudS v))), .inl (0, 6, .inl (SVRo (LyscudS v))), .inl (0, 6, .inl (SVPd (LyscudS v))), .inl (2, 6, .inl (SVPs (LyscudS v))), .inr (7, [.ref 139, .int (SVJc (LyscudC v)), .ref 146, .ref 147, .ref 148, .ref 149, .ref 150, .ref 151, .ref 152]), .inr (0, [.ref 140, .ref 141, .ref 142, .ref 143, .ref 144, .int (HVCm (SVH (LyscudC v))), .int (HVSw (SVH (LyscudC v))), .ref 145]), .inl (0, 40, .inl (HVPr (SVH (LyscudC v)))), .inl (0, 40, .inl (HVLf (SVH (LyscudC v)))), .inl (0, 40, .inl (HVRt (SVH (LyscudC v)))), .inl (0, 40, .inl (HVUp (SVH (LyscudC v)))), .inl (0, 40, .inl (HVRk (SVH (LyscudC v)))), .inl (0, 40, .inl (HVPa (SVH (LyscudC v)))), .inl (0, 40, .inl (SVOw (LyscudC v))), .inl (0, 40, .inl (SVPg (LyscudC v))), .inl (0, 40, .inl (SVFt (LyscudC v))), .inl (0, 40, .inl (SVQu (LyscudC v))), .inl (0, 6, .inl (SVRo (LyscudC v))), .inl (0, 6, .inl (SVPd (LyscudC v))), .inl (2, 6, .inl (SVPs (LyscudC v))), .inr (6, [.ref 154, .ref 156, .ref 158]), .inr (2, [.ref 155, .int (NVCt (UVQs (LyscudD v)))]), .inl (1, 8, .inr (.inl (NVPk (UVQs (LyscudD v))))), .inr (2, [.ref 157, .int (NVCt (UVOs (LyscudD v)))]), .inl (1, 8, .inr (.inl (NVPk (UVOs (LyscudD v))))), .inl (0, 6, .inl (UVSp (LyscudD v))), .inr (6, [.ref 160, .ref 162, .ref 164]), .inr (2, [.ref 161, .int (NVCt (UVQs (LyscudU v)))]), .inl (1, 8, .inr (.inl (NVPk (UVQs (LyscudU v))))), .inr (2, [.ref 163, .int (NVCt (UVOs (LyscudU v)))]), .inl (1, 8, .inr (.inl (NVPk (UVOs (LyscudU v))))), .inl (0, 6, .inl (UVSp (LyscudU v)))]
def WLyscudm (b : Bool) (v : Lyscud) : List AC := match b with
  | true => WLyscuds v
  | false => WLyscud v
def f_X8_adoptDraft (v : Lyscud) : Option (Unit × Lyscud) :=
  bnd2 (f_X7_copyFrom ((LyscudS v), (LyscudC v))) fun r2 w3 =>
  bnd2 (f_X0_clearCounters (SVH (P_SV_SVA w3))) fun r5 w6 =>
  bnd2 (f_X1_clear (LyscudY v)) fun r8 w9 =>
  some ((), (0, w9, (SV_sH (P_SV_SVA w3) w6), (P_SV_SVB w3), (LyscudD v), (LyscudU v)))
abbrev Lr : Type := Int32 × RV
def LrHs (v : Lr) : Int32 := v.1
def LrR (v : Lr) : RV := v.2
def Lr_sHs (v : Lr) (x : Int32) : Lr := (x, LrR v)
def Lr_sR (v : Lr) (x : RV) : Lr := (LrHs v, x)
def WLr (v : Lr) : List AC := [.inr (8, [.ref 1, .ref 1001001, .ref 1001002, .ref 1001003, .ref 1001004, .ref 1001005, .ref 1001006, .int (LrHs v), .ref 1001008, .ref 1001009]), .inr (4, [.ref 2, .int (RVLn (LrR v)), .int (RVEn (LrR v)), .int (RVNx (LrR v)), .int (RVTk (LrR v)), .int (RVAt (LrR v)), .long (RVWd (LrR v)), .int (RVVa (LrR v)), .int (RVEk (LrR v)), .int (RVEa (LrR v))]), .inl (0, 600, .inl (RVTx (LrR v)))]
def f_X8_appendInput (v : Lr) (a : Int32) (b : Int32) (c : Int32) (d : Int32) (e : Int32) : Option (Int32 × Lr) :=
  if (RVLn (LrR v)) ≤ 580 then
    bnd2 (f_X4_appendFourBytes (LrR v) a) fun r3 w4 =>
    bnd2 (f_X4_appendFourBytes w4 b) fun r6 w7 =>
    bnd2 (f_X4_appendFourBytes w7 c) fun r9 w10 =>
    bnd2 (f_X4_appendFourBytes w10 d) fun r12 w13 =>
    bnd2 (f_X4_appendFourBytes w13 e) fun r15 w16 =>
    some ((RVLn w16), (Lr_sR v w16))
  else
    some ((-1), v)
abbrev Ls : Type := Int32 × SV
def LsHs (v : Ls) : Int32 := v.1
def LsS (v : Ls) : SV := v.2
def Ls_sHs (v : Ls) (x : Int32) : Ls := (x, LsS v)
def Ls_sS (v : Ls) (x : SV) : Ls := (LsHs v, x)
def WLs (v : Ls) : List AC := [.inr (8, [.ref 1001000, .ref 1001001, .ref 1001002, .ref 1001003, .ref 1, .ref 1001005, .ref 1001006, .int (LsHs v), .ref 1001008, .ref 1001009]), .inr (7, [.ref 2, .int (SVJc (LsS v)), .ref 9, .ref 10, .ref 11, .ref 12, .ref 13, .ref 14, .ref 15]), .inr (0, [.ref 3, .ref 4, .ref 5, .ref 6, .ref 7, .int (HVCm (SVH (LsS v))), .int (HVSw (SVH (LsS v))), .ref 8]), .inl (0, 40, .inl (HVPr (SVH (LsS v)))), .inl (0, 40, .inl (HVLf (SVH (LsS v)))), .inl (0, 40, .inl (HVRt (SVH (LsS v)))), .inl (0, 40, .inl (HVUp (SVH (LsS v)))), .inl (0, 40, .inl (HVRk (SVH (LsS v)))), .inl (0, 40, .inl (HVPa (SVH (LsS v)))), .inl (0, 40, .inl (SVOw (LsS v))), .inl (0, 40, .inl (SVPg (LsS v))), .inl (0, 40, .inl (SVFt (LsS v))), .inl (0, 40, .inl (SVQu (LsS v))), .inl (0, 6, .inl (SVRo (LsS v))), .inl (0, 6, .inl (SVPd (LsS v))), .inl (2, 6, .inl (SVPs (LsS v)))]
def f_X8_checkJob (v : Ls) (a : Int32) : Option ((Unit ⊕ String)) :=
  if a < 0 then
    some (.inr "java/lang/IndexOutOfBoundsException")
  else
    if (SVJc (LsS v)) ≤ a then
      some (.inr "java/lang/IndexOutOfBoundsException")
    else
      if a < 40 then
        some (.inl ())
      else
        some (.inr "java/lang/IndexOutOfBoundsException")
def f_X8_checkWaits (v : Ls) (a : Int32) : Option ((Unit ⊕ String)) :=
  (f_X7_waits (LsS v) a).bind fun r2 =>
  if r2 = 0 then
    some (.inr "java/lang/IllegalStateException")
  else
    some (.inl ())
abbrev Lys : Type := Int32 × YV × SV
def LysHs (v : Lys) : Int32 := v.1
def LysY (v : Lys) : YV := v.2.1
def LysS (v : Lys) : SV := v.2.2
def Lys_sHs (v : Lys) (x : Int32) : Lys := (x, LysY v, LysS v)
def Lys_sY (v : Lys) (x : YV) : Lys := (LysHs v, x, LysS v)
def Lys_sS (v : Lys) (x : SV) : Lys := (LysHs v, LysY v, x)
def WLys (v : Lys) : List AC := [.inr (8, [.ref 1001000, .ref 1001001, .ref 1001002, .ref 1, .ref 123, .ref 1001005, .ref 1001006, .int (LysHs v), .ref 1001008, .ref 1001009]), .inr (1, [.ref 2, .int (YVCt (LysY v)), .int (YVNx (LysY v))]), .inl (4, 8, .inr (.inr (.inr (.inr (hA 3))))), .inr (7, [.ref 4, .int (SVJc ((YVKs (LysY v)) 0)), .ref 11, .ref 12, .ref 13, .ref 14, .ref 15, .ref 16, .ref 17]), .inr (0, [.ref 5, .ref 6, .ref 7, .ref 8, .ref 9, .int (HVCm (SVH ((YVKs (LysY v)) 0))), .int (HVSw (SVH ((YVKs (LysY v)) 0))), .ref 10]), .inl (0, 40, .inl (HVPr (SVH ((YVKs (LysY v)) 0)))), .inl (0, 40, .inl (HVLf (SVH ((YVKs (LysY v)) 0)))), .inl (0, 40, .inl (HVRt (SVH ((YVKs (LysY v)) 0)))), .inl (0, 40, .inl (HVUp (SVH ((YVKs (LysY v)) 0)))), .inl (0, 40, .inl (HVRk (SVH ((YVKs (LysY v)) 0)))), .inl (0, 40, .inl (HVPa (SVH ((YVKs (LysY v)) 0)))), .inl (0, 40, .inl (SVOw ((YVKs (LysY v)) 0))), .inl (0, 40, .inl (SVPg ((YVKs (LysY v)) 0))), .inl (0, 40, .inl (SVFt ((YVKs (LysY v)) 0))), .inl (0, 40, .inl (SVQu ((YVKs (LysY v)) 0))), .inl (0, 6, .inl (SVRo ((YVKs (LysY v)) 0))), .inl (0, 6, .inl (SVPd ((YVKs (LysY v)) 0))), .inl (2, 6, .inl (SVPs ((YVKs (LysY v)) 0))), .inr (7, [.ref 19, .int (SVJc ((YVKs (LysY v)) 1)), .ref 26, .ref 27, .ref 28, .ref 29, .ref 30, .ref 31, .ref 32]), .inr (0, [.ref 20, .ref 21, .ref 22, .ref 23, .ref 24, .int (HVCm (SVH ((YVKs (LysY v)) 1))), .int (HVSw (SVH ((YVKs (LysY v)) 1))), .ref 25]), .inl (0, 40, .inl (HVPr (SVH ((YVKs (LysY v)) 1)))), .inl (0, 40, .inl (HVLf (SVH ((YVKs (LysY v)) 1)))), .inl (0, 40, .inl (HVRt (SVH ((YVKs (LysY v)) 1)))), .inl (0, 40, .inl (HVUp (SVH ((YVKs (LysY v)) 1)))), .inl (0, 40, .inl (HVRk (SVH ((YVKs (LysY v)) 1)))), .inl (0, 40, .inl (HVPa (SVH ((YVKs (LysY v)) 1)))), .inl (0, 40, .inl (SVOw ((YVKs (LysY v)) 1))), .inl (0, 40, .inl (SVPg ((YVKs (LysY v)) 1))), .inl (0, 40, .inl (SVFt ((YVKs (LysY v)) 1))), .inl (0, 40, .inl (SVQu ((YVKs (LysY v)) 1))), .inl (0, 6, .inl (SVRo ((YVKs (LysY v)) 1))), .inl (0, 6, .inl (SVPd ((YVKs (LysY v)) 1))), .inl (2, 6, .inl (SVPs ((YVKs (LysY v)) 1))), .inr (7, [.ref 34, .int (SVJc ((YVKs (LysY v)) 2)), .ref 41, .ref 42, .ref 43, .ref 44, .ref 45, .ref 46, .ref 47]), .inr (0, [.ref 35, .ref 36, .ref 37, .ref 38, .ref 39, .int (HVCm (SVH ((YVKs (LysY v)) 2))), .int (HVSw (SVH ((YVKs (LysY v)) 2))), .ref 40]), .inl (0, 40, .inl (HVPr (SVH ((YVKs (LysY v)) 2)))), .inl (0, 40, .inl (HVLf (SVH ((YVKs (LysY v)) 2)))), .inl (0, 40, .inl (HVRt (SVH ((YVKs (LysY v)) 2)))), .inl (0, 40, .inl (HVUp (SVH ((YVKs (LysY v)) 2)))), .inl (0, 40, .inl (HVRk (SVH ((YVKs (LysY v)) 2)))), .inl (0, 40, .inl (HVPa (SVH ((YVKs (LysY v)) 2)))), .inl (0, 40, .inl (SVOw ((YVKs (LysY v)) 2))), .inl (0, 40, .inl (SVPg ((YVKs (LysY v)) 2))), .inl (0, 40, .inl (SVFt ((YVKs (LysY v)) 2))), .inl (0, 40, .inl (SVQu ((YVKs (LysY v)) 2))), .inl (0, 6, .inl (SVRo ((YVKs (LysY v)) 2))), .inl (0, 6, .inl (SVPd ((YVKs (LysY v)) 2))), .inl (2, 6, .inl (SVPs ((YVKs (LysY v)) 2))), .inr (7, [.ref 49, .int (SVJc ((YVKs (LysY v)) 3)), .ref 56, .ref 57, .ref 58, .ref 59, .ref 60, .ref 61, .ref 62]), .inr (0, [.ref 50, .ref 51, .ref 52, .ref 53, .ref 54, .int (HVCm (SVH ((YVKs (LysY v)) 3))), .int (HVSw (SVH ((YVKs (LysY v)) 3))), .ref 55]), .inl (0, 40, .inl (HVPr (SVH ((YVKs (LysY v)) 3)))), .inl (0, 40, .inl (HVLf (SVH ((YVKs (LysY v)) 3)))), .inl (0, 40, .inl (HVRt (SVH ((YVKs (LysY v)) 3)))), .inl (0, 40, .inl (HVUp (SVH ((YVKs (LysY v)) 3)))), .inl (0, 40, .inl (HVRk (SVH ((YVKs (LysY v)) 3)))), .inl (0, 40, .inl (HVPa (SVH ((YVKs (LysY v)) 3)))), .inl (0, 40, .inl (SVOw ((YVKs (LysY v)) 3))), .inl (0, 40, .inl (SVPg ((YVKs (LysY v)) 3))), .inl (0, 40, .inl (SVFt ((YVKs (LysY v)) 3))), .inl (0, 40, .inl (SVQu ((YVKs (LysY v)) 3))), .inl (0, 6, .inl (SVRo ((YVKs (LysY v)) 3))), .inl (0, 6, .inl (SVPd ((YVKs (LysY v)) 3))), .inl (2, 6, .inl (SVPs ((YVKs (LysY v)) 3))), .inr (7, [.ref 64, .int (SVJc ((YVKs (LysY v)) 4)), .ref 71, .ref 72, .ref 73, .ref 74, .ref 75, .ref 76, .ref 77]), .inr (0, [.ref 65, .ref 66, .ref 67, .ref 68, .ref 69, .int (HVCm (SVH ((YVKs (LysY v)) 4))), .int (HVSw (SVH ((YVKs (LysY v)) 4))), .ref 70]), .inl (0, 40, .inl (HVPr (SVH ((YVKs (LysY v)) 4)))), .inl (0, 40, .inl (HVLf (SVH ((YVKs (LysY v)) 4)))), .inl (0, 40, .inl (HVRt (SVH ((YVKs (LysY v)) 4)))), .inl (0, 40, .inl (HVUp (SVH ((YVKs (LysY v)) 4)))), .inl (0, 40, .inl (HVRk (SVH ((YVKs (LysY v)) 4)))), .inl (0, 40, .inl (HVPa (SVH ((YVKs (LysY v)) 4)))), .inl (0, 40, .inl (SVOw ((YVKs (LysY v)) 4))), .inl (0, 40, .inl (SVPg ((YVKs (LysY v)) 4))), .inl (0, 40, .inl (SVFt ((YVKs (LysY v)) 4))), .inl (0, 40, .inl (SVQu ((YVKs (LysY v)) 4))), .inl (0, 6, .inl (SVRo ((YVKs (LysY v)) 4))), .inl (0, 6, .inl (SVPd ((YVKs (LysY v)) 4))), .inl (2, 6, .inl (SVPs ((YVKs (LysY v)) 4))), .inr (7, [.ref 79, .int (SVJc ((YVKs (LysY v)) 5)), .ref 86, .ref 87, .ref 88, .ref 89, .ref 90, .ref 91, .ref 92]), .inr (0, [.ref 80, .ref 81, .ref 82, .ref 83, .ref 84, .int (HVCm (SVH ((YVKs (LysY v)) 5))), .int (HVSw (SVH ((YVKs (LysY v)) 5))), .ref 85]), .inl (0, 40, .inl (HVPr (SVH ((YVKs (LysY v)) 5)))), .inl (0, 40, .inl (HVLf (SVH ((YVKs (LysY v)) 5)))), .inl (0, 40, .inl (HVRt (SVH ((YVKs (LysY v)) 5)))), .inl (0, 40, .inl (HVUp (SVH ((YVKs (LysY v)) 5)))), .inl (0, 40, .inl (HVRk (SVH ((YVKs (LysY v)) 5)))), .inl (0, 40, .inl (HVPa (SVH ((YVKs (LysY v)) 5)))), .inl (0, 40, .inl (SVOw ((YVKs (LysY v)) 5))), .inl (0, 40, .inl (SVPg ((YVKs (LysY v)) 5))), .inl (0, 40, .inl (SVFt ((YVKs (LysY v)) 5))), .inl (0, 40, .inl (SVQu ((YVKs (LysY v)) 5))), .inl (0, 6, .inl (SVRo ((YVKs (LysY v)) 5))), .inl (0, 6, .inl (SVPd ((YVKs (LysY v)) 5))), .inl (2, 6, .inl (SVPs ((YVKs (LysY v)) 5))), .inr (7, [.ref 94, .int (SVJc ((YVKs (LysY v)) 6)), .ref 101, .ref 102, .ref 103, .ref 104, .ref 105, .ref 106, .ref 107]), .inr (0, [.ref 95, .ref 96, .ref 97, .ref 98, .ref 99, .int (HVCm (SVH ((YVKs (LysY v)) 6))), .int (HVSw (SVH ((YVKs (LysY v)) 6))), .ref 100]), .inl (0, 40, .inl (HVPr (SVH ((YVKs (LysY v)) 6)))), .inl (0, 40, .inl (HVLf (SVH ((YVKs (LysY v)) 6)))), .inl (0, 40, .inl (HVRt (SVH ((YVKs (LysY v)) 6)))), .inl (0, 40, .inl (HVUp (SVH ((YVKs (LysY v)) 6)))), .inl (0, 40, .inl (HVRk (SVH ((YVKs (LysY v)) 6)))), .inl (0, 40, .inl (HVPa (SVH ((YVKs (LysY v)) 6)))), .inl (0, 40, .inl (SVOw ((YVKs (LysY v)) 6))), .inl (0, 40, .inl (SVPg ((YVKs (LysY v)) 6))), .inl (0, 40, .inl (SVFt ((YVKs (LysY v)) 6))), .inl (0, 40, .inl (SVQu ((YVKs (LysY v)) 6))), .inl (0, 6, .inl (SVRo ((YVKs (LysY v)) 6))), .inl (0, 6, .inl (SVPd ((YVKs (LysY v)) 6))), .inl (2, 6, .inl (SVPs ((YVKs (LysY v)) 6))), .inr (7, [.ref 109, .int (SVJc ((YVKs (LysY v)) 7)), .ref 116, .ref 117, .ref 118, .ref 119, .ref 120, .ref 121, .ref 122]), .inr (0, [.ref 110, .ref 111, .ref 112, .ref 113, .ref 114, .int (HVCm (SVH ((YVKs (LysY v)) 7))), .int (HVSw (SVH ((YVKs (LysY v)) 7))), .ref 115]), .inl (0, 40, .inl (HVPr (SVH ((YVKs (LysY v)) 7)))), .inl (0, 40, .inl (HVLf (SVH ((YVKs (LysY v)) 7)))), .inl (0, 40, .inl (HVRt (SVH ((YVKs (LysY v)) 7)))), .inl (0, 40, .inl (HVUp (SVH ((YVKs (LysY v)) 7)))), .inl (0, 40, .inl (HVRk (SVH ((YVKs (LysY v)) 7)))), .inl (0, 40, .inl (HVPa (SVH ((YVKs (LysY v)) 7)))), .inl (0, 40, .inl (SVOw ((YVKs (LysY v)) 7))), .inl (0, 40, .inl (SVPg ((YVKs (LysY v)) 7))), .inl (0, 40, .inl (SVFt ((YVKs (LysY v)) 7))), .inl (0, 40, .inl (SVQu ((YVKs (LysY v)) 7))), .inl (0, 6, .inl (SVRo ((YVKs (LysY v)) 7))), .inl (0, 6, .inl (SVPd ((YVKs (LysY v)) 7))), .inl (2, 6, .inl (SVPs ((YVKs (LysY v)) 7))), .inr (7, [.ref 124, .int (SVJc (LysS v)), .ref 131, .ref 132, .ref 133, .ref 134, .ref 135, .ref 136, .ref 137]), .inr (0, [.ref 125, .ref 126, .ref 127, .ref 128, .ref 129, .int (HVCm (SVH (LysS v))), .int (HVSw (SVH (LysS v))), .ref 130]), .inl (0, 40, .inl (HVPr (SVH (LysS v)))), .inl (0, 40, .inl (HVLf (SVH (LysS v)))), .inl (0, 40, .inl (HVRt (SVH (LysS v)))), .inl (0, 40, .inl (HVUp (SVH (LysS v)))), .inl (0, 40, .inl (HVRk (SVH (LysS v)))), .inl (0, 40, .inl (HVPa (SVH (LysS v)))), .inl (0, 40, .inl (SVOw (LysS v))), .inl (0, 40, .inl (SVPg (LysS v))), .inl (0, 40, .inl (SVFt (LysS v))), .inl (0, 40, .inl (SVQu (LysS v))), .inl (0, 6, .inl (SVRo (LysS v))), .inl (0, 6, .inl (SVPd (LysS v))), .inl (2, 6, .inl (SVPs (LysS v)))]
def f_X8_cancel (v : Lys) (a : Int32) : Option ((Int32 ⊕ String) × Lys) :=
  bndT (f_X8_checkJob ((LysHs v), (LysS v)) a) (fun r2 =>
    bndT (f_X8_checkWaits ((LysHs v), (LysS v)) a) (fun r5 =>
      bnd2 (f_X1_keep ((LysY v), (LysS v))) fun r8 w9 =>
      if oob a 40 then none else
      bnd2 (f_X7_endJob (P_YV_SVB w9) a 2) fun r12 w13 =>
      (f_X7_jobsIn w13 ((SVQu (P_YV_SVB w9)) (Int32.toNatClampNeg a))).bind fun r15 =>
      some ((.inl r15), (Lys_sS (Lys_sY v (P_YV_SVA w9)) w13))
      ) (fun x => some (.inr x, v))
    ) (fun x => some (.inr x, v))
def f_X8_checkPriority (a : Int32) : Option ((Unit ⊕ String)) :=
  if a < 0 then
    some (.inr "java/lang/IllegalArgumentException")
  else
    if a ≤ 99 then
      some (.inl ())
    else
      some (.inr "java/lang/IllegalArgumentException")
def f_X8_changePriority (v : Lys) (a : Int32) (b : Int32) : Option ((Int32 ⊕ String) × Lys) :=
  bndT (f_X8_checkJob ((LysHs v), (LysS v)) a) (fun r2 =>
    bndT (f_X8_checkPriority b) (fun r5 =>
      bndT (f_X8_checkWaits ((LysHs v), (LysS v)) a) (fun r8 =>
        bnd2 (f_X1_keep ((LysY v), (LysS v))) fun r11 w12 =>
        if oob a 40 then none else
        if oob a 40 then none else
        bnd2 (f_X7_insertAgain (P_YV_SVB w12) a ((SVQu (P_YV_SVB w12)) (Int32.toNatClampNeg a)) b) fun r16 w17 =>
        some ((.inl ((HVPr (SVH (P_YV_SVB w12))) (Int32.toNatClampNeg a))), (Lys_sS (Lys_sY v (P_YV_SVA w12)) w17))
        ) (fun x => some (.inr x, v))
      ) (fun x => some (.inr x, v))
    ) (fun x => some (.inr x, v))
abbrev Lu : Type := Int32 × UV
def LuHs (v : Lu) : Int32 := v.1
def LuU (v : Lu) : UV := v.2
def Lu_sHs (v : Lu) (x : Int32) : Lu := (x, LuU v)
def Lu_sU (v : Lu) (x : UV) : Lu := (LuHs v, x)
def WLu (v : Lu) : List AC := [.inr (8, [.ref 1001000, .ref 1001001, .ref 1001002, .ref 1001003, .ref 1001004, .ref 1001005, .ref 1001006, .int (LuHs v), .ref 1, .ref 1001009]), .inr (6, [.ref 2, .ref 4, .ref 6]), .inr (2, [.ref 3, .int (NVCt (UVQs (LuU v)))]), .inl (1, 8, .inr (.inl (NVPk (UVQs (LuU v))))), .inr (2, [.ref 5, .int (NVCt (UVOs (LuU v)))]), .inl (1, 8, .inr (.inl (NVPk (UVOs (LuU v))))), .inl (0, 6, .inl (UVSp (LuU v)))]
def f_X8_checkOwner (v : Lu) (a : Int32) : Option ((Unit ⊕ String)) :=
  if a < 0 then
    some (.inr "java/lang/IndexOutOfBoundsException")
  else
    if (NVCt (UVOs (LuU v))) ≤ a then
      some (.inr "java/lang/IndexOutOfBoundsException")
    else
      if a < 8 then
        some (.inl ())
      else
        some (.inr "java/lang/IndexOutOfBoundsException")
def f_X8_checkQueue (v : Lu) (a : Int32) : Option ((Unit ⊕ String)) :=
  if a < 0 then
    some (.inr "java/lang/IndexOutOfBoundsException")
  else
    if (NVCt (UVQs (LuU v))) ≤ a then
      some (.inr "java/lang/IndexOutOfBoundsException")
    else
      if a < 6 then
        some (.inl ())
      else
        some (.inr "java/lang/IndexOutOfBoundsException")
def f_X8_checkTwoQueues (v : Lu) (a : Int32) (b : Int32) : Option ((Unit ⊕ String)) :=
  bndT (f_X8_checkQueue v a) (fun r2 =>
    bndT (f_X8_checkQueue v b) (fun r5 =>
      if a = b then
        some (.inr "java/lang/IllegalArgumentException")
      else
        some (.inl ())
      ) (fun x => some (.inr x))
    ) (fun x => some (.inr x))
def f_X8_comparisons (v : Ls) : Option (Int32) :=
  some (HVCm (SVH (LsS v)))
def f_X8_depth (v : Ls) (a : Int32) : Option ((Int32 ⊕ String)) :=
  bndT (f_X8_checkJob v a) (fun r2 =>
    bndT (f_X8_checkWaits v a) (fun r5 =>
      (f_X0_ancestors (SVH (LsS v)) a).bind fun r8 =>
      some (.inl r8)
      ) (fun x => some (.inr x))
    ) (fun x => some (.inr x))
def f_X8_errorCode (v : Lr) : Option (Int32) :=
  some (RVEk (LrR v))
def f_X8_errorOffset (v : Lr) : Option (Int32) :=
  some (RVEa (LrR v))
abbrev Lts : Type := Int32 × TV × SV
def LtsHs (v : Lts) : Int32 := v.1
def LtsT (v : Lts) : TV := v.2.1
def LtsS (v : Lts) : SV := v.2.2
def Lts_sHs (v : Lts) (x : Int32) : Lts := (x, LtsT v, LtsS v)
def Lts_sT (v : Lts) (x : TV) : Lts := (LtsHs v, x, LtsS v)
def Lts_sS (v : Lts) (x : SV) : Lts := (LtsHs v, LtsT v, x)
def WLts (v : Lts) : List AC := [.inr (8, [.ref 1001000, .ref 1, .ref 1001002, .ref 1001003, .ref 7, .ref 1001005, .ref 1001006, .int (LtsHs v), .ref 1001008, .ref 1001009]), .inr (5, [.ref 2, .ref 3, .ref 4, .ref 5, .ref 6, .int (TVCt (LtsT v))]), .inl (0, 30, .inl (TVK (LtsT v))), .inl (0, 30, .inl (TVA (LtsT v))), .inl (0, 30, .inl (TVB (LtsT v))), .inl (0, 30, .inl (TVC (LtsT v))), .inl (0, 30, .inl (TVD (LtsT v))), .inr (7, [.ref 8, .int (SVJc (LtsS v)), .ref 15, .ref 16, .ref 17, .ref 18, .ref 19, .ref 20, .ref 21]), .inr (0, [.ref 9, .ref 10, .ref 11, .ref 12, .ref 13, .int (HVCm (SVH (LtsS v))), .int (HVSw (SVH (LtsS v))), .ref 14]), .inl (0, 40, .inl (HVPr (SVH (LtsS v)))), .inl (0, 40, .inl (HVLf (SVH (LtsS v)))), .inl (0, 40, .inl (HVRt (SVH (LtsS v)))), .inl (0, 40, .inl (HVUp (SVH (LtsS v)))), .inl (0, 40, .inl (HVRk (SVH (LtsS v)))), .inl (0, 40, .inl (HVPa (SVH (LtsS v)))), .inl (0, 40, .inl (SVOw (LtsS v))), .inl (0, 40, .inl (SVPg (LtsS v))), .inl (0, 40, .inl (SVFt (LtsS v))), .inl (0, 40, .inl (SVQu (LtsS v))), .inl (0, 6, .inl (SVRo (LtsS v))), .inl (0, 6, .inl (SVPd (LtsS v))), .inl (2, 6, .inl (SVPs (LtsS v)))]
def f_X8_execute (v : Lts) (a : Int32) : Option (Int32 × Lts) :=
  if a < 0 then
    some (0, v)
  else
    if a < 30 then
      if oob a 30 then none else
      if oob a 30 then none else
      if oob a 30 then none else
      if ((TVK (LtsT v)) (Int32.toNatClampNeg a)) = 0 then
        if oob a 30 then none else
        if oob a 30 then none else
        bnd2 (f_X7_addJob (LtsS v) ((TVA (LtsT v)) (Int32.toNatClampNeg a)) ((TVB (LtsT v)) (Int32.toNatClampNeg a)) ((TVC (LtsT v)) (Int32.toNatClampNeg a)) ((TVD (LtsT v)) (Int32.toNatClampNeg a))) fun r10 w11 =>
        if r10 = (-1) then
          some (0, (Lts_sS v w11))
        else
          some (1, (Lts_sS v w11))
      else
      if ((TVK (LtsT v)) (Int32.toNatClampNeg a)) = 1 then
        (f_X7_obstacle (LtsS v) ((TVA (LtsT v)) (Int32.toNatClampNeg a))).bind fun r15 =>
        if r15 = 0 then
          if oob ((TVA (LtsT v)) (Int32.toNatClampNeg a)) 6 then none else
          bnd2 (f_X7_endJob (LtsS v) ((SVRo (LtsS v)) (Int32.toNatClampNeg ((TVA (LtsT v)) (Int32.toNatClampNeg a)))) 1) fun r20 w21 =>
          if r20 = 0 then
            some (0, (Lts_sS v w21))
          else
            some (1, (Lts_sS v w21))
        else
          some (0, v)
      else
      if ((TVK (LtsT v)) (Int32.toNatClampNeg a)) = 2 then
        bnd2 (f_X7_endJob (LtsS v) ((TVA (LtsT v)) (Int32.toNatClampNeg a)) 2) fun r25 w26 =>
        if ¬ (r25 = 0 ∨ r25 = 1) then none else
        some (r25, (Lts_sS v w26))
      else
      if ((TVK (LtsT v)) (Int32.toNatClampNeg a)) = 3 then
        (f_X7_waits (LtsS v) ((TVA (LtsT v)) (Int32.toNatClampNeg a))).bind fun r30 =>
        if r30 = 0 then
          some (0, v)
        else
          if oob ((TVA (LtsT v)) (Int32.toNatClampNeg a)) 40 then none else
          bnd2 (f_X7_insertAgain (LtsS v) ((TVA (LtsT v)) (Int32.toNatClampNeg a)) ((SVQu (LtsS v)) (Int32.toNatClampNeg ((TVA (LtsT v)) (Int32.toNatClampNeg a)))) ((TVB (LtsT v)) (Int32.toNatClampNeg a))) fun r35 w36 =>
          if r35 = 0 then
            some (0, (Lts_sS v w36))
          else
            some (1, (Lts_sS v w36))
      else
      if ((TVK (LtsT v)) (Int32.toNatClampNeg a)) = 4 then
        (f_X7_canMove (LtsS v) ((TVA (LtsT v)) (Int32.toNatClampNeg a)) ((TVB (LtsT v)) (Int32.toNatClampNeg a))).bind fun r40 =>
        if r40 = 0 then
          some (0, v)
        else
          if oob ((TVA (LtsT v)) (Int32.toNatClampNeg a)) 40 then none else
          bnd2 (f_X7_insertAgain (LtsS v) ((TVA (LtsT v)) (Int32.toNatClampNeg a)) ((TVB (LtsT v)) (Int32.toNatClampNeg a)) ((HVPr (SVH (LtsS v))) (Int32.toNatClampNeg ((TVA (LtsT v)) (Int32.toNatClampNeg a))))) fun r45 w46 =>
          if r45 = 0 then
            some (0, (Lts_sS v w46))
          else
            some (1, (Lts_sS v w46))
      else
      if ((TVK (LtsT v)) (Int32.toNatClampNeg a)) = 5 then
        bnd2 (f_X7_joinQueues (LtsS v) ((TVA (LtsT v)) (Int32.toNatClampNeg a)) ((TVB (LtsT v)) (Int32.toNatClampNeg a))) fun r50 w51 =>
        if ¬ (r50 = 0 ∨ r50 = 1) then none else
        some (r50, (Lts_sS v w51))
      else
      if ((TVK (LtsT v)) (Int32.toNatClampNeg a)) = 6 then
        bnd2 (f_X7_holdQueue (LtsS v) ((TVA (LtsT v)) (Int32.toNatClampNeg a)) 1) fun r55 w56 =>
        if ¬ (r55 = 0 ∨ r55 = 1) then none else
        some (r55, (Lts_sS v w56))
      else
      bnd2 (f_X7_holdQueue (LtsS v) ((TVA (LtsT v)) (Int32.toNatClampNeg a)) 0) fun r59 w60 =>
      if ¬ (r59 = 0 ∨ r59 = 1) then none else
      some (r59, (Lts_sS v w60))
    else
      some (0, v)
abbrev Lsu : Type := Int32 × SV × UV
def LsuHs (v : Lsu) : Int32 := v.1
def LsuS (v : Lsu) : SV := v.2.1
def LsuU (v : Lsu) : UV := v.2.2
def Lsu_sHs (v : Lsu) (x : Int32) : Lsu := (x, LsuS v, LsuU v)
def Lsu_sS (v : Lsu) (x : SV) : Lsu := (LsuHs v, x, LsuU v)
def Lsu_sU (v : Lsu) (x : UV) : Lsu := (LsuHs v, LsuS v, x)
def WLsu (v : Lsu) : List AC := [.inr (8, [.ref 1001000, .ref 1001001, .ref 1001002, .ref 1001003, .ref 1, .ref 1001005, .ref 1001006, .int (LsuHs v), .ref 16, .ref 1001009]), .inr (7, [.ref 2, .int (SVJc (LsuS v)), .ref 9, .ref 10, .ref 11, .ref 12, .ref 13, .ref 14, .ref 15]), .inr (0, [.ref 3, .ref 4, .ref 5, .ref 6, .ref 7, .int (HVCm (SVH (LsuS v))), .int (HVSw (SVH (LsuS v))), .ref 8]), .inl (0, 40, .inl (HVPr (SVH (LsuS v)))), .inl (0, 40, .inl (HVLf (SVH (LsuS v)))), .inl (0, 40, .inl (HVRt (SVH (LsuS v)))), .inl (0, 40, .inl (HVUp (SVH (LsuS v)))), .inl (0, 40, .inl (HVRk (SVH (LsuS v)))), .inl (0, 40, .inl (HVPa (SVH (LsuS v)))), .inl (0, 40, .inl (SVOw (LsuS v))), .inl (0, 40, .inl (SVPg (LsuS v))), .inl (0, 40, .inl (SVFt (LsuS v))), .inl (0, 40, .inl (SVQu (LsuS v))), .inl (0, 6, .inl (SVRo (LsuS v))), .inl (0, 6, .inl (SVPd (LsuS v))), .inl (2, 6, .inl (SVPs (LsuS v))), .inr (6, [.ref 17, .ref 19, .ref 21]), .inr (2, [.ref 18, .int (NVCt (UVQs (LsuU v)))]), .inl (1, 8, .inr (.inl (NVPk (UVQs (LsuU v))))), .inr (2, [.ref 20, .int (NVCt (UVOs (LsuU v)))]), .inl (1, 8, .inr (.inl (NVPk (UVOs (LsuU v))))), .inl (0, 6, .inl (UVSp (LsuU v)))]
def f_X8_height (v : Lsu) (a : Int32) : Option ((Int32 ⊕ String)) :=
  bndT (f_X8_checkQueue ((LsuHs v), (LsuU v)) a) (fun r2 =>
    (f_X7_longestPath (LsuS v) a).bind fun r5 =>
    some (.inl r5)
    ) (fun x => some (.inr x))
def f_X8_isCancelled (v : Ls) (a : Int32) : Option ((Int32 ⊕ String)) :=
  bndT (f_X8_checkJob v a) (fun r2 =>
    if oob a 40 then none else
    if ((SVFt (LsS v)) (Int32.toNatClampNeg a)) = 2 then
      some (.inl 1)
    else
      some (.inl 0)
    ) (fun x => some (.inr x))
abbrev Lscu : Type := Int32 × SV × SV × UV
def LscuHs (v : Lscu) : Int32 := v.1
def LscuS (v : Lscu) : SV := v.2.1
def LscuC (v : Lscu) : SV := v.2.2.1
def LscuU (v : Lscu) : UV := v.2.2.2
def Lscu_sHs (v : Lscu) (x : Int32) : Lscu := (x, LscuS v, LscuC v, LscuU v)
def Lscu_sS (v : Lscu) (x : SV) : Lscu := (LscuHs v, x, LscuC v, LscuU v)
def Lscu_sC (v : Lscu) (x : SV) : Lscu := (LscuHs v, LscuS v, x, LscuU v)
def Lscu_sU (v : Lscu) (x : UV) : Lscu := (LscuHs v, LscuS v, LscuC v, x)
def WLscu (v : Lscu) : List AC := [.inr (8, [.ref 1001000, .ref 1001001, .ref 1001002, .ref 1001003, .ref 1, .ref 16, .ref 1001006, .int (LscuHs v), .ref 31, .ref 1001009]), .inr (7, [.ref 2, .int (SVJc (LscuS v)), .ref 9, .ref 10, .ref 11, .ref 12, .ref 13, .ref 14, .ref 15]), .inr (0, [.ref 3, .ref 4, .ref 5, .ref 6, .ref 7, .int (HVCm (SVH (LscuS v))), .int (HVSw (SVH (LscuS v))), .ref 8]), .inl (0, 40, .inl (HVPr (SVH (LscuS v)))), .inl (0, 40, .inl (HVLf (SVH (LscuS v)))), .inl (0, 40, .inl (HVRt (SVH (LscuS v)))), .inl (0, 40, .inl (HVUp (SVH (LscuS v)))), .inl (0, 40, .inl (HVRk (SVH (LscuS v)))), .inl (0, 40, .inl (HVPa (SVH (LscuS v)))), .inl (0, 40, .inl (SVOw (LscuS v))), .inl (0, 40, .inl (SVPg (LscuS v))), .inl (0, 40, .inl (SVFt (LscuS v))), .inl (0, 40, .inl (SVQu (LscuS v))), .inl (0, 6, .inl (SVRo (LscuS v))), .inl (0, 6, .inl (SVPd (LscuS v))), .inl (2, 6, .inl (SVPs (LscuS v))), .inr (7, [.ref 17, .int (SVJc (LscuC v)), .ref 24, .ref 25, .ref 26, .ref 27, .ref 28, .ref 29, .ref 30]), .inr (0, [.ref 18, .ref 19, .ref 20, .ref 21, .ref 22, .int (HVCm (SVH (LscuC v))), .int (HVSw (SVH (LscuC v))), .ref 23]), .inl (0, 40, .inl (HVPr (SVH (LscuC v)))), .inl (0, 40, .inl (HVLf (SVH (LscuC v)))), .inl (0, 40, .inl (HVRt (SVH (LscuC v)))), .inl (0, 40, .inl (HVUp (SVH (LscuC v)))), .inl (0, 40, .inl (HVRk (SVH (LscuC v)))), .inl (0, 40, .inl (HVPa (SVH (LscuC v)))), .inl (0, 40, .inl (SVOw (LscuC v))), .inl (0, 40, .inl (SVPg (LscuC v))), .inl (0, 40, .inl (SVFt (LscuC v))), .inl (0, 40, .inl (SVQu (LscuC v))), .inl (0, 6, .inl (SVRo (LscuC v))), .inl (0, 6, .inl (SVPd (LscuC v))), .inl (2, 6, .inl (SVPs (LscuC v))), .inr (6, [.ref 32, .ref 34, .ref 36]), .inr (2, [.ref 33, .int (NVCt (UVQs (LscuU v)))]), .inl (1, 8, .inr (.inl (NVPk (UVQs (LscuU v))))), .inr (2, [.ref 35, .int (NVCt (UVOs (LscuU v)))]), .inl (1, 8, .inr (.inl (NVPk (UVOs (LscuU v))))), .inl (0, 6, .inl (UVSp (LscuU v)))]
def f_X8_isConsistent_h51 : Nat → Int32 → Lscu → Option (Int32 × Lscu)
  | 0, _, _ => none
  | n + 1, l1, v =>
    if (NVCt (UVQs (LscuU v))) ≤ l1 then
      some (1, v)
    else
      bnd2 (f_X7_empties ((LscuS v), (SVH (LscuC v))) l1) fun r7 w8 =>
      if r7 = 0 then
        some (0, (Lscu_sC (Lscu_sS v (P_SV_HVA w8)) (SV_sH (LscuC v) (P_SV_HVB w8))))
      else
        f_X8_isConsistent_h51 n (l1 + 1) (Lscu_sC (Lscu_sS v (P_SV_HVA w8)) (SV_sH (LscuC v) (P_SV_HVB w8)))
def f_X8_isConsistent_h2 : Nat → Int32 → Lscu → Option (Int32 × Lscu)
  | 0, _, _ => none
  | n + 1, l1, v =>
    if (SVJc (LscuS v)) ≤ l1 then
      bnd2 (f_X7_copyFrom ((LscuC v), (LscuS v))) fun r3 w4 =>
      f_X8_isConsistent_h51 FU 0 (Lscu_sC (Lscu_sS v (P_SV_SVB w4)) (P_SV_SVA w4))
    else
      if 40 ≤ l1 then
        bnd2 (f_X7_copyFrom ((LscuC v), (LscuS v))) fun r12 w13 =>
        f_X8_isConsistent_h51 FU 0 (Lscu_sC (Lscu_sS v (P_SV_SVB w13)) (P_SV_SVA w13))
      else
        (f_X7_isSound (LscuS v) l1).bind fun r15 =>
        if r15 = 0 then
          some (0, v)
        else
          f_X8_isConsistent_h2 n (l1 + 1) v
def f_X8_isConsistent (v : Lscu) : Option (Int32 × Lscu) :=
  f_X8_isConsistent_h2 FU 0 v
def f_X8_isPaused (v : Lsu) (a : Int32) : Option ((Int32 ⊕ String)) :=
  bndT (f_X8_checkQueue ((LsuHs v), (LsuU v)) a) (fun r2 =>
    if oob a 6 then none else
    if ¬ (((SVPs (LsuS v)) (Int32.toNatClampNeg a)) = 0 ∨ ((SVPs (LsuS v)) (Int32.toNatClampNeg a)) = 1) then none else
    some (.inl ((SVPs (LsuS v)) (Int32.toNatClampNeg a)))
    ) (fun x => some (.inr x))
def f_X8_isPrinted (v : Ls) (a : Int32) : Option ((Int32 ⊕ String)) :=
  bndT (f_X8_checkJob v a) (fun r2 =>
    if oob a 40 then none else
    if ((SVFt (LsS v)) (Int32.toNatClampNeg a)) = 1 then
      some (.inl 1)
    else
      some (.inl 0)
    ) (fun x => some (.inr x))
def f_X8_isWaiting (v : Ls) (a : Int32) : Option ((Int32 ⊕ String)) :=
  bndT (f_X8_checkJob v a) (fun r2 =>
    if oob a 40 then none else
    if ((SVFt (LsS v)) (Int32.toNatClampNeg a)) = 0 then
      some (.inl 1)
    else
      some (.inl 0)
    ) (fun x => some (.inr x))
def f_X8_jobAt_h36 : Nat → Int32 → Int32 → Int32 → Int32 → Lsu → Option ((Int32 ⊕ String))
  | 0, _, _, _, _, _ => none
  | n + 1, l1, l2, l3, l4, v =>
    if l2 ≤ l4 then
      some (.inl l3)
    else
      (f_X7_firstAfter (LsuS v) l1 l3).bind fun r14 =>
      f_X8_jobAt_h36 n l1 l2 r14 (l4 + 1) v
def f_X8_jobAt (v : Lsu) (a : Int32) (b : Int32) : Option ((Int32 ⊕ String)) :=
  bndT (f_X8_checkQueue ((LsuHs v), (LsuU v)) a) (fun r2 =>
    if b < 0 then
      some (.inl (-1))
    else
      (f_X7_jobsIn (LsuS v) a).bind fun r6 =>
      if b < r6 then
        (f_X7_firstAfter (LsuS v) a (-1)).bind fun r10 =>
        f_X8_jobAt_h36 FU a b r10 0 v
      else
        some (.inl (-1))
    ) (fun x => some (.inr x))
def f_X8_jobCount (v : Ls) : Option (Int32) :=
  some (SVJc (LsS v))
def f_X8_leastLoadedQueue_h21 : Nat → Int32 → Int32 → Int32 → Lsu → Option (Int32)
  | 0, _, _, _, _ => none
  | n + 1, l1, l2, l3, v =>
    if (NVCt (UVQs (LsuU v))) ≤ l3 then
      some l1
    else
      (f_X7_pagesIn (LsuS v) l3).bind fun r9 =>
      (f_X6_minutes (LsuU v) l3 r9).bind fun r12 =>
      if l2 ≤ r12 then
        f_X8_leastLoadedQueue_h21 n l1 l2 (l3 + 1) v
      else
        f_X8_leastLoadedQueue_h21 n l3 r12 (l3 + 1) v
def f_X8_leastLoadedQueue (v : Lsu) : Option (Int32) :=
  (f_X7_pagesIn (LsuS v) 0).bind fun r2 =>
  (f_X6_minutes (LsuU v) 0 r2).bind fun r5 =>
  f_X8_leastLoadedQueue_h21 FU 0 r5 1 v
def f_X8_leftChild (v : Ls) (a : Int32) : Option ((Int32 ⊕ String)) :=
  bndT (f_X8_checkJob v a) (fun r2 =>
    if oob a 40 then none else
    some (.inl ((HVLf (SVH (LsS v))) (Int32.toNatClampNeg a)))
    ) (fun x => some (.inr x))
abbrev Lrcd : Type := Int32 × RV × SV × UV
def LrcdHs (v : Lrcd) : Int32 := v.1
def LrcdR (v : Lrcd) : RV := v.2.1
def LrcdC (v : Lrcd) : SV := v.2.2.1
def LrcdD (v : Lrcd) : UV := v.2.2.2
def Lrcd_sHs (v : Lrcd) (x : Int32) : Lrcd := (x, LrcdR v, LrcdC v, LrcdD v)
def Lrcd_sR (v : Lrcd) (x : RV) : Lrcd := (LrcdHs v, x, LrcdC v, LrcdD v)
def Lrcd_sC (v : Lrcd) (x : SV) : Lrcd := (LrcdHs v, LrcdR v, x, LrcdD v)
def Lrcd_sD (v : Lrcd) (x : UV) : Lrcd := (LrcdHs v, LrcdR v, LrcdC v, x)
def WLrcd (v : Lrcd) : List AC := [.inr (8, [.ref 1, .ref 1001001, .ref 1001002, .ref 1001003, .ref 1001004, .ref 3, .ref 1001006, .int (LrcdHs v), .ref 1001008, .ref 18]), .inr (4, [.ref 2, .int (RVLn (LrcdR v)), .int (RVEn (LrcdR v)), .int (RVNx (LrcdR v)), .int (RVTk (LrcdR v)), .int (RVAt (LrcdR v)), .long (RVWd (LrcdR v)), .int (RVVa (LrcdR v)), .int (RVEk (LrcdR v)), .int (RVEa (LrcdR v))]), .inl (0, 600, .inl (RVTx (LrcdR v))), .inr (7, [.ref 4, .int (SVJc (LrcdC v)), .ref 11, .ref 12, .ref 13, .ref 14, .ref 15, .ref 16, .ref 17]), .inr (0, [.ref 5, .ref 6, .ref 7, .ref 8, .ref 9, .int (HVCm (SVH (LrcdC v))), .int (HVSw (SVH (LrcdC v))), .ref 10]), .inl (0, 40, .inl (HVPr (SVH (LrcdC v)))), .inl (0, 40, .inl (HVLf (SVH (LrcdC v)))), .inl (0, 40, .inl (HVRt (SVH (LrcdC v)))), .inl (0, 40, .inl (HVUp (SVH (LrcdC v)))), .inl (0, 40, .inl (HVRk (SVH (LrcdC v)))), .inl (0, 40, .inl (HVPa (SVH (LrcdC v)))), .inl (0, 40, .inl (SVOw (LrcdC v))), .inl (0, 40, .inl (SVPg (LrcdC v))), .inl (0, 40, .inl (SVFt (LrcdC v))), .inl (0, 40, .inl (SVQu (LrcdC v))), .inl (0, 6, .inl (SVRo (LrcdC v))), .inl (0, 6, .inl (SVPd (LrcdC v))), .inl (2, 6, .inl (SVPs (LrcdC v))), .inr (6, [.ref 19, .ref 21, .ref 23]), .inr (2, [.ref 20, .int (NVCt (UVQs (LrcdD v)))]), .inl (1, 8, .inr (.inl (NVPk (UVQs (LrcdD v))))), .inr (2, [.ref 22, .int (NVCt (UVOs (LrcdD v)))]), .inl (1, 8, .inr (.inl (NVPk (UVOs (LrcdD v))))), .inl (0, 6, .inl (UVSp (LrcdD v)))]
def f_X8_readJob_j18 (v : Lrcd) : Option (Unit × Lrcd) :=
  bnd2 (f_X4_knownName ((LrcdR v), (UVQs (LrcdD v)))) fun r6 w7 =>
  bnd2 (f_X4_knownName ((P_RV_NVA w7), (UVOs (LrcdD v)))) fun r9 w10 =>
  bnd2 (f_X4_number (P_RV_NVA w10) 0 99) fun r12 w13 =>
  bnd2 (f_X4_number w13 1 99) fun r15 w16 =>
  bnd2 (f_X4_semicolon w16) fun r18 w19 =>
  (f_X4_isValid w19).bind fun r21 =>
  if r21 = 0 then
    some ((), (Lrcd_sD (Lrcd_sR v w19) (UV_sOs (UV_sQs (LrcdD v) (P_RV_NVB w7)) (P_RV_NVB w10))))
  else
    bnd2 (f_X7_addJob (LrcdC v) r6 r9 r12 r15) fun r25 w26 =>
    some ((), ((LrcdHs v), w19, w26, (UV_sOs (UV_sQs (LrcdD v) (P_RV_NVB w7)) (P_RV_NVB w10))))
def f_X8_readJob (v : Lrcd) : Option (Unit × Lrcd) :=
  (f_X7_isFull (LrcdC v)).bind fun r2 =>
  if r2 = 0 then
    f_X8_readJob_j18 v
  else
    bnd2 (f_X4_fail (LrcdR v) 4) fun r28 w29 =>
    f_X8_readJob_j18 (Lrcd_sR v w29)
abbrev Lrd : Type := Int32 × RV × UV
def LrdHs (v : Lrd) : Int32 := v.1
def LrdR (v : Lrd) : RV := v.2.1
def LrdD (v : Lrd) : UV := v.2.2
def Lrd_sHs (v : Lrd) (x : Int32) : Lrd := (x, LrdR v, LrdD v)
def Lrd_sR (v : Lrd) (x : RV) : Lrd := (LrdHs v, x, LrdD v)
def Lrd_sD (v : Lrd) (x : UV) : Lrd := (LrdHs v, LrdR v, x)
def WLrd (v : Lrd) : List AC := [.inr (8, [.ref 1, .ref 1001001, .ref 1001002, .ref 1001003, .ref 1001004, .ref 1001005, .ref 1001006, .int (LrdHs v), .ref 1001008, .ref 3]), .inr (4, [.ref 2, .int (RVLn (LrdR v)), .int (RVEn (LrdR v)), .int (RVNx (LrdR v)), .int (RVTk (LrdR v)), .int (RVAt (LrdR v)), .long (RVWd (LrdR v)), .int (RVVa (LrdR v)), .int (RVEk (LrdR v)), .int (RVEa (LrdR v))]), .inl (0, 600, .inl (RVTx (LrdR v))), .inr (6, [.ref 4, .ref 6, .ref 8]), .inr (2, [.ref 5, .int (NVCt (UVQs (LrdD v)))]), .inl (1, 8, .inr (.inl (NVPk (UVQs (LrdD v))))), .inr (2, [.ref 7, .int (NVCt (UVOs (LrdD v)))]), .inl (1, 8, .inr (.inl (NVPk (UVOs (LrdD v))))), .inl (0, 6, .inl (UVSp (LrdD v)))]
def f_X8_readOwner (v : Lrd) : Option (Unit × Lrd) :=
  if (NVCt (UVOs (LrdD v))) < 8 then
    bnd2 (f_X4_newName ((LrdR v), (UVOs (LrdD v)))) fun r3 w4 =>
    bnd2 (f_X4_semicolon (P_RV_NVA w4)) fun r6 w7 =>
    (f_X4_isValid w7).bind fun r9 =>
    if r9 = 0 then
      some ((), (Lrd_sD (Lrd_sR v w7) (UV_sOs (LrdD v) (P_RV_NVB w4))))
    else
      bnd2 (f_X2_add (P_RV_NVB w4) r3) fun r13 w14 =>
      some ((), (Lrd_sD (Lrd_sR v w7) (UV_sOs (LrdD v) w14)))
  else
    bnd2 (f_X4_fail (LrdR v) 4) fun r16 w17 =>
    bnd2 (f_X4_newName (w17, (UVOs (LrdD v)))) fun r19 w20 =>
    bnd2 (f_X4_semicolon (P_RV_NVA w20)) fun r22 w23 =>
    (f_X4_isValid w23).bind fun r25 =>
    if r25 = 0 then
      some ((), (Lrd_sD (Lrd_sR v w23) (UV_sOs (LrdD v) (P_RV_NVB w20))))
    else
      bnd2 (f_X2_add (P_RV_NVB w20) r19) fun r29 w30 =>
      some ((), (Lrd_sD (Lrd_sR v w23) (UV_sOs (LrdD v) w30)))
def f_X8_readQueue (v : Lrd) : Option (Unit × Lrd) :=
  if (NVCt (UVQs (LrdD v))) < 6 then
    bnd2 (f_X4_newName ((LrdR v), (UVQs (LrdD v)))) fun r3 w4 =>
    bnd2 (f_X4_number (P_RV_NVA w4) 1 50) fun r6 w7 =>
    bnd2 (f_X4_semicolon w7) fun r9 w10 =>
    (f_X4_isValid w10).bind fun r12 =>
    if r12 = 0 then
      some ((), (Lrd_sD (Lrd_sR v w10) (UV_sQs (LrdD v) (P_RV_NVB w4))))
    else
      bnd2 (f_X6_addQueue (UV_sQs (LrdD v) (P_RV_NVB w4)) r3 r6) fun r16 w17 =>
      some ((), (Lrd_sD (Lrd_sR v w10) w17))
  else
    bnd2 (f_X4_fail (LrdR v) 4) fun r19 w20 =>
    bnd2 (f_X4_newName (w20, (UVQs (LrdD v)))) fun r22 w23 =>
    bnd2 (f_X4_number (P_RV_NVA w23) 1 50) fun r25 w26 =>
    bnd2 (f_X4_semicolon w26) fun r28 w29 =>
    (f_X4_isValid w29).bind fun r31 =>
    if r31 = 0 then
      some ((), (Lrd_sD (Lrd_sR v w29) (UV_sQs (LrdD v) (P_RV_NVB w23))))
    else
      bnd2 (f_X6_addQueue (UV_sQs (LrdD v) (P_RV_NVB w23)) r22 r25) fun r35 w36 =>
      some ((), (Lrd_sD (Lrd_sR v w29) w36))
def f_X8_readSetup_j148 (v : Lrcd) : Option (Int32 × Lrcd) :=
  (f_X4_isValid (LrcdR v)).bind fun r16 =>
  if ¬ (r16 = 0 ∨ r16 = 1) then none else
  some (r16, v)
def f_X8_readSetup_j140 (v : Lrcd) : Option (Int32 × Lrcd) :=
  bnd2 (f_X4_fail (LrcdR v) 5) fun r13 w14 =>
  f_X8_readSetup_j148 (Lrcd_sR v w14)
def f_X8_readSetup_j114 (v : Lrcd) : Option (Int32 × Lrcd) :=
  if (NVCt (UVQs (LrcdD v))) = 0 then
    f_X8_readSetup_j140 v
  else
    if (NVCt (UVOs (LrcdD v))) = 0 then
      f_X8_readSetup_j140 v
    else
      f_X8_readSetup_j148 v
def f_X8_readSetup_h23 : Nat → Int32 → Lrcd → Option (Int32 × Lrcd)
  | 0, _, _ => none
  | n + 1, l1, v =>
    if 600 < l1 then
      f_X8_readSetup_j114 v
    else
      bnd2 (f_X4_startsStatement (LrcdR v)) fun r21 w22 =>
      if r21 = 0 then
        f_X8_readSetup_j114 (Lrcd_sR v w22)
      else
        (f_X4_isWord w22 3).bind fun r25 =>
        if r25 = 0 then
          (f_X4_isWord w22 4).bind fun r29 =>
          if r29 = 0 then
            (f_X4_isWord w22 5).bind fun r33 =>
            if r33 = 0 then
              bnd2 (f_X4_fail w22 1) fun r37 w38 =>
              f_X8_readSetup_h23 n (l1 + 1) (Lrcd_sR v w38)
            else
              bnd2 (f_X8_readJob (Lrcd_sR v w22)) fun r40 w41 =>
              f_X8_readSetup_h23 n (l1 + 1) w41
          else
            bnd2 (f_X8_readOwner ((LrcdHs v), w22, (LrcdD v))) fun r43 w44 =>
            f_X8_readSetup_h23 n (l1 + 1) ((LrdHs w44), (LrdR w44), (LrcdC v), (LrdD w44))
        else
          bnd2 (f_X8_readQueue ((LrcdHs v), w22, (LrcdD v))) fun r46 w47 =>
          f_X8_readSetup_h23 n (l1 + 1) ((LrdHs w47), (LrdR w47), (LrcdC v), (LrdD w47))
def f_X8_readSetup (v : Lrcd) : Option (Int32 × Lrcd) :=
  bnd2 (f_X6_clear (LrcdD v)) fun r2 w3 =>
  bnd2 (f_X7_clear (LrcdC v)) fun r5 w6 =>
  bnd2 (f_X4_begin (LrcdR v)) fun r8 w9 =>
  f_X8_readSetup_h23 FU 0 ((LrcdHs v), w9, w6, w3)
abbrev Lryscud : Type := Int32 × RV × YV × SV × SV × UV × UV
def LryscudHs (v : Lryscud) : Int32 := v.1
def LryscudR (v : Lryscud) : RV := v.2.1
def LryscudY (v : Lryscud) : YV := v.2.2.1
def LryscudS (v : Lryscud) : SV := v.2.2.2.1
def LryscudC (v : Lryscud) : SV := v.2.2.2.2.1
def LryscudU (v : Lryscud) : UV := v.2.2.2.2.2.1
def LryscudD (v : Lryscud) : UV := v.2.2.2.2.2.2
def Lryscud_sHs (v : Lryscud) (x : Int32) : Lryscud := (x, LryscudR v, LryscudY v, LryscudS v, LryscudC v, LryscudU v, LryscudD v)
def Lryscud_sR (v : Lryscud) (x : RV) : Lryscud := (LryscudHs v, x, LryscudY v, LryscudS v, LryscudC v, LryscudU v, LryscudD v)
def Lryscud_sY (v : Lryscud) (x : YV) : Lryscud := (LryscudHs v, LryscudR v, x, LryscudS v, LryscudC v, LryscudU v, LryscudD v)
def Lryscud_sS (v : Lryscud) (x : SV) : Lryscud := (LryscudHs v, LryscudR v, LryscudY v, x, LryscudC v, LryscudU v, LryscudD v)
def Lryscud_sC (v : Lryscud) (x : SV) : Lryscud := (LryscudHs v, LryscudR v, LryscudY v, LryscudS v, x, LryscudU v, LryscudD v)
def Lryscud_sU (v : Lryscud) (x : UV) : Lryscud := (LryscudHs v, LryscudR v, LryscudY v, LryscudS v, LryscudC v, x, LryscudD v)
def Lryscud_sD (v : Lryscud) (x : UV) : Lryscud := (LryscudHs v, LryscudR v, LryscudY v, LryscudS v, LryscudC v, LryscudU v, x)
def WLryscud (v : Lryscud) : List AC := [.inr (8, [.ref 1, .ref 1001001, .ref 1001002, .ref 3, .ref 125, .ref 140, .ref 1001006, .int (LryscudHs v), .ref 155, .ref 161]), .inr (4, [.ref 2, .int (RVLn (LryscudR v)), .int (RVEn (LryscudR v)), .int (RVNx (LryscudR v)), .int (RVTk (LryscudR v)), .int (RVAt (LryscudR v)), .long (RVWd (LryscudR v)), .int (RVVa (LryscudR v)), .int (RVEk (LryscudR v)), .int (RVEa (LryscudR v))]), .inl (0, 600, .inl (RVTx (LryscudR v))), .inr (1, [.ref 4, .int (YVCt (LryscudY v)), .int (YVNx (LryscudY v))]), .inl (4, 8, .inr (.inr (.inr (.inr (hA 5))))), .inr (7, [.ref 6, .int (SVJc ((YVKs (LryscudY v)) 0)), .ref 13, .ref 14, .ref 15, .ref 16, .ref 17, .ref 18, .ref 19]), .inr (0, [.ref 7, .ref 8, .ref 9, .ref 10, .ref 11, .int (HVCm (SVH ((YVKs (LryscudY v)) 0))), .int (HVSw (SVH ((YVKs (LryscudY v)) 0))), .ref 12]), .inl (0, 40, .inl (HVPr (SVH ((YVKs (LryscudY v)) 0)))), .inl (0, 40, .inl (HVLf (SVH ((YVKs (LryscudY v)) 0)))), .inl (0, 40, .inl (HVRt (SVH ((YVKs (LryscudY v)) 0)))), .inl (0, 40, .inl (HVUp (SVH ((YVKs (LryscudY v)) 0)))), .inl (0, 40, .inl (HVRk (SVH ((YVKs (LryscudY v)) 0)))), .inl (0, 40, .inl (HVPa (SVH ((YVKs (LryscudY v)) 0)))), .inl (0, 40, .inl (SVOw ((YVKs (LryscudY v)) 0))), .inl (0, 40, .inl (SVPg ((YVKs (LryscudY v)) 0))), .inl (0, 40, .inl (SVFt ((YVKs (LryscudY v)) 0))), .inl (0, 40, .inl (SVQu ((YVKs (LryscudY v)) 0))), .inl (0, 6, .inl (SVRo ((YVKs (LryscudY v)) 0))), .inl (0, 6, .inl (SVPd ((YVKs (LryscudY v)) 0))), .inl (2, 6, .inl (SVPs ((YVKs (LryscudY v)) 0))), .inr (7, [.ref 21, .int (SVJc ((YVKs (LryscudY v)) 1)), .ref 28, .ref 29, .ref 30, .ref 31, .ref 32, .ref 33, .ref 34]), .inr (0, [.ref 22, .ref 23, .ref 24, .ref 25, .ref 26, .int (HVCm (SVH ((YVKs (LryscudY v)) 1))), .int (HVSw (SVH ((YVKs (LryscudY v)) 1))), .ref 27]), .inl (0, 40, .inl (HVPr (SVH ((YVKs (LryscudY v)) 1)))), .inl (0, 40, .inl (HVLf (SVH ((YVKs (LryscudY v)) 1)))), .inl (0, 40, .inl (HVRt (SVH ((YVKs (LryscudY v)) 1)))), .inl (0, 40, .inl (HVUp (SVH ((YVKs (LryscudY v)) 1)))), .inl (0, 40, .inl (HVRk (SVH ((YVKs (LryscudY v)) 1)))), .inl (0, 40, .inl (HVPa (SVH ((YVKs (LryscudY v)) 1)))), .inl (0, 40, .inl (SVOw ((YVKs (LryscudY v)) 1))), .inl (0, 40, .inl (SVPg ((YVKs (LryscudY v)) 1))), .inl (0, 40, .inl (SVFt ((YVKs (LryscudY v)) 1))), .inl (0, 40, .inl (SVQu ((YVKs (LryscudY v)) 1))), .inl (0, 6, .inl (SVRo ((YVKs (LryscudY v)) 1))), .inl (0, 6, .inl (SVPd ((YVKs (LryscudY v)) 1))), .inl (2, 6, .inl (SVPs ((YVKs (LryscudY v)) 1))), .inr (7, [.ref 36, .int (SVJc ((YVKs (LryscudY v)) 2)), .ref 43, .ref 44, .ref 45, .ref 46, .ref 47, .ref 48, .ref 49]), .inr (0, [.ref 37, .ref 38, .ref 39, .ref 40, .ref 41, .int (HVCm (SVH ((YVKs (LryscudY v)) 2))), .int (HVSw (SVH ((YVKs (LryscudY v)) 2))), .ref 42]), .inl (0, 40, .inl (HVPr (SVH ((YVKs (LryscudY v)) 2)))), .inl (0, 40, .inl (HVLf (SVH ((YVKs (LryscudY v)) 2)))), .inl (0, 40, .inl (HVRt (SVH ((YVKs (LryscudY v)) 2)))), .inl (0, 40, .inl (HVUp (SVH ((YVKs (LryscudY v)) 2)))), .inl (0, 40, .inl (HVRk (SVH ((YVKs (LryscudY v)) 2)))), .inl (0, 40, .inl (HVPa (SVH ((YVKs (LryscudY v)) 2)))), .inl (0, 40, .inl (SVOw ((YVKs (LryscudY v)) 2))), .inl (0, 40, .inl (SVPg ((YVKs (LryscudY v)) 2))), .inl (0, 40, .inl (SVFt ((YVKs (LryscudY v)) 2))), .inl (0, 40, .inl (SVQu ((YVKs (LryscudY v)) 2))), .inl (0, 6, .inl (SVRo ((YVKs (LryscudY v)) 2))), .inl (0, 6, .inl (SVPd ((YVKs (LryscudY v)) 2))), .inl (2, 6, .inl (SVPs ((YVKs (LryscudY v)) 2))), .inr (7, [.ref 51, .int (SVJc ((YVKs (LryscudY v)) 3)), .ref 58, .ref 59, .ref 60, .ref 61, .ref 62, .ref 63, .ref 64]), .inr (0, [.ref 52, .ref 53, .ref 54, .ref 55, .ref 56, .int (HVCm (SVH ((YVKs (LryscudY v)) 3))), .int (HVSw (SVH ((YVKs (LryscudY v)) 3))), .ref 57]), .inl (0, 40, .inl (HVPr (SVH ((YVKs (LryscudY v)) 3)))), .inl (0, 40, .inl (HVLf (SVH ((YVKs (LryscudY v)) 3)))), .inl (0, 40, .inl (HVRt (SVH ((YVKs (LryscudY v)) 3)))), .inl (0, 40, .inl (HVUp (SVH ((YVKs (LryscudY v)) 3)))), .inl (0, 40, .inl (HVRk (SVH ((YVKs (LryscudY v)) 3)))), .inl (0, 40, .inl (HVPa (SVH ((YVKs (LryscudY v)) 3)))), .inl (0, 40, .inl (SVOw ((YVKs (LryscudY v)) 3))), .inl (0, 40, .inl (SVPg ((YVKs (LryscudY v)) 3))), .inl (0, 40, .inl (SVFt ((YVKs (LryscudY v)) 3))), .inl (0, 40, .inl (SVQu ((YVKs (LryscudY v)) 3))), .inl (0, 6, .inl (SVRo ((YVKs (LryscudY v)) 3))), .inl (0, 6, .inl (SVPd ((YVKs (LryscudY v)) 3))), .inl (2, 6, .inl (SVPs ((YVKs (LryscudY v)) 3))), .inr (7, [.ref 66, .int (SVJc ((YVKs (LryscudY v)) 4)), .ref 73, .ref 74, .ref 75, .ref 76, .ref 77, .ref 78, .ref 79]), .inr (0, [.ref 67, .ref 68, .ref 69, .ref 70, .ref 71, .int (HVCm (SVH ((YVKs (LryscudY v)) 4))), .int (HVSw (SVH ((YVKs (LryscudY v)) 4))), .ref 72]), .inl (0, 40, .inl (HVPr (SVH ((YVKs (LryscudY v)) 4)))), .inl (0, 40, .inl (HVLf (SVH ((YVKs (LryscudY v)) 4)))), .inl (0, 40, .inl (HVRt (SVH ((YVKs (LryscudY v)) 4)))), .inl (0, 40, .inl (HVUp (SVH ((YVKs (LryscudY v)) 4)))), .inl (0, 40, .inl (HVRk (SVH ((YVKs (LryscudY v)) 4)))), .inl (0, 40, .inl (HVPa (SVH ((YVKs (LryscudY v)) 4)))), .inl (0, 40, .inl (SVOw ((YVKs (LryscudY v)) 4))), .inl (0, 40, .inl (SVPg ((YVKs (LryscudY v)) 4))), .inl (0, 40, .inl (SVFt ((YVKs (LryscudY v)) 4))), .inl (0, 40, .inl (SVQu ((YVKs (LryscudY v)) 4))), .inl (0, 6, .inl (SVRo ((YVKs (LryscudY v)) 4))), .inl (0, 6, .inl (SVPd ((YVKs (LryscudY v)) 4))), .inl (2, 6, .inl (SVPs ((YVKs (LryscudY v)) 4))), .inr (7, [.ref 81, .int (SVJc ((YVKs (LryscudY v)) 5)), .ref 88, .ref 89, .ref 90, .ref 91, .ref 92, .ref 93, .ref 94]), .inr (0, [.ref 82, .ref 83, .ref 84, .ref 85, .ref 86, .int (HVCm (SVH ((YVKs (LryscudY v)) 5))), .int (HVSw (SVH ((YVKs (LryscudY v)) 5))), .ref 87]), .inl (0, 40, .inl (HVPr (SVH ((YVKs (LryscudY v)) 5)))), .inl (0, 40, .inl (HVLf (SVH ((YVKs (LryscudY v)) 5)))), .inl (0, 40, .inl (HVRt (SVH ((YVKs (LryscudY v)) 5)))), .inl (0, 40, .inl (HVUp (SVH ((YVKs (LryscudY v)) 5)))), .inl (0, 40, .inl (HVRk (SVH ((YVKs (LryscudY v)) 5)))), .inl (0, 40, .inl (HVPa (SVH ((YVKs (LryscudY v)) 5)))), .inl (0, 40, .inl (SVOw ((YVKs (LryscudY v)) 5))), .inl (0, 40, .inl (SVPg ((YVKs (LryscudY v)) 5))), .inl (0, 40, .inl (SVFt ((YVKs (LryscudY v)) 5))), .inl (0, 40, .inl (SVQu ((YVKs (LryscudY v)) 5))), .inl (0, 6, .inl (SVRo ((YVKs (LryscudY v)) 5))), .inl (0, 6, .inl (SVPd ((YVKs (LryscudY v)) 5))), .inl (2, 6, .inl (SVPs ((YVKs (LryscudY v)) 5))), .inr (7, [.ref 96, .int (SVJc ((YVKs (LryscudY v)) 6)), .ref 103, .ref 104, .ref 105, .ref 106, .ref 107, .ref 108, .ref 109]), .inr (0, [.ref 97, .ref 98, .ref 99, .ref 100, .ref 101, .int (HVCm (SVH ((YVKs (LryscudY v)) 6))), .int (HVSw (SVH ((YVKs (LryscudY v)) 6))), .ref 102]), .inl (0, 40, .inl (HVPr (SVH ((YVKs (LryscudY v)) 6)))), .inl (0, 40, .inl (HVLf (SVH ((YVKs (LryscudY v)) 6)))), .inl (0, 40, .inl (HVRt (SVH ((YVKs (LryscudY v)) 6)))), .inl (0, 40, .inl (HVUp (SVH ((YVKs (LryscudY v)) 6)))), .inl (0, 40, .inl (HVRk (SVH ((YVKs (LryscudY v)) 6)))), .inl (0, 40, .inl (HVPa (SVH ((YVKs (LryscudY v)) 6)))), .inl (0, 40, .inl (SVOw ((YVKs (LryscudY v)) 6))), .inl (0, 40, .inl (SVPg ((YVKs (LryscudY v)) 6))), .inl (0, 40, .inl (SVFt ((YVKs (LryscudY v)) 6))), .inl (0, 40, .inl (SVQu ((YVKs (LryscudY v)) 6))), .inl (0, 6, .inl (SVRo ((YVKs (LryscudY v)) 6))), .inl (0, 6, .inl (SVPd ((YVKs (LryscudY v)) 6))), .inl (2, 6, .inl (SVPs ((YVKs (LryscudY v)) 6))), .inr (7, [.ref 111, .int (SVJc ((YVKs (LryscudY v)) 7)), .ref 118, .ref 119, .ref 120, .ref 121, .ref 122, .ref 123, .ref 124]), .inr (0, [.ref 112, .ref 113, .ref 114, .ref 115, .ref 116, .int (HVCm (SVH ((YVKs (LryscudY v)) 7))), .int (HVSw (SVH ((YVKs (LryscudY v)) 7))), .ref 117]), .inl (0, 40, .inl (HVPr (SVH ((YVKs (LryscudY v)) 7)))), .inl (0, 40, .inl (HVLf (SVH ((YVKs (LryscudY v)) 7)))), .inl (0, 40, .inl (HVRt (SVH ((YVKs (LryscudY v)) 7)))), .inl (0, 40, .inl (HVUp (SVH ((YVKs (LryscudY v)) 7)))), .inl (0, 40, .inl (HVRk (SVH ((YVKs (LryscudY v)) 7)))), .inl (0, 40, .inl (HVPa (SVH ((YVKs (LryscudY v)) 7)))), .inl (0, 40, .inl (SVOw ((YVKs (LryscudY v)) 7))), .inl (0, 40, .inl (SVPg ((YVKs (LryscudY v)) 7))), .inl (0, 40, .inl (SVFt ((YVKs (LryscudY v)) 7))), .inl (0, 40, .inl (SVQu ((YVKs (LryscudY v)) 7))), .inl (0, 6, .inl (SVRo ((YVKs (LryscudY v)) 7))), .inl (0, 6, .inl (SVPd ((YVKs (LryscudY v)) 7))), .inl (2, 6, .inl (SVPs ((YVKs (LryscudY v)) 7))), .inr (7, [.ref 126, .int (SVJc (LryscudS v)), .ref 133, .ref 134, .ref 135, .ref 136, .ref 137, .ref 138, .ref 139]), .inr (0, [.ref 127, .ref 128, .ref 129, .ref 130, .ref 131, .int (HVCm (SVH (LryscudS v))), .int (HVSw (SVH (LryscudS v))), .ref 132]), .inl (0, 40, .inl (HVPr (SVH (LryscudS v)))), .inl (0, 40, .inl (HVLf (SVH (LryscudS v)))), .inl (0, 40, .inl (HVRt (SVH (LryscudS v)))), .inl (0, 40, .inl (HVUp (SVH (LryscudS v)))), .inl (0, 40, .inl (HVRk (SVH (LryscudS v)))), .inl (0, 40, .inl (HVPa (SVH (LryscudS v)))), .inl (0, 40, .inl (SVOw (LryscudS v))), .inl (0, 40, .inl (SVPg (LryscudS v))), .inl (0, 40, .inl (SVFt (LryscudS v))), .inl (0, 40, .inl (SVQu (LryscudS v))), .inl (0, 6, .inl (SVRo (LryscudS v))), .inl (0, 6, .inl (SVPd (LryscudS v))), .inl (2, 6, .inl (SVPs (LryscudS v))), .inr (7, [.ref 141, .int (SVJc (LryscudC v)), .ref 148, .ref 149, .ref 150, .ref 151, .ref 152, .ref 153, .ref 154]), .inr (0, [.ref 142, .ref 143, .ref 144, .ref 145, .ref 146, .int (HVCm (SVH (LryscudC v))), .int (HVSw (SVH (LryscudC v))), .ref 147]), .inl (0, 40, .inl (HVPr (SVH (LryscudC v)))), .inl (0, 40, .inl (HVLf (SVH (LryscudC v)))), .inl (0, 40, .inl (HVRt (SVH (LryscudC v)))), .inl (0, 40, .inl (HVUp (SVH (LryscudC v)))), .inl (0, 40, .inl (HVRk (SVH (LryscudC v)))), .inl (0, 40, .inl (HVPa (SVH (LryscudC v)))), .inl (0, 40, .inl (SVOw (LryscudC v))), .inl (0, 40, .inl (SVPg (LryscudC v))), .inl (0, 40, .inl (SVFt (LryscudC v))), .inl (0, 40, .inl (SVQu (LryscudC v))), .inl (0, 6, .inl (SVRo (LryscudC v))), .inl (0, 6, .inl (SVPd (LryscudC v))), .inl (2, 6, .inl (SVPs (LryscudC v))), .inr (6, [.ref 156, .ref 158, .ref 160]), .inr (2, [.ref 157, .int (NVCt (UVQs (LryscudU v)))]), .inl (1, 8, .inr (.inl (NVPk (UVQs (LryscudU v))))), .inr (2, [.ref 159, .int (NVCt (UVOs (LryscudU v)))]), .inl (1, 8, .inr (.inl (NVPk (UVOs (LryscudU v))))), .inl (0, 6, .inl (UVSp (LryscudU v))), .inr (6, [.ref 162, .ref 164, .ref 166]), .inr (2, [.ref 163, .int (NVCt (UVQs (LryscudD v)))]), .inl (1, 8, .inr (.inl (NVPk (UVQs (LryscudD v))))), .inr (2, [.ref 165, .int (NVCt (UVOs (LryscudD v)))]), .inl (1, 8, .inr (.inl (NVPk (UVOs (LryscudD v))))), .inl (0, 6, .inl (UVSp (LryscudD v)))]
def WLryscuds (v : Lryscud) : List AC := [.inr (8, [.ref 1, .ref 1001001, .ref 1001002, .ref 3, .ref 125, .ref 140, .ref 1001006, .int (LryscudHs v), .ref 161, .ref 155]), .inr (4, [.ref 2, .int (RVLn (LryscudR v)), .int (RVEn (LryscudR v)), .int (RVNx (LryscudR v)), .int (RVTk (LryscudR v)), .int (RVAt (LryscudR v)), .long (RVWd (LryscudR v)), .int (RVVa (LryscudR v)), .int (RVEk (LryscudR v)), .int (RVEa (LryscudR v))]), .inl (0, 600, .inl (RVTx (LryscudR v))), .inr (1, [.ref 4, .int (YVCt (LryscudY v)), .int (YVNx (LryscudY v))]), .inl (4, 8, .inr (.inr (.inr (.inr (hA 5))))), .inr (7, [.ref 6, .int (SVJc ((YVKs (LryscudY v)) 0)), .ref 13, .ref 14, .ref 15, .ref 16, .ref 17, .ref 18, .ref 19]), .inr (0, [.ref 7, .ref 8, .ref 9, .ref 10, .ref 11, .int (HVCm (SVH ((YVKs (LryscudY v)) 0))), .int (HVSw (SVH ((YVKs (LryscudY v)) 0))), .ref 12]), .inl (0, 40, .inl (HVPr (SVH ((YVKs (LryscudY v)) 0)))), .inl (0, 40, .inl (HVLf (SVH ((YVKs (LryscudY v)) 0)))), .inl (0, 40, .inl (HVRt (SVH ((YVKs (LryscudY v)) 0)))), .inl (0, 40, .inl (HVUp (SVH ((YVKs (LryscudY v)) 0)))), .inl (0, 40, .inl (HVRk (SVH ((YVKs (LryscudY v)) 0)))), .inl (0, 40, .inl (HVPa (SVH ((YVKs (LryscudY v)) 0)))), .inl (0, 40, .inl (SVOw ((YVKs (LryscudY v)) 0))), .inl (0, 40, .inl (SVPg ((YVKs (LryscudY v)) 0))), .inl (0, 40, .inl (SVFt ((YVKs (LryscudY v)) 0))), .inl (0, 40, .inl (SVQu ((YVKs (LryscudY v)) 0))), .inl (0, 6, .inl (SVRo ((YVKs (LryscudY v)) 0))), .inl (0, 6, .inl (SVPd ((YVKs (LryscudY v)) 0))), .inl (2, 6, .inl (SVPs ((YVKs (LryscudY v)) 0))), .inr (7, [.ref 21, .int (SVJc ((YVKs (LryscudY v)) 1)), .ref 28, .ref 29, .ref 30, .ref 31, .ref 32, .ref 33, .ref 34]), .inr (0, [.ref 22, .ref 23, .ref 24, .ref 25, .ref 26, .int (HVCm (SVH ((YVKs (LryscudY v)) 1))), .int (HVSw (SVH ((YVKs (LryscudY v)) 1))), .ref 27]), .inl (0, 40, .inl (HVPr (SVH ((YVKs (LryscudY v)) 1)))), .inl (0, 40, .inl (HVLf (SVH ((YVKs (LryscudY v)) 1)))), .inl (0, 40, .inl (HVRt (SVH ((YVKs (LryscudY v)) 1)))), .inl (0, 40, .inl (HVUp (SVH ((YVKs (LryscudY v)) 1)))), .inl (0, 40, .inl (HVRk (SVH ((YVKs (LryscudY v)) 1)))), .inl (0, 40, .inl (HVPa (SVH ((YVKs (LryscudY v)) 1)))), .inl (0, 40, .inl (SVOw ((YVKs (LryscudY v)) 1))), .inl (0, 40, .inl (SVPg ((YVKs (LryscudY v)) 1))), .inl (0, 40, .inl (SVFt ((YVKs (LryscudY v)) 1))), .inl (0, 40, .inl (SVQu ((YVKs (LryscudY v)) 1))), .inl (0, 6, .inl (SVRo ((YVKs (LryscudY v)) 1))), .inl (0, 6, .inl (SVPd ((YVKs (LryscudY v)) 1))), .inl (2, 6, .inl (SVPs ((YVKs (LryscudY v)) 1))), .inr (7, [.ref 36, .int (SVJc ((YVKs (LryscudY v)) 2)), .ref 43, .ref 44, .ref 45, .ref 46, .ref 47, .ref 48, .ref 49]), .inr (0, [.ref 37, .ref 38, .ref 39, .ref 40, .ref 41, .int (HVCm (SVH ((YVKs (LryscudY v)) 2))), .int (HVSw (SVH ((YVKs (LryscudY v)) 2))), .ref 42]), .inl (0, 40, .inl (HVPr (SVH ((YVKs (LryscudY v)) 2)))), .inl (0, 40, .inl (HVLf (SVH ((YVKs (LryscudY v)) 2)))), .inl (0, 40, .inl (HVRt (SVH ((YVKs (LryscudY v)) 2)))), .inl (0, 40, .inl (HVUp (SVH ((YVKs (LryscudY v)) 2)))), .inl (0, 40, .inl (HVRk (SVH ((YVKs (LryscudY v)) 2)))), .inl (0, 40, .inl (HVPa (SVH ((YVKs (LryscudY v)) 2)))), .inl (0, 40, .inl (SVOw ((YVKs (LryscudY v)) 2))), .inl (0, 40, .inl (SVPg ((YVKs (LryscudY v)) 2))), .inl (0, 40, .inl (SVFt ((YVKs (LryscudY v)) 2))), .inl (0, 40, .inl (SVQu ((YVKs (LryscudY v)) 2))), .inl (0, 6, .inl (SVRo ((YVKs (LryscudY v)) 2))), .inl (0, 6, .inl (SVPd ((YVKs (LryscudY v)) 2))), .inl (2, 6, .inl (SVPs ((YVKs (LryscudY v)) 2))), .inr (7, [.ref 51, .int (SVJc ((YVKs (LryscudY v)) 3)), .ref 58, .ref 59, .ref 60, .ref 61, .ref 62, .ref 63, .ref 64]), .inr (0, [.ref 52, .ref 53, .ref 54, .ref 55, .ref 56, .int (HVCm (SVH ((YVKs (LryscudY v)) 3))), .int (HVSw (SVH ((YVKs (LryscudY v)) 3))), .ref 57]), .inl (0, 40, .inl (HVPr (SVH ((YVKs (LryscudY v)) 3)))), .inl (0, 40, .inl (HVLf (SVH ((YVKs (LryscudY v)) 3)))), .inl (0, 40, .inl (HVRt (SVH ((YVKs (LryscudY v)) 3)))), .inl (0, 40, .inl (HVUp (SVH ((YVKs (LryscudY v)) 3)))), .inl (0, 40, .inl (HVRk (SVH ((YVKs (LryscudY v)) 3)))), .inl (0, 40, .inl (HVPa (SVH ((YVKs (LryscudY v)) 3)))), .inl (0, 40, .inl (SVOw ((YVKs (LryscudY v)) 3))), .inl (0, 40, .inl (SVPg ((YVKs (LryscudY v)) 3))), .inl (0, 40, .inl (SVFt ((YVKs (LryscudY v)) 3))), .inl (0, 40, .inl (SVQu ((YVKs (LryscudY v)) 3))), .inl (0, 6, .inl (SVRo ((YVKs (LryscudY v)) 3))), .inl (0, 6, .inl (SVPd ((YVKs (LryscudY v)) 3))), .inl (2, 6, .inl (SVPs ((YVKs (LryscudY v)) 3))), .inr (7, [.ref 66, .int (SVJc ((YVKs (LryscudY v)) 4)), .ref 73, .ref 74, .ref 75, .ref 76, .ref 77, .ref 78, .ref 79]), .inr (0, [.ref 67, .ref 68, .ref 69, .ref 70, .ref 71, .int (HVCm (SVH ((YVKs (LryscudY v)) 4))), .int (HVSw (SVH ((YVKs (LryscudY v)) 4))), .ref 72]), .inl (0, 40, .inl (HVPr (SVH ((YVKs (LryscudY v)) 4)))), .inl (0, 40, .inl (HVLf (SVH ((YVKs (LryscudY v)) 4)))), .inl (0, 40, .inl (HVRt (SVH ((YVKs (LryscudY v)) 4)))), .inl (0, 40, .inl (HVUp (SVH ((YVKs (LryscudY v)) 4)))), .inl (0, 40, .inl (HVRk (SVH ((YVKs (LryscudY v)) 4)))), .inl (0, 40, .inl (HVPa (SVH ((YVKs (LryscudY v)) 4)))), .inl (0, 40, .inl (SVOw ((YVKs (LryscudY v)) 4))), .inl (0, 40, .inl (SVPg ((YVKs (LryscudY v)) 4))), .inl (0, 40, .inl (SVFt ((YVKs (LryscudY v)) 4))), .inl (0, 40, .inl (SVQu ((YVKs (LryscudY v)) 4))), .inl (0, 6, .inl (SVRo ((YVKs (LryscudY v)) 4))), .inl (0, 6, .inl (SVPd ((YVKs (LryscudY v)) 4))), .inl (2, 6, .inl (SVPs ((YVKs (LryscudY v)) 4))), .inr (7, [.ref 81, .int (SVJc ((YVKs (LryscudY v)) 5)), .ref 88, .ref 89, .ref 90, .ref 91, .ref 92, .ref 93, .ref 94]), .inr (0, [.ref 82, .ref 83, .ref 84, .ref 85, .ref 86, .int (HVCm (SVH ((YVKs (LryscudY v)) 5))), .int (HVSw (SVH ((YVKs (LryscudY v)) 5))), .ref 87]), .inl (0, 40, .inl (HVPr (SVH ((YVKs (LryscudY v)) 5)))), .inl (0, 40, .inl (HVLf (SVH ((YVKs (LryscudY v)) 5)))), .inl (0, 40, .inl (HVRt (SVH ((YVKs (LryscudY v)) 5)))), .inl (0, 40, .inl (HVUp (SVH ((YVKs (LryscudY v)) 5)))), .inl (0, 40, .inl (HVRk (SVH ((YVKs (LryscudY v)) 5)))), .inl (0, 40, .inl (HVPa (SVH ((YVKs (LryscudY v)) 5)))), .inl (0, 40, .inl (SVOw ((YVKs (LryscudY v)) 5))), .inl (0, 40, .inl (SVPg ((YVKs (LryscudY v)) 5))), .inl (0, 40, .inl (SVFt ((YVKs (LryscudY v)) 5))), .inl (0, 40, .inl (SVQu ((YVKs (LryscudY v)) 5))), .inl (0, 6, .inl (SVRo ((YVKs (LryscudY v)) 5))), .inl (0, 6, .inl (SVPd ((YVKs (LryscudY v)) 5))), .inl (2, 6, .inl (SVPs ((YVKs (LryscudY v)) 5))), .inr (7, [.ref 96, .int (SVJc ((YVKs (LryscudY v)) 6)), .ref 103, .ref 104, .ref 105, .ref 106, .ref 107, .ref 108, .ref 109]), .inr (0, [.ref 97, .ref 98, .ref 99, .ref 100, .ref 101, .int (HVCm (SVH ((YVKs (LryscudY v)) 6))), .int (HVSw (SVH ((YVKs (LryscudY v)) 6))), .ref 102]), .inl (0, 40, .inl (HVPr (SVH ((YVKs (LryscudY v)) 6)))), .inl (0, 40, .inl (HVLf (SVH ((YVKs (LryscudY v)) 6)))), .inl (0, 40, .inl (HVRt (SVH ((YVKs (LryscudY v)) 6)))), .inl (0, 40, .inl (HVUp (SVH ((YVKs (LryscudY v)) 6)))), .inl (0, 40, .inl (HVRk (SVH ((YVKs (LryscudY v)) 6)))), .inl (0, 40, .inl (HVPa (SVH ((YVKs (LryscudY v)) 6)))), .inl (0, 40, .inl (SVOw ((YVKs (LryscudY v)) 6))), .inl (0, 40, .inl (SVPg ((YVKs (LryscudY v)) 6))), .inl (0, 40, .inl (SVFt ((YVKs (LryscudY v)) 6))), .inl (0, 40, .inl (SVQu ((YVKs (LryscudY v)) 6))), .inl (0, 6, .inl (SVRo ((YVKs (LryscudY v)) 6))), .inl (0, 6, .inl (SVPd ((YVKs (LryscudY v)) 6))), .inl (2, 6, .inl (SVPs ((YVKs (LryscudY v)) 6))), .inr (7, [.ref 111, .int (SVJc ((YVKs (LryscudY v)) 7)), .ref 118, .ref 119, .ref 120, .ref 121, .ref 122, .ref 123, .ref 124]), .inr (0, [.ref 112, .ref 113, .ref 114, .ref 115, .ref 116, .int (HVCm (SVH ((YVKs (LryscudY v)) 7))), .int (HVSw (SVH ((YVKs (LryscudY v)) 7))), .ref 117]), .inl (0, 40, .inl (HVPr (SVH ((YVKs (LryscudY v)) 7)))), .inl (0, 40, .inl (HVLf (SVH ((YVKs (LryscudY v)) 7)))), .inl (0, 40, .inl (HVRt (SVH ((YVKs (LryscudY v)) 7)))), .inl (0, 40, .inl (HVUp (SVH ((YVKs (LryscudY v)) 7)))), .inl (0, 40, .inl (HVRk (SVH ((YVKs (LryscudY v)) 7)))), .inl (0, 40, .inl (HVPa (SVH ((YVKs (LryscudY v)) 7)))), .inl (0, 40, .inl (SVOw ((YVKs (LryscudY v)) 7))), .inl (0, 40, .inl (SVPg ((YVKs (LryscudY v)) 7))), .inl (0, 40, .inl (SVFt ((YVKs (LryscudY v)) 7))), .inl (0, 40, .inl (SVQu ((YVKs (LryscudY v)) 7))), .inl (0, 6, .inl (SVRo ((YVKs (LryscudY v)) 7))), .inl (0, 6, .inl (SVPd ((YVKs (LryscudY v)) 7))), .inl (2, 6, .inl (SVPs ((YVKs (LryscudY v)) 7))), .inr (7, [.ref 126, .int (SVJc (LryscudS v)), .ref 133, .ref 134, .ref 135, .ref 136, .ref 137, .ref 138, .ref 139]), .inr (0, [.ref 127, .ref 128, .ref 129, .ref 130, .ref 131, .int (HVCm (SVH (LryscudS v))), .int (HVSw (SVH (LryscudS v))), .ref 132]), .inl (0, 40, .inl (HVPr (SVH (LryscudS v)))), .inl (0, 40, .inl (HVLf (SVH (LryscudS v)))), .inl (0, 40, .inl (HVRt (SVH (LryscudS v)))), .inl (0, 40, .inl (HVUp (SVH (LryscudS v)))), .inl (0, 40, .inl (HVRk (SVH (LryscudS v)))), .inl (0, 40, .inl (HVPa (SVH (LryscudS v)))), .inl (0, 40, .inl (SVOw (LryscudS v))), .inl (0, 40, .inl (SVPg (LryscudS v))), .inl (0, 40, .inl (SVFt (LryscudS v))), .inl (0, 40, .inl (SVQu (LryscudS v))), .inl (0, 6, .inl (SVRo (LryscudS v))), .inl (0, 6, .inl (SVPd (LryscudS v))), .inl (2, 6, .inl (SVPs (LryscudS v))), .inr (7, [.ref 141, .int (SVJc (LryscudC v)), .ref 148, .ref 149, .ref 150, .ref 151, .ref 152, .ref 153, .ref 154]), .inr (0, [.ref 142, .ref 143, .ref 144, .ref 145, .ref 146, .int (HVCm (SVH (LryscudC v))), .int (HVSw (SVH (LryscudC v))), .ref 147]), .inl (0, 40, .inl (HVPr (SVH (LryscudC v)))), .inl (0, 40, .inl (HVLf (SVH (LryscudC v)))), .inl (0, 40, .inl (HVRt (SVH (LryscudC v)))), .inl (0, 40, .inl (HVUp (SVH (LryscudC v)))), .inl (0, 40, .inl (HVRk (SVH (LryscudC v)))), .inl (0, 40, .inl (HVPa (SVH (LryscudC v)))), .inl (0, 40, .inl (SVOw (LryscudC v))), .inl (0, 40, .inl (SVPg (LryscudC v))), .inl (0, 40, .inl (SVFt (LryscudC v))), .inl (0, 40, .inl (SVQu (LryscudC v))), .inl (0, 6, .inl (SVRo (LryscudC v))), .inl (0, 6, .inl (SVPd (LryscudC v))), .inl (2, 6, .inl (SVPs (LryscudC v))), .inr (6, [.ref 156, .ref 158, .ref 160]), .inr (2, [.ref 157, .int (NVCt (UVQs (LryscudD v)))]), .inl (1, 8, .inr (.inl (NVPk (UVQs (LryscudD v))))), .inr (2, [.ref 159, .int (NVCt (UVOs (LryscudD v)))]), .inl (1, 8, .inr (.inl (NVPk (UVOs (LryscudD v))))), .inl (0, 6, .inl (UVSp (LryscudD v))), .inr (6, [.ref 162, .ref 164, .ref 166]), .inr (2, [.ref 163, .int (NVCt (UVQs (LryscudU v)))]), .inl (1, 8, .inr (.inl (NVPk (UVQs (LryscudU v))))), .inr (2, [.ref 165, .int (NVCt (UVOs (LryscudU v)))]), .inl (1, 8, .inr (.inl (NVPk (UVOs (LryscudU v))))), .inl (0, 6, .inl (UVSp (LryscudU v)))]
def WLryscudm (b : Bool) (v : Lryscud) : List AC := match b with
  | true => WLryscuds v
  | false => WLryscud v
def f_X8_loadSetup (v : Lryscud) : Option (Int32 × Bool × Lryscud) :=
  bnd2 (f_X8_readSetup ((LryscudHs v), (LryscudR v), (LryscudC v), (LryscudD v))) fun r2 w3 =>
  if r2 = 0 then
    some ((-1), false, ((LrcdHs w3), (LrcdR w3), (LryscudY v), (LryscudS v), (LrcdC w3), (LryscudU v), (LrcdD w3)))
  else
    bnd2 (f_X8_adoptDraft ((LrcdHs w3), (LryscudY v), (LryscudS v), (LrcdC w3), (LryscudU v), (LrcdD w3))) fun r6 w7 =>
    some ((SVJc (LyscudS w7)), true, ((LyscudHs w7), (LrcdR w3), (LyscudY w7), (LyscudS w7), (LyscudC w7), (LyscudU w7), (LyscudD w7)))
def f_X8_meanRank (v : Ls) : Option (UInt64) :=
  (f_X7_waitingJobs (LsS v)).bind fun r2 =>
  if r2 = 0 then
    some FP.dconst0
  else
    (f_X7_sumOfRanks (LsS v)).bind fun r6 =>
    if ¬ ((FP.ddiv (FP.i2d r6) (FP.i2d r2)) &&& 0x7fffffffffffffff ≤ 0x7ff0000000000000) then none else
    some (FP.ddiv (FP.i2d r6) (FP.i2d r2))
def f_X8_mergeCost (v : Lsu) (a : Int32) (b : Int32) : Option ((Int32 ⊕ String)) :=
  bndT (f_X8_checkTwoQueues ((LsuHs v), (LsuU v)) a b) (fun r2 =>
    if oob a 6 then none else
    if oob b 6 then none else
    (f_X0_comparisonsToMerge (SVH (LsuS v)) ((SVRo (LsuS v)) (Int32.toNatClampNeg a)) ((SVRo (LsuS v)) (Int32.toNatClampNeg b))).bind fun r7 =>
    some (.inl r7)
    ) (fun x => some (.inr x))
abbrev Lysu : Type := Int32 × YV × SV × UV
def LysuHs (v : Lysu) : Int32 := v.1
def LysuY (v : Lysu) : YV := v.2.1
def LysuS (v : Lysu) : SV := v.2.2.1
def LysuU (v : Lysu) : UV := v.2.2.2
def Lysu_sHs (v : Lysu) (x : Int32) : Lysu := (x, LysuY v, LysuS v, LysuU v)
def Lysu_sY (v : Lysu) (x : YV) : Lysu := (LysuHs v, x, LysuS v, LysuU v)
def Lysu_sS (v : Lysu) (x : SV) : Lysu := (LysuHs v, LysuY v, x, LysuU v)
def Lysu_sU (v : Lysu) (x : UV) : Lysu := (LysuHs v, LysuY v, LysuS v, x)
def WLysu (v : Lysu) : List AC := [.inr (8, [.ref 1001000, .ref 1001001, .ref 1001002, .ref 1, .ref 123, .ref 1001005, .ref 1001006, .int (LysuHs v), .ref 138, .ref 1001009]), .inr (1, [.ref 2, .int (YVCt (LysuY v)), .int (YVNx (LysuY v))]), .inl (4, 8, .inr (.inr (.inr (.inr (hA 3))))), .inr (7, [.ref 4, .int (SVJc ((YVKs (LysuY v)) 0)), .ref 11, .ref 12, .ref 13, .ref 14, .ref 15, .ref 16, .ref 17]), .inr (0, [.ref 5, .ref 6, .ref 7, .ref 8, .ref 9, .int (HVCm (SVH ((YVKs (LysuY v)) 0))), .int (HVSw (SVH ((YVKs (LysuY v)) 0))), .ref 10]), .inl (0, 40, .inl (HVPr (SVH ((YVKs (LysuY v)) 0)))), .inl (0, 40, .inl (HVLf (SVH ((YVKs (LysuY v)) 0)))), .inl (0, 40, .inl (HVRt (SVH ((YVKs (LysuY v)) 0)))), .inl (0, 40, .inl (HVUp (SVH ((YVKs (LysuY v)) 0)))), .inl (0, 40, .inl (HVRk (SVH ((YVKs (LysuY v)) 0)))), .inl (0, 40, .inl (HVPa (SVH ((YVKs (LysuY v)) 0)))), .inl (0, 40, .inl (SVOw ((YVKs (LysuY v)) 0))), .inl (0, 40, .inl (SVPg ((YVKs (LysuY v)) 0))), .inl (0, 40, .inl (SVFt ((YVKs (LysuY v)) 0))), .inl (0, 40, .inl (SVQu ((YVKs (LysuY v)) 0))), .inl (0, 6, .inl (SVRo ((YVKs (LysuY v)) 0))), .inl (0, 6, .inl (SVPd ((YVKs (LysuY v)) 0))), .inl (2, 6, .inl (SVPs ((YVKs (LysuY v)) 0))), .inr (7, [.ref 19, .int (SVJc ((YVKs (LysuY v)) 1)), .ref 26, .ref 27, .ref 28, .ref 29, .ref 30, .ref 31, .ref 32]), .inr (0, [.ref 20, .ref 21, .ref 22, .ref 23, .ref 24, .int (HVCm (SVH ((YVKs (LysuY v)) 1))), .int (HVSw (SVH ((YVKs (LysuY v)) 1))), .ref 25]), .inl (0, 40, .inl (HVPr (SVH ((YVKs (LysuY v)) 1)))), .inl (0, 40, .inl (HVLf (SVH ((YVKs (LysuY v)) 1)))), .inl (0, 40, .inl (HVRt (SVH ((YVKs (LysuY v)) 1)))), .inl (0, 40, .inl (HVUp (SVH ((YVKs (LysuY v)) 1)))), .inl (0, 40, .inl (HVRk (SVH ((YVKs (LysuY v)) 1)))), .inl (0, 40, .inl (HVPa (SVH ((YVKs (LysuY v)) 1)))), .inl (0, 40, .inl (SVOw ((YVKs (LysuY v)) 1))), .inl (0, 40, .inl (SVPg ((YVKs (LysuY v)) 1))), .inl (0, 40, .inl (SVFt ((YVKs (LysuY v)) 1))), .inl (0, 40, .inl (SVQu ((YVKs (LysuY v)) 1))), .inl (0, 6, .inl (SVRo ((YVKs (LysuY v)) 1))), .inl (0, 6, .inl (SVPd ((YVKs (LysuY v)) 1))), .inl (2, 6, .inl (SVPs ((YVKs (LysuY v)) 1))), .inr (7, [.ref 34, .int (SVJc ((YVKs (LysuY v)) 2)), .ref 41, .ref 42, .ref 43, .ref 44, .ref 45, .ref 46, .ref 47]), .inr (0, [.ref 35, .ref 36, .ref 37, .ref 38, .ref 39, .int (HVCm (SVH ((YVKs (LysuY v)) 2))), .int (HVSw (SVH ((YVKs (LysuY v)) 2))), .ref 40]), .inl (0, 40, .inl (HVPr (SVH ((YVKs (LysuY v)) 2)))), .inl (0, 40, .inl (HVLf (SVH ((YVKs (LysuY v)) 2)))), .inl (0, 40, .inl (HVRt (SVH ((YVKs (LysuY v)) 2)))), .inl (0, 40, .inl (HVUp (SVH ((YVKs (LysuY v)) 2)))), .inl (0, 40, .inl (HVRk (SVH ((YVKs (LysuY v)) 2)))), .inl (0, 40, .inl (HVPa (SVH ((YVKs (LysuY v)) 2)))), .inl (0, 40, .inl (SVOw ((YVKs (LysuY v)) 2))), .inl (0, 40, .inl (SVPg ((YVKs (LysuY v)) 2))), .inl (0, 40, .inl (SVFt ((YVKs (LysuY v)) 2))), .inl (0, 40, .inl (SVQu ((YVKs (LysuY v)) 2))), .inl (0, 6, .inl (SVRo ((YVKs (LysuY v)) 2))), .inl (0, 6, .inl (SVPd ((YVKs (LysuY v)) 2))), .inl (2, 6, .inl (SVPs ((YVKs (LysuY v)) 2))), .inr (7, [.ref 49, .int (SVJc ((YVKs (LysuY v)) 3)), .ref 56, .ref 57, .ref 58, .ref 59, .ref 60, .ref 61, .ref 62]), .inr (0, [.ref 50, .ref 51, .ref 52, .ref 53, .ref 54, .int (HVCm (SVH ((YVKs (LysuY v)) 3))), .int (HVSw (SVH ((YVKs (LysuY v)) 3))), .ref 55]), .inl (0, 40, .inl (HVPr (SVH ((YVKs (LysuY v)) 3)))), .inl (0, 40, .inl (HVLf (SVH ((YVKs (LysuY v)) 3)))), .inl (0, 40, .inl (HVRt (SVH ((YVKs (LysuY v)) 3)))), .inl (0, 40, .inl (HVUp (SVH ((YVKs (LysuY v)) 3)))), .inl (0, 40, .inl (HVRk (SVH ((YVKs (LysuY v)) 3)))), .inl (0, 40, .inl (HVPa (SVH ((YVKs (LysuY v)) 3)))), .inl (0, 40, .inl (SVOw ((YVKs (LysuY v)) 3))), .inl (0, 40, .inl (SVPg ((YVKs (LysuY v)) 3))), .inl (0, 40, .inl (SVFt ((YVKs (LysuY v)) 3))), .inl (0, 40, .inl (SVQu ((YVKs (LysuY v)) 3))), .inl (0, 6, .inl (SVRo ((YVKs (LysuY v)) 3))), .inl (0, 6, .inl (SVPd ((YVKs (LysuY v)) 3))), .inl (2, 6, .inl (SVPs ((YVKs (LysuY v)) 3))), .inr (7, [.ref 64, .int (SVJc ((YVKs (LysuY v)) 4)), .ref 71, .ref 72, .ref 73, .ref 74, .ref 75, .ref 76, .ref 77]), .inr (0, [.ref 65, .ref 66, .ref 67, .ref 68, .ref 69, .int (HVCm (SVH ((YVKs (LysuY v)) 4))), .int (HVSw (SVH ((YVKs (LysuY v)) 4))), .ref 70]), .inl (0, 40, .inl (HVPr (SVH ((YVKs (LysuY v)) 4)))), .inl (0, 40, .inl (HVLf (SVH ((YVKs (LysuY v)) 4)))), .inl (0, 40, .inl (HVRt (SVH ((YVKs (LysuY v)) 4)))), .inl (0, 40, .inl (HVUp (SVH ((YVKs (LysuY v)) 4)))), .inl (0, 40, .inl (HVRk (SVH ((YVKs (LysuY v)) 4)))), .inl (0, 40, .inl (HVPa (SVH ((YVKs (LysuY v)) 4)))), .inl (0, 40, .inl (SVOw ((YVKs (LysuY v)) 4))), .inl (0, 40, .inl (SVPg ((YVKs (LysuY v)) 4))), .inl (0, 40, .inl (SVFt ((YVKs (LysuY v)) 4))), .inl (0, 40, .inl (SVQu ((YVKs (LysuY v)) 4))), .inl (0, 6, .inl (SVRo ((YVKs (LysuY v)) 4))), .inl (0, 6, .inl (SVPd ((YVKs (LysuY v)) 4))), .inl (2, 6, .inl (SVPs ((YVKs (LysuY v)) 4))), .inr (7, [.ref 79, .int (SVJc ((YVKs (LysuY v)) 5)), .ref 86, .ref 87, .ref 88, .ref 89, .ref 90, .ref 91, .ref 92]), .inr (0, [.ref 80, .ref 81, .ref 82, .ref 83, .ref 84, .int (HVCm (SVH ((YVKs (LysuY v)) 5))), .int (HVSw (SVH ((YVKs (LysuY v)) 5))), .ref 85]), .inl (0, 40, .inl (HVPr (SVH ((YVKs (LysuY v)) 5)))), .inl (0, 40, .inl (HVLf (SVH ((YVKs (LysuY v)) 5)))), .inl (0, 40, .inl (HVRt (SVH ((YVKs (LysuY v)) 5)))), .inl (0, 40, .inl (HVUp (SVH ((YVKs (LysuY v)) 5)))), .inl (0, 40, .inl (HVRk (SVH ((YVKs (LysuY v)) 5)))), .inl (0, 40, .inl (HVPa (SVH ((YVKs (LysuY v)) 5)))), .inl (0, 40, .inl (SVOw ((YVKs (LysuY v)) 5))), .inl (0, 40, .inl (SVPg ((YVKs (LysuY v)) 5))), .inl (0, 40, .inl (SVFt ((YVKs (LysuY v)) 5))), .inl (0, 40, .inl (SVQu ((YVKs (LysuY v)) 5))), .inl (0, 6, .inl (SVRo ((YVKs (LysuY v)) 5))), .inl (0, 6, .inl (SVPd ((YVKs (LysuY v)) 5))), .inl (2, 6, .inl (SVPs ((YVKs (LysuY v)) 5))), .inr (7, [.ref 94, .int (SVJc ((YVKs (LysuY v)) 6)), .ref 101, .ref 102, .ref 103, .ref 104, .ref 105, .ref 106, .ref 107]), .inr (0, [.ref 95, .ref 96, .ref 97, .ref 98, .ref 99, .int (HVCm (SVH ((YVKs (LysuY v)) 6))), .int (HVSw (SVH ((YVKs (LysuY v)) 6))), .ref 100]), .inl (0, 40, .inl (HVPr (SVH ((YVKs (LysuY v)) 6)))), .inl (0, 40, .inl (HVLf (SVH ((YVKs (LysuY v)) 6)))), .inl (0, 40, .inl (HVRt (SVH ((YVKs (LysuY v)) 6)))), .inl (0, 40, .inl (HVUp (SVH ((YVKs (LysuY v)) 6)))), .inl (0, 40, .inl (HVRk (SVH ((YVKs (LysuY v)) 6)))), .inl (0, 40, .inl (HVPa (SVH ((YVKs (LysuY v)) 6)))), .inl (0, 40, .inl (SVOw ((YVKs (LysuY v)) 6))), .inl (0, 40, .inl (SVPg ((YVKs (LysuY v)) 6))), .inl (0, 40, .inl (SVFt ((YVKs (LysuY v)) 6))), .inl (0, 40, .inl (SVQu ((YVKs (LysuY v)) 6))), .inl (0, 6, .inl (SVRo ((YVKs (LysuY v)) 6))), .inl (0, 6, .inl (SVPd ((YVKs (LysuY v)) 6))), .inl (2, 6, .inl (SVPs ((YVKs (LysuY v)) 6))), .inr (7, [.ref 109, .int (SVJc ((YVKs (LysuY v)) 7)), .ref 116, .ref 117, .ref 118, .ref 119, .ref 120, .ref 121, .ref 122]), .inr (0, [.ref 110, .ref 111, .ref 112, .ref 113, .ref 114, .int (HVCm (SVH ((YVKs (LysuY v)) 7))), .int (HVSw (SVH ((YVKs (LysuY v)) 7))), .ref 115]), .inl (0, 40, .inl (HVPr (SVH ((YVKs (LysuY v)) 7)))), .inl (0, 40, .inl (HVLf (SVH ((YVKs (LysuY v)) 7)))), .inl (0, 40, .inl (HVRt (SVH ((YVKs (LysuY v)) 7)))), .inl (0, 40, .inl (HVUp (SVH ((YVKs (LysuY v)) 7)))), .inl (0, 40, .inl (HVRk (SVH ((YVKs (LysuY v)) 7)))), .inl (0, 40, .inl (HVPa (SVH ((YVKs (LysuY v)) 7)))), .inl (0, 40, .inl (SVOw ((YVKs (LysuY v)) 7))), .inl (0, 40, .inl (SVPg ((YVKs (LysuY v)) 7))), .inl (0, 40, .inl (SVFt ((YVKs (LysuY v)) 7))), .inl (0, 40, .inl (SVQu ((YVKs (LysuY v)) 7))), .inl (0, 6, .inl (SVRo ((YVKs (LysuY v)) 7))), .inl (0, 6, .inl (SVPd ((YVKs (LysuY v)) 7))), .inl (2, 6, .inl (SVPs ((YVKs (LysuY v)) 7))), .inr (7, [.ref 124, .int (SVJc (LysuS v)), .ref 131, .ref 132, .ref 133, .ref 134, .ref 135, .ref 136, .ref 137]), .inr (0, [.ref 125, .ref 126, .ref 127, .ref 128, .ref 129, .int (HVCm (SVH (LysuS v))), .int (HVSw (SVH (LysuS v))), .ref 130]), .inl (0, 40, .inl (HVPr (SVH (LysuS v)))), .inl (0, 40, .inl (HVLf (SVH (LysuS v)))), .inl (0, 40, .inl (HVRt (SVH (LysuS v)))), .inl (0, 40, .inl (HVUp (SVH (LysuS v)))), .inl (0, 40, .inl (HVRk (SVH (LysuS v)))), .inl (0, 40, .inl (HVPa (SVH (LysuS v)))), .inl (0, 40, .inl (SVOw (LysuS v))), .inl (0, 40, .inl (SVPg (LysuS v))), .inl (0, 40, .inl (SVFt (LysuS v))), .inl (0, 40, .inl (SVQu (LysuS v))), .inl (0, 6, .inl (SVRo (LysuS v))), .inl (0, 6, .inl (SVPd (LysuS v))), .inl (2, 6, .inl (SVPs (LysuS v))), .inr (6, [.ref 139, .ref 141, .ref 143]), .inr (2, [.ref 140, .int (NVCt (UVQs (LysuU v)))]), .inl (1, 8, .inr (.inl (NVPk (UVQs (LysuU v))))), .inr (2, [.ref 142, .int (NVCt (UVOs (LysuU v)))]), .inl (1, 8, .inr (.inl (NVPk (UVOs (LysuU v))))), .inl (0, 6, .inl (UVSp (LysuU v)))]
def f_X8_mergeQueues (v : Lysu) (a : Int32) (b : Int32) : Option ((Int32 ⊕ String) × Lysu) :=
  bndT (f_X8_checkTwoQueues ((LysuHs v), (LysuU v)) a b) (fun r2 =>
    bnd2 (f_X1_keep ((LysuY v), (LysuS v))) fun r5 w6 =>
    bnd2 (f_X7_joinQueues (P_YV_SVB w6) a b) fun r8 w9 =>
    (f_X7_jobsIn w9 b).bind fun r11 =>
    some ((.inl r11), (Lysu_sS (Lysu_sY v (P_YV_SVA w6)) w9))
    ) (fun x => some (.inr x, v))
def f_X8_minutesUntilPrinted (v : Lsu) (a : Int32) : Option ((Int32 ⊕ String)) :=
  bndT (f_X8_checkJob ((LsuHs v), (LsuS v)) a) (fun r2 =>
    bndT (f_X8_checkWaits ((LsuHs v), (LsuS v)) a) (fun r5 =>
      if oob a 40 then none else
      (f_X7_pagesAhead (LsuS v) a).bind fun r9 =>
      if oob a 40 then none else
      (f_X6_minutes (LsuU v) ((SVQu (LsuS v)) (Int32.toNatClampNeg a)) (r9 + ((SVPg (LsuS v)) (Int32.toNatClampNeg a)))).bind fun r13 =>
      some (.inl r13)
      ) (fun x => some (.inr x))
    ) (fun x => some (.inr x))
def f_X8_moveJob (v : Lysu) (a : Int32) (b : Int32) : Option ((Int32 ⊕ String) × Lysu) :=
  bndT (f_X8_checkJob ((LysuHs v), (LysuS v)) a) (fun r2 =>
    bndT (f_X8_checkQueue ((LysuHs v), (LysuU v)) b) (fun r5 =>
      (f_X7_canMove (LysuS v) a b).bind fun r8 =>
      if r8 = 0 then
        some (.inr "java/lang/IllegalStateException", v)
      else
        bnd2 (f_X1_keep ((LysuY v), (LysuS v))) fun r12 w13 =>
        if oob a 40 then none else
        bnd2 (f_X7_insertAgain (P_YV_SVB w13) a b ((HVPr (SVH (P_YV_SVB w13))) (Int32.toNatClampNeg a))) fun r16 w17 =>
        if oob b 6 then none else
        some ((.inl ((SVRo w17) (Int32.toNatClampNeg b))), (Lysu_sS (Lysu_sY v (P_YV_SVA w13)) w17))
      ) (fun x => some (.inr x, v))
    ) (fun x => some (.inr x, v))
abbrev Lo : Type := Int32 × OV
def LoHs (v : Lo) : Int32 := v.1
def LoO (v : Lo) : OV := v.2
def Lo_sHs (v : Lo) (x : Int32) : Lo := (x, LoO v)
def Lo_sO (v : Lo) (x : OV) : Lo := (LoHs v, x)
def WLo (v : Lo) : List AC := [.inr (8, [.ref 1001000, .ref 1001001, .ref 1, .ref 1001003, .ref 1001004, .ref 1001005, .ref 1001006, .int (LoHs v), .ref 1001008, .ref 1001009]), .inr (3, [.ref 2, .int (OVLn (LoO v))]), .inl (0, 200, .inl (OVBy (LoO v)))]
def f_X8_outputByte (v : Lo) (a : Int32) : Option (Int32) :=
  (f_X3_at (LoO v) a).bind fun r2 =>
  some r2
def f_X8_ownerCount (v : Lu) : Option (Int32) :=
  some (NVCt (UVOs (LuU v)))
def f_X8_ownerNameByte (v : Lu) (a : Int32) (b : Int32) : Option ((Int32 ⊕ String)) :=
  bndT (f_X8_checkOwner v a) (fun r2 =>
    (f_X2_letter (UVOs (LuU v)) a b).bind fun r5 =>
    some (.inl r5)
    ) (fun x => some (.inr x))
def f_X8_ownerOf (v : Ls) (a : Int32) : Option ((Int32 ⊕ String)) :=
  bndT (f_X8_checkJob v a) (fun r2 =>
    if oob a 40 then none else
    some (.inl ((SVOw (LsS v)) (Int32.toNatClampNeg a)))
    ) (fun x => some (.inr x))
def f_X8_pages (v : Ls) (a : Int32) : Option ((Int32 ⊕ String)) :=
  bndT (f_X8_checkJob v a) (fun r2 =>
    if oob a 40 then none else
    some (.inl ((SVPg (LsS v)) (Int32.toNatClampNeg a)))
    ) (fun x => some (.inr x))
def f_X8_pagesBefore (v : Ls) (a : Int32) : Option ((Int32 ⊕ String)) :=
  bndT (f_X8_checkJob v a) (fun r2 =>
    bndT (f_X8_checkWaits v a) (fun r5 =>
      (f_X7_pagesAhead (LsS v) a).bind fun r8 =>
      some (.inl r8)
      ) (fun x => some (.inr x))
    ) (fun x => some (.inr x))
def f_X8_parent (v : Ls) (a : Int32) : Option ((Int32 ⊕ String)) :=
  bndT (f_X8_checkJob v a) (fun r2 =>
    if oob a 40 then none else
    some (.inl ((HVUp (SVH (LsS v))) (Int32.toNatClampNeg a)))
    ) (fun x => some (.inr x))
def f_X8_positionOf (v : Ls) (a : Int32) : Option ((Int32 ⊕ String)) :=
  bndT (f_X8_checkJob v a) (fun r2 =>
    bndT (f_X8_checkWaits v a) (fun r5 =>
      if oob a 40 then none else
      (f_X7_jobsAhead (LsS v) a ((HVPr (SVH (LsS v))) (Int32.toNatClampNeg a))).bind fun r9 =>
      some (.inl r9)
      ) (fun x => some (.inr x))
    ) (fun x => some (.inr x))
def f_X8_positionWith (v : Ls) (a : Int32) (b : Int32) : Option ((Int32 ⊕ String)) :=
  bndT (f_X8_checkJob v a) (fun r2 =>
    bndT (f_X8_checkPriority b) (fun r5 =>
      bndT (f_X8_checkWaits v a) (fun r8 =>
        (f_X7_jobsAhead (LsS v) a b).bind fun r11 =>
        some (.inl r11)
        ) (fun x => some (.inr x))
      ) (fun x => some (.inr x))
    ) (fun x => some (.inr x))
def f_X8_printNext (v : Lysu) (a : Int32) : Option ((Int32 ⊕ String) × Lysu) :=
  bndT (f_X8_checkQueue ((LysuHs v), (LysuU v)) a) (fun r2 =>
    (f_X7_obstacle (LysuS v) a).bind fun r5 =>
    if r5 = 0 then
      bnd2 (f_X1_keep ((LysuY v), (LysuS v))) fun r9 w10 =>
      if oob a 6 then none else
      bnd2 (f_X7_endJob (P_YV_SVB w10) ((SVRo (P_YV_SVB w10)) (Int32.toNatClampNeg a)) 1) fun r13 w14 =>
      some ((.inl ((SVRo (P_YV_SVB w10)) (Int32.toNatClampNeg a))), (Lysu_sS (Lysu_sY v (P_YV_SVA w10)) w14))
    else
      some (.inr "java/lang/IllegalStateException", v)
    ) (fun x => some (.inr x, v))
def f_X8_printedPages (v : Lsu) (a : Int32) : Option ((Int32 ⊕ String)) :=
  bndT (f_X8_checkQueue ((LsuHs v), (LsuU v)) a) (fun r2 =>
    if oob a 6 then none else
    some (.inl ((SVPd (LsuS v)) (Int32.toNatClampNeg a)))
    ) (fun x => some (.inr x))
def f_X8_printedPagesOfOwner (v : Lsu) (a : Int32) : Option ((Int32 ⊕ String)) :=
  bndT (f_X8_checkOwner ((LsuHs v), (LsuU v)) a) (fun r2 =>
    (f_X7_pagesOfOwner (LsuS v) a 1).bind fun r5 =>
    some (.inl r5)
    ) (fun x => some (.inr x))
def f_X8_printedPart (v : Ls) : Option (UInt32) :=
  (f_X7_pagesOfAllJobs (LsS v)).bind fun r2 =>
  if r2 = 0 then
    some FP.fconst0
  else
    (f_X7_pagesOfAllPrinted (LsS v)).bind fun r6 =>
    if ¬ ((FP.fdiv (FP.i2f r6) (FP.i2f r2)) &&& 0x7fffffff ≤ 0x7f800000) then none else
    some (FP.fdiv (FP.i2f r6) (FP.i2f r2))
def f_X8_printingObstacle (v : Lsu) (a : Int32) : Option ((Int32 ⊕ String)) :=
  bndT (f_X8_checkQueue ((LsuHs v), (LsuU v)) a) (fun r2 =>
    (f_X7_obstacle (LsuS v) a).bind fun r5 =>
    some (.inl r5)
    ) (fun x => some (.inr x))
def f_X8_priority (v : Ls) (a : Int32) : Option ((Int32 ⊕ String)) :=
  bndT (f_X8_checkJob v a) (fun r2 =>
    if oob a 40 then none else
    some (.inl ((HVPr (SVH (LsS v))) (Int32.toNatClampNeg a)))
    ) (fun x => some (.inr x))
def f_X8_queueCount (v : Lu) : Option (Int32) :=
  some (NVCt (UVQs (LuU v)))
def f_X8_queueNameByte (v : Lu) (a : Int32) (b : Int32) : Option ((Int32 ⊕ String)) :=
  bndT (f_X8_checkQueue v a) (fun r2 =>
    (f_X2_letter (UVQs (LuU v)) a b).bind fun r5 =>
    some (.inl r5)
    ) (fun x => some (.inr x))
def f_X8_queueOf (v : Ls) (a : Int32) : Option ((Int32 ⊕ String)) :=
  bndT (f_X8_checkJob v a) (fun r2 =>
    if oob a 40 then none else
    some (.inl ((SVQu (LsS v)) (Int32.toNatClampNeg a)))
    ) (fun x => some (.inr x))
def f_X8_rank (v : Ls) (a : Int32) : Option ((Int32 ⊕ String)) :=
  bndT (f_X8_checkJob v a) (fun r2 =>
    (f_X0_rankOf (SVH (LsS v)) a).bind fun r5 =>
    some (.inl r5)
    ) (fun x => some (.inr x))
def f_X8_rankAfterMerge (v : Lsu) (a : Int32) (b : Int32) : Option ((Int32 ⊕ String) × Lsu) :=
  bndT (f_X8_checkTwoQueues ((LsuHs v), (LsuU v)) a b) (fun r2 =>
    if oob a 6 then none else
    if oob b 6 then none else
    bnd2 (f_X0_rankOfMerged (SVH (LsuS v)) ((SVRo (LsuS v)) (Int32.toNatClampNeg a)) ((SVRo (LsuS v)) (Int32.toNatClampNeg b))) fun r7 w8 =>
    some ((.inl r7), (Lsu_sS v (SV_sH (LsuS v) w8)))
    ) (fun x => some (.inr x, v))
def f_X8_statementKind (v : Lr) : Option (Int32) :=
  (f_X4_isWord (LrR v) 6).bind fun r2 =>
  if r2 = 0 then
    (f_X4_isWord (LrR v) 7).bind fun r6 =>
    if r6 = 0 then
      (f_X4_isWord (LrR v) 8).bind fun r10 =>
      if r10 = 0 then
        (f_X4_isWord (LrR v) 9).bind fun r14 =>
        if r14 = 0 then
          (f_X4_isWord (LrR v) 10).bind fun r18 =>
          if r18 = 0 then
            (f_X4_isWord (LrR v) 11).bind fun r22 =>
            if r22 = 0 then
              (f_X4_isWord (LrR v) 12).bind fun r26 =>
              if r26 = 0 then
                (f_X4_isWord (LrR v) 13).bind fun r30 =>
                if r30 = 0 then
                  some (-1)
                else
                  some 7
              else
                some 6
            else
              some 5
          else
            some 4
        else
          some 3
      else
        some 2
    else
      some 1
  else
    some 0
abbrev Lrtu : Type := Int32 × RV × TV × UV
def LrtuHs (v : Lrtu) : Int32 := v.1
def LrtuR (v : Lrtu) : RV := v.2.1
def LrtuT (v : Lrtu) : TV := v.2.2.1
def LrtuU (v : Lrtu) : UV := v.2.2.2
def Lrtu_sHs (v : Lrtu) (x : Int32) : Lrtu := (x, LrtuR v, LrtuT v, LrtuU v)
def Lrtu_sR (v : Lrtu) (x : RV) : Lrtu := (LrtuHs v, x, LrtuT v, LrtuU v)
def Lrtu_sT (v : Lrtu) (x : TV) : Lrtu := (LrtuHs v, LrtuR v, x, LrtuU v)
def Lrtu_sU (v : Lrtu) (x : UV) : Lrtu := (LrtuHs v, LrtuR v, LrtuT v, x)
def WLrtu (v : Lrtu) : List AC := [.inr (8, [.ref 1, .ref 3, .ref 1001002, .ref 1001003, .ref 1001004, .ref 1001005, .ref 1001006, .int (LrtuHs v), .ref 9, .ref 1001009]), .inr (4, [.ref 2, .int (RVLn (LrtuR v)), .int (RVEn (LrtuR v)), .int (RVNx (LrtuR v)), .int (RVTk (LrtuR v)), .int (RVAt (LrtuR v)), .long (RVWd (LrtuR v)), .int (RVVa (LrtuR v)), .int (RVEk (LrtuR v)), .int (RVEa (LrtuR v))]), .inl (0, 600, .inl (RVTx (LrtuR v))), .inr (5, [.ref 4, .ref 5, .ref 6, .ref 7, .ref 8, .int (TVCt (LrtuT v))]), .inl (0, 30, .inl (TVK (LrtuT v))), .inl (0, 30, .inl (TVA (LrtuT v))), .inl (0, 30, .inl (TVB (LrtuT v))), .inl (0, 30, .inl (TVC (LrtuT v))), .inl (0, 30, .inl (TVD (LrtuT v))), .inr (6, [.ref 10, .ref 12, .ref 14]), .inr (2, [.ref 11, .int (NVCt (UVQs (LrtuU v)))]), .inl (1, 8, .inr (.inl (NVPk (UVQs (LrtuU v))))), .inr (2, [.ref 13, .int (NVCt (UVOs (LrtuU v)))]), .inl (1, 8, .inr (.inl (NVPk (UVOs (LrtuU v))))), .inl (0, 6, .inl (UVSp (LrtuU v)))]
def f_X8_readStatement_j234 (l1 : Int32) (l2 : Int32) (l3 : Int32) (l4 : Int32) (l5 : Int32) (v : Lrtu) : Option (Unit × Lrtu) :=
  bnd2 (f_X4_semicolon (LrtuR v)) fun r15 w16 =>
  (f_X4_isValid w16).bind fun r18 =>
  if r18 = 0 then
    some ((), (Lrtu_sR v w16))
  else
    bnd2 (f_X5_add (LrtuT v) l1 l2 l3 l4 l5) fun r22 w23 =>
    some ((), (Lrtu_sT (Lrtu_sR v w16) w23))
def f_X8_readStatement_j219 (l1 : Int32) (l3 : Int32) (l4 : Int32) (l5 : Int32) (v : Lrtu) : Option (Unit × Lrtu) :=
  bnd2 (f_X4_knownName ((LrtuR v), (UVQs (LrtuU v)))) fun r26 w27 =>
  f_X8_readStatement_j234 l1 r26 l3 l4 l5 (Lrtu_sU (Lrtu_sR v (P_RV_NVA w27)) (UV_sQs (LrtuU v) (P_RV_NVB w27)))
def f_X8_readStatement (v : Lrtu) (a : Int32) : Option (Unit × Lrtu) :=
  if a = 0 then
    bnd2 (f_X4_knownName ((LrtuR v), (UVQs (LrtuU v)))) fun r3 w4 =>
    bnd2 (f_X4_knownName ((P_RV_NVA w4), (UVOs (LrtuU v)))) fun r6 w7 =>
    bnd2 (f_X4_number (P_RV_NVA w7) 0 99) fun r9 w10 =>
    bnd2 (f_X4_number w10 1 99) fun r12 w13 =>
    f_X8_readStatement_j234 a r3 r6 r9 r12 (Lrtu_sU (Lrtu_sR v w13) (UV_sOs (UV_sQs (LrtuU v) (P_RV_NVB w4)) (P_RV_NVB w7)))
  else
  if a = 1 then
    f_X8_readStatement_j219 a (-1) (-1) (-1) v
  else
  if a = 2 then
    bnd2 (f_X4_number (LrtuR v) 0 39) fun r30 w31 =>
    f_X8_readStatement_j234 a r30 (-1) (-1) (-1) (Lrtu_sR v w31)
  else
  if a = 3 then
    bnd2 (f_X4_number (LrtuR v) 0 39) fun r34 w35 =>
    bnd2 (f_X4_number w35 0 99) fun r37 w38 =>
    f_X8_readStatement_j234 a r34 r37 (-1) (-1) (Lrtu_sR v w38)
  else
  if a = 4 then
    bnd2 (f_X4_number (LrtuR v) 0 39) fun r41 w42 =>
    bnd2 (f_X4_knownName (w42, (UVQs (LrtuU v)))) fun r44 w45 =>
    f_X8_readStatement_j234 a r41 r44 (-1) (-1) (Lrtu_sU (Lrtu_sR v (P_RV_NVA w45)) (UV_sQs (LrtuU v) (P_RV_NVB w45)))
  else
  if a = 5 then
    bnd2 (f_X4_knownName ((LrtuR v), (UVQs (LrtuU v)))) fun r48 w49 =>
    bnd2 (f_X4_knownName ((P_RV_NVA w49), (P_RV_NVB w49))) fun r51 w52 =>
    if r48 = r51 then
      bnd2 (f_X4_fail (P_RV_NVA w52) 3) fun r55 w56 =>
      f_X8_readStatement_j234 a r48 r51 (-1) (-1) (Lrtu_sU (Lrtu_sR v w56) (UV_sQs (LrtuU v) (P_RV_NVB w52)))
    else
      f_X8_readStatement_j234 a r48 r51 (-1) (-1) (Lrtu_sU (Lrtu_sR v (P_RV_NVA w52)) (UV_sQs (LrtuU v) (P_RV_NVB w52)))
  else
  f_X8_readStatement_j219 a (-1) (-1) (-1) v
def f_X8_readScript_h17 : Nat → Int32 → Lrtu → Option (Int32 × Lrtu)
  | 0, _, _ => none
  | n + 1, l1, v =>
    if 600 < l1 then
      (f_X4_isValid (LrtuR v)).bind fun r6 =>
      if ¬ (r6 = 0 ∨ r6 = 1) then none else
      some (r6, v)
    else
      bnd2 (f_X4_startsStatement (LrtuR v)) fun r10 w11 =>
      if r10 = 0 then
        (f_X4_isValid w11).bind fun r14 =>
        if ¬ (r14 = 0 ∨ r14 = 1) then none else
        some (r14, (Lrtu_sR v w11))
      else
        (f_X8_statementKind ((LrtuHs v), w11)).bind fun r18 =>
        if r18 = (-1) then
          bnd2 (f_X4_fail w11 1) fun r29 w30 =>
          f_X8_readScript_h17 n (l1 + 1) (Lrtu_sR v w30)
        else
          if (TVCt (LrtuT v)) < 30 then
            bnd2 (f_X8_readStatement (Lrtu_sR v w11) r18) fun r23 w24 =>
            f_X8_readScript_h17 n (l1 + 1) w24
          else
            bnd2 (f_X4_fail w11 4) fun r26 w27 =>
            f_X8_readScript_h17 n (l1 + 1) (Lrtu_sR v w27)
def f_X8_readScript (v : Lrtu) : Option (Int32 × Lrtu) :=
  bnd2 (f_X4_begin (LrtuR v)) fun r2 w3 =>
  f_X8_readScript_h17 FU 0 (Lrtu_sT (Lrtu_sR v w3) (TV_sCt (LrtuT v) 0))
abbrev Lysk : Type := Int32 × YV × SV × SV
def LyskHs (v : Lysk) : Int32 := v.1
def LyskY (v : Lysk) : YV := v.2.1
def LyskS (v : Lysk) : SV := v.2.2.1
def LyskK (v : Lysk) : SV := v.2.2.2
def Lysk_sHs (v : Lysk) (x : Int32) : Lysk := (x, LyskY v, LyskS v, LyskK v)
def Lysk_sY (v : Lysk) (x : YV) : Lysk := (LyskHs v, x, LyskS v, LyskK v)
def Lysk_sS (v : Lysk) (x : SV) : Lysk := (LyskHs v, LyskY v, x, LyskK v)
def Lysk_sK (v : Lysk) (x : SV) : Lysk := (LyskHs v, LyskY v, LyskS v, x)
def WLysk (v : Lysk) : List AC := [.inr (8, [.ref 1001000, .ref 1001001, .ref 1001002, .ref 1, .ref 123, .ref 1001005, .ref 138, .int (LyskHs v), .ref 1001008, .ref 1001009]), .inr (1, [.ref 2, .int (YVCt (LyskY v)), .int (YVNx (LyskY v))]), .inl (4, 8, .inr (.inr (.inr (.inr (hA 3))))), .inr (7, [.ref 4, .int (SVJc ((YVKs (LyskY v)) 0)), .ref 11, .ref 12, .ref 13, .ref 14, .ref 15, .ref 16, .ref 17]), .inr (0, [.ref 5, .ref 6, .ref 7, .ref 8, .ref 9, .int (HVCm (SVH ((YVKs (LyskY v)) 0))), .int (HVSw (SVH ((YVKs (LyskY v)) 0))), .ref 10]), .inl (0, 40, .inl (HVPr (SVH ((YVKs (LyskY v)) 0)))), .inl (0, 40, .inl (HVLf (SVH ((YVKs (LyskY v)) 0)))), .inl (0, 40, .inl (HVRt (SVH ((YVKs (LyskY v)) 0)))), .inl (0, 40, .inl (HVUp (SVH ((YVKs (LyskY v)) 0)))), .inl (0, 40, .inl (HVRk (SVH ((YVKs (LyskY v)) 0)))), .inl (0, 40, .inl (HVPa (SVH ((YVKs (LyskY v)) 0)))), .inl (0, 40, .inl (SVOw ((YVKs (LyskY v)) 0))), .inl (0, 40, .inl (SVPg ((YVKs (LyskY v)) 0))), .inl (0, 40, .inl (SVFt ((YVKs (LyskY v)) 0))), .inl (0, 40, .inl (SVQu ((YVKs (LyskY v)) 0))), .inl (0, 6, .inl (SVRo ((YVKs (LyskY v)) 0))), .inl (0, 6, .inl (SVPd ((YVKs (LyskY v)) 0))), .inl (2, 6, .inl (SVPs ((YVKs (LyskY v)) 0))), .inr (7, [.ref 19, .int (SVJc ((YVKs (LyskY v)) 1)), .ref 26, .ref 27, .ref 28, .ref 29, .ref 30, .ref 31, .ref 32]), .inr (0, [.ref 20, .ref 21, .ref 22, .ref 23, .ref 24, .int (HVCm (SVH ((YVKs (LyskY v)) 1))), .int (HVSw (SVH ((YVKs (LyskY v)) 1))), .ref 25]), .inl (0, 40, .inl (HVPr (SVH ((YVKs (LyskY v)) 1)))), .inl (0, 40, .inl (HVLf (SVH ((YVKs (LyskY v)) 1)))), .inl (0, 40, .inl (HVRt (SVH ((YVKs (LyskY v)) 1)))), .inl (0, 40, .inl (HVUp (SVH ((YVKs (LyskY v)) 1)))), .inl (0, 40, .inl (HVRk (SVH ((YVKs (LyskY v)) 1)))), .inl (0, 40, .inl (HVPa (SVH ((YVKs (LyskY v)) 1)))), .inl (0, 40, .inl (SVOw ((YVKs (LyskY v)) 1))), .inl (0, 40, .inl (SVPg ((YVKs (LyskY v)) 1))), .inl (0, 40, .inl (SVFt ((YVKs (LyskY v)) 1))), .inl (0, 40, .inl (SVQu ((YVKs (LyskY v)) 1))), .inl (0, 6, .inl (SVRo ((YVKs (LyskY v)) 1))), .inl (0, 6, .inl (SVPd ((YVKs (LyskY v)) 1))), .inl (2, 6, .inl (SVPs ((YVKs (LyskY v)) 1))), .inr (7, [.ref 34, .int (SVJc ((YVKs (LyskY v)) 2)), .ref 41, .ref 42, .ref 43, .ref 44, .ref 45, .ref 46, .ref 47]), .inr (0, [.ref 35, .ref 36, .ref 37, .ref 38, .ref 39, .int (HVCm (SVH ((YVKs (LyskY v)) 2))), .int (HVSw (SVH ((YVKs (LyskY v)) 2))), .ref 40]), .inl (0, 40, .inl (HVPr (SVH ((YVKs (LyskY v)) 2)))), .inl (0, 40, .inl (HVLf (SVH ((YVKs (LyskY v)) 2)))), .inl (0, 40, .inl (HVRt (SVH ((YVKs (LyskY v)) 2)))), .inl (0, 40, .inl (HVUp (SVH ((YVKs (LyskY v)) 2)))), .inl (0, 40, .inl (HVRk (SVH ((YVKs (LyskY v)) 2)))), .inl (0, 40, .inl (HVPa (SVH ((YVKs (LyskY v)) 2)))), .inl (0, 40, .inl (SVOw ((YVKs (LyskY v)) 2))), .inl (0, 40, .inl (SVPg ((YVKs (LyskY v)) 2))), .inl (0, 40, .inl (SVFt ((YVKs (LyskY v)) 2))), .inl (0, 40, .inl (SVQu ((YVKs (LyskY v)) 2))), .inl (0, 6, .inl (SVRo ((YVKs (LyskY v)) 2))), .inl (0, 6, .inl (SVPd ((YVKs (LyskY v)) 2))), .inl (2, 6, .inl (SVPs ((YVKs (LyskY v)) 2))), .inr (7, [.ref 49, .int (SVJc ((YVKs (LyskY v)) 3)), .ref 56, .ref 57, .ref 58, .ref 59, .ref 60, .ref 61, .ref 62]), .inr (0, [.ref 50, .ref 51, .ref 52, .ref 53, .ref 54, .int (HVCm (SVH ((YVKs (LyskY v)) 3))), .int (HVSw (SVH ((YVKs (LyskY v)) 3))), .ref 55]), .inl (0, 40, .inl (HVPr (SVH ((YVKs (LyskY v)) 3)))), .inl (0, 40, .inl (HVLf (SVH ((YVKs (LyskY v)) 3)))), .inl (0, 40, .inl (HVRt (SVH ((YVKs (LyskY v)) 3)))), .inl (0, 40, .inl (HVUp (SVH ((YVKs (LyskY v)) 3)))), .inl (0, 40, .inl (HVRk (SVH ((YVKs (LyskY v)) 3)))), .inl (0, 40, .inl (HVPa (SVH ((YVKs (LyskY v)) 3)))), .inl (0, 40, .inl (SVOw ((YVKs (LyskY v)) 3))), .inl (0, 40, .inl (SVPg ((YVKs (LyskY v)) 3))), .inl (0, 40, .inl (SVFt ((YVKs (LyskY v)) 3))), .inl (0, 40, .inl (SVQu ((YVKs (LyskY v)) 3))), .inl (0, 6, .inl (SVRo ((YVKs (LyskY v)) 3))), .inl (0, 6, .inl (SVPd ((YVKs (LyskY v)) 3))), .inl (2, 6, .inl (SVPs ((YVKs (LyskY v)) 3))), .inr (7, [.ref 64, .int (SVJc ((YVKs (LyskY v)) 4)), .ref 71, .ref 72, .ref 73, .ref 74, .ref 75, .ref 76, .ref 77]), .inr (0, [.ref 65, .ref 66, .ref 67, .ref 68, .ref 69, .int (HVCm (SVH ((YVKs (LyskY v)) 4))), .int (HVSw (SVH ((YVKs (LyskY v)) 4))), .ref 70]), .inl (0, 40, .inl (HVPr (SVH ((YVKs (LyskY v)) 4)))), .inl (0, 40, .inl (HVLf (SVH ((YVKs (LyskY v)) 4)))), .inl (0, 40, .inl (HVRt (SVH ((YVKs (LyskY v)) 4)))), .inl (0, 40, .inl (HVUp (SVH ((YVKs (LyskY v)) 4)))), .inl (0, 40, .inl (HVRk (SVH ((YVKs (LyskY v)) 4)))), .inl (0, 40, .inl (HVPa (SVH ((YVKs (LyskY v)) 4)))), .inl (0, 40, .inl (SVOw ((YVKs (LyskY v)) 4))), .inl (0, 40, .inl (SVPg ((YVKs (LyskY v)) 4))), .inl (0, 40, .inl (SVFt ((YVKs (LyskY v)) 4))), .inl (0, 40, .inl (SVQu ((YVKs (LyskY v)) 4))), .inl (0, 6, .inl (SVRo ((YVKs (LyskY v)) 4))), .inl (0, 6, .inl (SVPd ((YVKs (LyskY v)) 4))), .inl (2, 6, .inl (SVPs ((YVKs (LyskY v)) 4))), .inr (7, [.ref 79, .int (SVJc ((YVKs (LyskY v)) 5)), .ref 86, .ref 87, .ref 88, .ref 89, .ref 90, .ref 91, .ref 92]), .inr (0, [.ref 80, .ref 81, .ref 82, .ref 83, .ref 84, .int (HVCm (SVH ((YVKs (LyskY v)) 5))), .int (HVSw (SVH ((YVKs (LyskY v)) 5))), .ref 85]), .inl (0, 40, .inl (HVPr (SVH ((YVKs (LyskY v)) 5)))), .inl (0, 40, .inl (HVLf (SVH ((YVKs (LyskY v)) 5)))), .inl (0, 40, .inl (HVRt (SVH ((YVKs (LyskY v)) 5)))), .inl (0, 40, .inl (HVUp (SVH ((YVKs (LyskY v)) 5)))), .inl (0, 40, .inl (HVRk (SVH ((YVKs (LyskY v)) 5)))), .inl (0, 40, .inl (HVPa (SVH ((YVKs (LyskY v)) 5)))), .inl (0, 40, .inl (SVOw ((YVKs (LyskY v)) 5))), .inl (0, 40, .inl (SVPg ((YVKs (LyskY v)) 5))), .inl (0, 40, .inl (SVFt ((YVKs (LyskY v)) 5))), .inl (0, 40, .inl (SVQu ((YVKs (LyskY v)) 5))), .inl (0, 6, .inl (SVRo ((YVKs (LyskY v)) 5))), .inl (0, 6, .inl (SVPd ((YVKs (LyskY v)) 5))), .inl (2, 6, .inl (SVPs ((YVKs (LyskY v)) 5))), .inr (7, [.ref 94, .int (SVJc ((YVKs (LyskY v)) 6)), .ref 101, .ref 102, .ref 103, .ref 104, .ref 105, .ref 106, .ref 107]), .inr (0, [.ref 95, .ref 96, .ref 97, .ref 98, .ref 99, .int (HVCm (SVH ((YVKs (LyskY v)) 6))), .int (HVSw (SVH ((YVKs (LyskY v)) 6))), .ref 100]), .inl (0, 40, .inl (HVPr (SVH ((YVKs (LyskY v)) 6)))), .inl (0, 40, .inl (HVLf (SVH ((YVKs (LyskY v)) 6)))), .inl (0, 40, .inl (HVRt (SVH ((YVKs (LyskY v)) 6)))), .inl (0, 40, .inl (HVUp (SVH ((YVKs (LyskY v)) 6)))), .inl (0, 40, .inl (HVRk (SVH ((YVKs (LyskY v)) 6)))), .inl (0, 40, .inl (HVPa (SVH ((YVKs (LyskY v)) 6)))), .inl (0, 40, .inl (SVOw ((YVKs (LyskY v)) 6))), .inl (0, 40, .inl (SVPg ((YVKs (LyskY v)) 6))), .inl (0, 40, .inl (SVFt ((YVKs (LyskY v)) 6))), .inl (0, 40, .inl (SVQu ((YVKs (LyskY v)) 6))), .inl (0, 6, .inl (SVRo ((YVKs (LyskY v)) 6))), .inl (0, 6, .inl (SVPd ((YVKs (LyskY v)) 6))), .inl (2, 6, .inl (SVPs ((YVKs (LyskY v)) 6))), .inr (7, [.ref 109, .int (SVJc ((YVKs (LyskY v)) 7)), .ref 116, .ref 117, .ref 118, .ref 119, .ref 120, .ref 121, .ref 122]), .inr (0, [.ref 110, .ref 111, .ref 112, .ref 113, .ref 114, .int (HVCm (SVH ((YVKs (LyskY v)) 7))), .int (HVSw (SVH ((YVKs (LyskY v)) 7))), .ref 115]), .inl (0, 40, .inl (HVPr (SVH ((YVKs (LyskY v)) 7)))), .inl (0, 40, .inl (HVLf (SVH ((YVKs (LyskY v)) 7)))), .inl (0, 40, .inl (HVRt (SVH ((YVKs (LyskY v)) 7)))), .inl (0, 40, .inl (HVUp (SVH ((YVKs (LyskY v)) 7)))), .inl (0, 40, .inl (HVRk (SVH ((YVKs (LyskY v)) 7)))), .inl (0, 40, .inl (HVPa (SVH ((YVKs (LyskY v)) 7)))), .inl (0, 40, .inl (SVOw ((YVKs (LyskY v)) 7))), .inl (0, 40, .inl (SVPg ((YVKs (LyskY v)) 7))), .inl (0, 40, .inl (SVFt ((YVKs (LyskY v)) 7))), .inl (0, 40, .inl (SVQu ((YVKs (LyskY v)) 7))), .inl (0, 6, .inl (SVRo ((YVKs (LyskY v)) 7))), .inl (0, 6, .inl (SVPd ((YVKs (LyskY v)) 7))), .inl (2, 6, .inl (SVPs ((YVKs (LyskY v)) 7))), .inr (7, [.ref 124, .int (SVJc (LyskS v)), .ref 131, .ref 132, .ref 133, .ref 134, .ref 135, .ref 136, .ref 137]), .inr (0, [.ref 125, .ref 126, .ref 127, .ref 128, .ref 129, .int (HVCm (SVH (LyskS v))), .int (HVSw (SVH (LyskS v))), .ref 130]), .inl (0, 40, .inl (HVPr (SVH (LyskS v)))), .inl (0, 40, .inl (HVLf (SVH (LyskS v)))), .inl (0, 40, .inl (HVRt (SVH (LyskS v)))), .inl (0, 40, .inl (HVUp (SVH (LyskS v)))), .inl (0, 40, .inl (HVRk (SVH (LyskS v)))), .inl (0, 40, .inl (HVPa (SVH (LyskS v)))), .inl (0, 40, .inl (SVOw (LyskS v))), .inl (0, 40, .inl (SVPg (LyskS v))), .inl (0, 40, .inl (SVFt (LyskS v))), .inl (0, 40, .inl (SVQu (LyskS v))), .inl (0, 6, .inl (SVRo (LyskS v))), .inl (0, 6, .inl (SVPd (LyskS v))), .inl (2, 6, .inl (SVPs (LyskS v))), .inr (7, [.ref 139, .int (SVJc (LyskK v)), .ref 146, .ref 147, .ref 148, .ref 149, .ref 150, .ref 151, .ref 152]), .inr (0, [.ref 140, .ref 141, .ref 142, .ref 143, .ref 144, .int (HVCm (SVH (LyskK v))), .int (HVSw (SVH (LyskK v))), .ref 145]), .inl (0, 40, .inl (HVPr (SVH (LyskK v)))), .inl (0, 40, .inl (HVLf (SVH (LyskK v)))), .inl (0, 40, .inl (HVRt (SVH (LyskK v)))), .inl (0, 40, .inl (HVUp (SVH (LyskK v)))), .inl (0, 40, .inl (HVRk (SVH (LyskK v)))), .inl (0, 40, .inl (HVPa (SVH (LyskK v)))), .inl (0, 40, .inl (SVOw (LyskK v))), .inl (0, 40, .inl (SVPg (LyskK v))), .inl (0, 40, .inl (SVFt (LyskK v))), .inl (0, 40, .inl (SVQu (LyskK v))), .inl (0, 6, .inl (SVRo (LyskK v))), .inl (0, 6, .inl (SVPd (LyskK v))), .inl (2, 6, .inl (SVPs (LyskK v)))]
def f_X8_restoreState (v : Lysk) : Option ((Int32 ⊕ String) × Lysk) :=
  if (LyskHs v) = 0 then
    some (.inr "java/util/NoSuchElementException", v)
  else
    bnd2 (f_X7_copyFrom ((LyskS v), (LyskK v))) fun r3 w4 =>
    bnd2 (f_X1_clear (LyskY v)) fun r6 w7 =>
    some ((.inl (SVJc (P_SV_SVA w4))), ((LyskHs v), w7, (P_SV_SVA w4), (P_SV_SVB w4)))
def f_X8_rightChild (v : Ls) (a : Int32) : Option ((Int32 ⊕ String)) :=
  bndT (f_X8_checkJob v a) (fun r2 =>
    if oob a 40 then none else
    some (.inl ((HVRt (SVH (LsS v))) (Int32.toNatClampNeg a)))
    ) (fun x => some (.inr x))
def f_X8_root (v : Lsu) (a : Int32) : Option ((Int32 ⊕ String)) :=
  bndT (f_X8_checkQueue ((LsuHs v), (LsuU v)) a) (fun r2 =>
    if oob a 6 then none else
    some (.inl ((SVRo (LsuS v)) (Int32.toNatClampNeg a)))
    ) (fun x => some (.inr x))
abbrev Lrtysu : Type := Int32 × RV × TV × YV × SV × UV
def LrtysuHs (v : Lrtysu) : Int32 := v.1
def LrtysuR (v : Lrtysu) : RV := v.2.1
def LrtysuT (v : Lrtysu) : TV := v.2.2.1
def LrtysuY (v : Lrtysu) : YV := v.2.2.2.1
def LrtysuS (v : Lrtysu) : SV := v.2.2.2.2.1
def LrtysuU (v : Lrtysu) : UV := v.2.2.2.2.2
def Lrtysu_sHs (v : Lrtysu) (x : Int32) : Lrtysu := (x, LrtysuR v, LrtysuT v, LrtysuY v, LrtysuS v, LrtysuU v)
def Lrtysu_sR (v : Lrtysu) (x : RV) : Lrtysu := (LrtysuHs v, x, LrtysuT v, LrtysuY v, LrtysuS v, LrtysuU v)
def Lrtysu_sT (v : Lrtysu) (x : TV) : Lrtysu := (LrtysuHs v, LrtysuR v, x, LrtysuY v, LrtysuS v, LrtysuU v)
def Lrtysu_sY (v : Lrtysu) (x : YV) : Lrtysu := (LrtysuHs v, LrtysuR v, LrtysuT v, x, LrtysuS v, LrtysuU v)
def Lrtysu_sS (v : Lrtysu) (x : SV) : Lrtysu := (LrtysuHs v, LrtysuR v, LrtysuT v, LrtysuY v, x, LrtysuU v)
def Lrtysu_sU (v : Lrtysu) (x : UV) : Lrtysu := (LrtysuHs v, LrtysuR v, LrtysuT v, LrtysuY v, LrtysuS v, x)
def WLrtysu (v : Lrtysu) : List AC := [.inr (8, [.ref 1, .ref 3, .ref 1001002, .ref 9, .ref 131, .ref 1001005, .ref 1001006, .int (LrtysuHs v), .ref 146, .ref 1001009]), .inr (4, [.ref 2, .int (RVLn (LrtysuR v)), .int (RVEn (LrtysuR v)), .int (RVNx (LrtysuR v)), .int (RVTk (LrtysuR v)), .int (RVAt (LrtysuR v)), .long (RVWd (LrtysuR v)), .int (RVVa (LrtysuR v)), .int (RVEk (LrtysuR v)), .int (RVEa (LrtysuR v))]), .inl (0, 600, .inl (RVTx (LrtysuR v))), .inr (5, [.ref 4, .ref 5, .ref 6, .ref 7, .ref 8, .int (TVCt (LrtysuT v))]), .inl (0, 30, .inl (TVK (LrtysuT v))), .inl (0, 30, .inl (TVA (LrtysuT v))), .inl (0, 30, .inl (TVB (LrtysuT v))), .inl (0, 30, .inl (TVC (LrtysuT v))), .inl (0, 30, .inl (TVD (LrtysuT v))), .inr (1, [.ref 10, .int (YVCt (LrtysuY v)), .int (YVNx (LrtysuY v))]), .inl (4, 8, .inr (.inr (.inr (.inr (hA 11))))), .inr (7, [.ref 12, .int (SVJc ((YVKs (LrtysuY v)) 0)), .ref 19, .ref 20, .ref 21, .ref 22, .ref 23, .ref 24, .ref 25]), .inr (0, [.ref 13, .ref 14, .ref 15, .ref 16, .ref 17, .int (HVCm (SVH ((YVKs (LrtysuY v)) 0))), .int (HVSw (SVH ((YVKs (LrtysuY v)) 0))), .ref 18]), .inl (0, 40, .inl (HVPr (SVH ((YVKs (LrtysuY v)) 0)))), .inl (0, 40, .inl (HVLf (SVH ((YVKs (LrtysuY v)) 0)))), .inl (0, 40, .inl (HVRt (SVH ((YVKs (LrtysuY v)) 0)))), .inl (0, 40, .inl (HVUp (SVH ((YVKs (LrtysuY v)) 0)))), .inl (0, 40, .inl (HVRk (SVH ((YVKs (LrtysuY v)) 0)))), .inl (0, 40, .inl (HVPa (SVH ((YVKs (LrtysuY v)) 0)))), .inl (0, 40, .inl (SVOw ((YVKs (LrtysuY v)) 0))), .inl (0, 40, .inl (SVPg ((YVKs (LrtysuY v)) 0))), .inl (0, 40, .inl (SVFt ((YVKs (LrtysuY v)) 0))), .inl (0, 40, .inl (SVQu ((YVKs (LrtysuY v)) 0))), .inl (0, 6, .inl (SVRo ((YVKs (LrtysuY v)) 0))), .inl (0, 6, .inl (SVPd ((YVKs (LrtysuY v)) 0))), .inl (2, 6, .inl (SVPs ((YVKs (LrtysuY v)) 0))), .inr (7, [.ref 27, .int (SVJc ((YVKs (LrtysuY v)) 1)), .ref 34, .ref 35, .ref 36, .ref 37, .ref 38, .ref 39, .ref 40]), .inr (0, [.ref 28, .ref 29, .ref 30, .ref 31, .ref 32, .int (HVCm (SVH ((YVKs (LrtysuY v)) 1))), .int (HVSw (SVH ((YVKs (LrtysuY v)) 1))), .ref 33]), .inl (0, 40, .inl (HVPr (SVH ((YVKs (LrtysuY v)) 1)))), .inl (0, 40, .inl (HVLf (SVH ((YVKs (LrtysuY v)) 1)))), .inl (0, 40, .inl (HVRt (SVH ((YVKs (LrtysuY v)) 1)))), .inl (0, 40, .inl (HVUp (SVH ((YVKs (LrtysuY v)) 1)))), .inl (0, 40, .inl (HVRk (SVH ((YVKs (LrtysuY v)) 1)))), .inl (0, 40, .inl (HVPa (SVH ((YVKs (LrtysuY v)) 1)))), .inl (0, 40, .inl (SVOw ((YVKs (LrtysuY v)) 1))), .inl (0, 40, .inl (SVPg ((YVKs (LrtysuY v)) 1))), .inl (0, 40, .inl (SVFt ((YVKs (LrtysuY v)) 1))), .inl (0, 40, .inl (SVQu ((YVKs (LrtysuY v)) 1))), .inl (0, 6, .inl (SVRo ((YVKs (LrtysuY v)) 1))), .inl (0, 6, .inl (SVPd ((YVKs (LrtysuY v)) 1))), .inl (2, 6, .inl (SVPs ((YVKs (LrtysuY v)) 1))), .inr (7, [.ref 42, .int (SVJc ((YVKs (LrtysuY v)) 2)), .ref 49, .ref 50, .ref 51, .ref 52, .ref 53, .ref 54, .ref 55]), .inr (0, [.ref 43, .ref 44, .ref 45, .ref 46, .ref 47, .int (HVCm (SVH ((YVKs (LrtysuY v)) 2))), .int (HVSw (SVH ((YVKs (LrtysuY v)) 2))), .ref 48]), .inl (0, 40, .inl (HVPr (SVH ((YVKs (LrtysuY v)) 2)))), .inl (0, 40, .inl (HVLf (SVH ((YVKs (LrtysuY v)) 2)))), .inl (0, 40, .inl (HVRt (SVH ((YVKs (LrtysuY v)) 2)))), .inl (0, 40, .inl (HVUp (SVH ((YVKs (LrtysuY v)) 2)))), .inl (0, 40, .inl (HVRk (SVH ((YVKs (LrtysuY v)) 2)))), .inl (0, 40, .inl (HVPa (SVH ((YVKs (LrtysuY v)) 2)))), .inl (0, 40, .inl (SVOw ((YVKs (LrtysuY v)) 2))), .inl (0, 40, .inl (SVPg ((YVKs (LrtysuY v)) 2))), .inl (0, 40, .inl (SVFt ((YVKs (LrtysuY v)) 2))), .inl (0, 40, .inl (SVQu ((YVKs (LrtysuY v)) 2))), .inl (0, 6, .inl (SVRo ((YVKs (LrtysuY v)) 2))), .inl (0, 6, .inl (SVPd ((YVKs (LrtysuY v)) 2))), .inl (2, 6, .inl (SVPs ((YVKs (LrtysuY v)) 2))), .inr (7, [.ref 57, .int (SVJc ((YVKs (LrtysuY v)) 3)), .ref 64, .ref 65, .ref 66, .ref 67, .ref 68, .ref 69, .ref 70]), .inr (0, [.ref 58, .ref 59, .ref 60, .ref 61, .ref 62, .int (HVCm (SVH ((YVKs (LrtysuY v)) 3))), .int (HVSw (SVH ((YVKs (LrtysuY v)) 3))), .ref 63]), .inl (0, 40, .inl (HVPr (SVH ((YVKs (LrtysuY v)) 3)))), .inl (0, 40, .inl (HVLf (SVH ((YVKs (LrtysuY v)) 3)))), .inl (0, 40, .inl (HVRt (SVH ((YVKs (LrtysuY v)) 3)))), .inl (0, 40, .inl (HVUp (SVH ((YVKs (LrtysuY v)) 3)))), .inl (0, 40, .inl (HVRk (SVH ((YVKs (LrtysuY v)) 3)))), .inl (0, 40, .inl (HVPa (SVH ((YVKs (LrtysuY v)) 3)))), .inl (0, 40, .inl (SVOw ((YVKs (LrtysuY v)) 3))), .inl (0, 40, .inl (SVPg ((YVKs (LrtysuY v)) 3))), .inl (0, 40, .inl (SVFt ((YVKs (LrtysuY v)) 3))), .inl (0, 40, .inl (SVQu ((YVKs (LrtysuY v)) 3))), .inl (0, 6, .inl (SVRo ((YVKs (LrtysuY v)) 3))), .inl (0, 6, .inl (SVPd ((YVKs (LrtysuY v)) 3))), .inl (2, 6, .inl (SVPs ((YVKs (LrtysuY v)) 3))), .inr (7, [.ref 72, .int (SVJc ((YVKs (LrtysuY v)) 4)), .ref 79, .ref 80, .ref 81, .ref 82, .ref 83, .ref 84, .ref 85]), .inr (0, [.ref 73, .ref 74, .ref 75, .ref 76, .ref 77, .int (HVCm (SVH ((YVKs (LrtysuY v)) 4))), .int (HVSw (SVH ((YVKs (LrtysuY v)) 4))), .ref 78]), .inl (0, 40, .inl (HVPr (SVH ((YVKs (LrtysuY v)) 4)))), .inl (0, 40, .inl (HVLf (SVH ((YVKs (LrtysuY v)) 4)))), .inl (0, 40, .inl (HVRt (SVH ((YVKs (LrtysuY v)) 4)))), .inl (0, 40, .inl (HVUp (SVH ((YVKs (LrtysuY v)) 4)))), .inl (0, 40, .inl (HVRk (SVH ((YVKs (LrtysuY v)) 4)))), .inl (0, 40, .inl (HVPa (SVH ((YVKs (LrtysuY v)) 4)))), .inl (0, 40, .inl (SVOw ((YVKs (LrtysuY v)) 4))), .inl (0, 40, .inl (SVPg ((YVKs (LrtysuY v)) 4))), .inl (0, 40, .inl (SVFt ((YVKs (LrtysuY v)) 4))), .inl (0, 40, .inl (SVQu ((YVKs (LrtysuY v)) 4))), .inl (0, 6, .inl (SVRo ((YVKs (LrtysuY v)) 4))), .inl (0, 6, .inl (SVPd ((YVKs (LrtysuY v)) 4))), .inl (2, 6, .inl (SVPs ((YVKs (LrtysuY v)) 4))), .inr (7, [.ref 87, .int (SVJc ((YVKs (LrtysuY v)) 5)), .ref 94, .ref 95, .ref 96, .ref 97, .ref 98, .ref 99, .ref 100]), .inr (0, [.ref 88, .ref 89, .ref 90, .ref 91, .ref 92, .int (HVCm (SVH ((YVKs (LrtysuY v)) 5))), .int (HVSw (SVH ((YVKs (LrtysuY v)) 5))), .ref 93]), .inl (0, 40, .inl (HVPr (SVH ((YVKs (LrtysuY v)) 5)))), .inl (0, 40, .inl (HVLf (SVH ((YVKs (LrtysuY v)) 5)))), .inl (0, 40, .inl (HVRt (SVH ((YVKs (LrtysuY v)) 5)))), .inl (0, 40, .inl (HVUp (SVH ((YVKs (LrtysuY v)) 5)))), .inl (0, 40, .inl (HVRk (SVH ((YVKs (LrtysuY v)) 5)))), .inl (0, 40, .inl (HVPa (SVH ((YVKs (LrtysuY v)) 5)))), .inl (0, 40, .inl (SVOw ((YVKs (LrtysuY v)) 5))), .inl (0, 40, .inl (SVPg ((YVKs (LrtysuY v)) 5))), .inl (0, 40, .inl (SVFt ((YVKs (LrtysuY v)) 5))), .inl (0, 40, .inl (SVQu ((YVKs (LrtysuY v)) 5))), .inl (0, 6, .inl (SVRo ((YVKs (LrtysuY v)) 5))), .inl (0, 6, .inl (SVPd ((YVKs (LrtysuY v)) 5))), .inl (2, 6, .inl (SVPs ((YVKs (LrtysuY v)) 5))), .inr (7, [.ref 102, .int (SVJc ((YVKs (LrtysuY v)) 6)), .ref 109, .ref 110, .ref 111, .ref 112, .ref 113, .ref 114, .ref 115]), .inr (0, [.ref 103, .ref 104, .ref 105, .ref 106, .ref 107, .int (HVCm (SVH ((YVKs (LrtysuY v)) 6))), .int (HVSw (SVH ((YVKs (LrtysuY v)) 6))), .ref 108]), .inl (0, 40, .inl (HVPr (SVH ((YVKs (LrtysuY v)) 6)))), .inl (0, 40, .inl (HVLf (SVH ((YVKs (LrtysuY v)) 6)))), .inl (0, 40, .inl (HVRt (SVH ((YVKs (LrtysuY v)) 6)))), .inl (0, 40, .inl (HVUp (SVH ((YVKs (LrtysuY v)) 6)))), .inl (0, 40, .inl (HVRk (SVH ((YVKs (LrtysuY v)) 6)))), .inl (0, 40, .inl (HVPa (SVH ((YVKs (LrtysuY v)) 6)))), .inl (0, 40, .inl (SVOw ((YVKs (LrtysuY v)) 6))), .inl (0, 40, .inl (SVPg ((YVKs (LrtysuY v)) 6))), .inl (0, 40, .inl (SVFt ((YVKs (LrtysuY v)) 6))), .inl (0, 40, .inl (SVQu ((YVKs (LrtysuY v)) 6))), .inl (0, 6, .inl (SVRo ((YVKs (LrtysuY v)) 6))), .inl (0, 6, .inl (SVPd ((YVKs (LrtysuY v)) 6))), .inl (2, 6, .inl (SVPs ((YVKs (LrtysuY v)) 6))), .inr (7, [.ref 117, .int (SVJc ((YVKs (LrtysuY v)) 7)), .ref 124, .ref 125, .ref 126, .ref 127, .ref 128, .ref 129, .ref 130]), .inr (0, [.ref 118, .ref 119, .ref 120, .ref 121, .ref 122, .int (HVCm (SVH ((YVKs (LrtysuY v)) 7))), .int (HVSw (SVH ((YVKs (LrtysuY v)) 7))), .ref 123]), .inl (0, 40, .inl (HVPr (SVH ((YVKs (LrtysuY v)) 7)))), .inl (0, 40, .inl (HVLf (SVH ((YVKs (LrtysuY v)) 7)))), .inl (0, 40, .inl (HVRt (SVH ((YVKs (LrtysuY v)) 7)))), .inl (0, 40, .inl (HVUp (SVH ((YVKs (LrtysuY v)) 7)))), .inl (0, 40, .inl (HVRk (SVH ((YVKs (LrtysuY v)) 7)))), .inl (0, 40, .inl (HVPa (SVH ((YVKs (LrtysuY v)) 7)))), .inl (0, 40, .inl (SVOw ((YVKs (LrtysuY v)) 7))), .inl (0, 40, .inl (SVPg ((YVKs (LrtysuY v)) 7))), .inl (0, 40, .inl (SVFt ((YVKs (LrtysuY v)) 7))), .inl (0, 40, .inl (SVQu ((YVKs (LrtysuY v)) 7))), .inl (0, 6, .inl (SVRo ((YVKs (LrtysuY v)) 7))), .inl (0, 6, .inl (SVPd ((YVKs (LrtysuY v)) 7))), .inl (2, 6, .inl (SVPs ((YVKs (LrtysuY v)) 7))), .inr (7, [.ref 132, .int (SVJc (LrtysuS v)), .ref 139, .ref 140, .ref 141, .ref 142, .ref 143, .ref 144, .ref 145]), .inr (0, [.ref 133, .ref 134, .ref 135, .ref 136, .ref 137, .int (HVCm (SVH (LrtysuS v))), .int (HVSw (SVH (LrtysuS v))), .ref 138]), .inl (0, 40, .inl (HVPr (SVH (LrtysuS v)))), .inl (0, 40, .inl (HVLf (SVH (LrtysuS v)))), .inl (0, 40, .inl (HVRt (SVH (LrtysuS v)))), .inl (0, 40, .inl (HVUp (SVH (LrtysuS v)))), .inl (0, 40, .inl (HVRk (SVH (LrtysuS v)))), .inl (0, 40, .inl (HVPa (SVH (LrtysuS v)))), .inl (0, 40, .inl (SVOw (LrtysuS v))), .inl (0, 40, .inl (SVPg (LrtysuS v))), .inl (0, 40, .inl (SVFt (LrtysuS v))), .inl (0, 40, .inl (SVQu (LrtysuS v))), .inl (0, 6, .inl (SVRo (LrtysuS v))), .inl (0, 6, .inl (SVPd (LrtysuS v))), .inl (2, 6, .inl (SVPs (LrtysuS v))), .inr (6, [.ref 147, .ref 149, .ref 151]), .inr (2, [.ref 148, .int (NVCt (UVQs (LrtysuU v)))]), .inl (1, 8, .inr (.inl (NVPk (UVQs (LrtysuU v))))), .inr (2, [.ref 150, .int (NVCt (UVOs (LrtysuU v)))]), .inl (1, 8, .inr (.inl (NVPk (UVOs (LrtysuU v))))), .inl (0, 6, .inl (UVSp (LrtysuU v)))]
def f_X8_runScript_h22 : Nat → Int32 → Lrtysu → Option (Int32 × Lrtysu)
  | 0, _, _ => none
  | n + 1, l1, v =>
    if (TVCt (LrtysuT v)) ≤ l1 then
      some (l1, v)
    else
      bnd2 (f_X8_execute ((LrtysuHs v), (LrtysuT v), (LrtysuS v)) l1) fun r10 w11 =>
      if r10 = 0 then
        some (l1, ((LtsHs w11), (LrtysuR v), (LtsT w11), (LrtysuY v), (LtsS w11), (LrtysuU v)))
      else
        f_X8_runScript_h22 n (l1 + 1) ((LtsHs w11), (LrtysuR v), (LtsT w11), (LrtysuY v), (LtsS w11), (LrtysuU v))
def f_X8_runScript (v : Lrtysu) : Option (Int32 × Lrtysu) :=
  bnd2 (f_X8_readScript ((LrtysuHs v), (LrtysuR v), (LrtysuT v), (LrtysuU v))) fun r2 w3 =>
  if r2 = 0 then
    some ((-1), ((LrtuHs w3), (LrtuR w3), (LrtuT w3), (LrtysuY v), (LrtysuS v), (LrtuU w3)))
  else
    bnd2 (f_X1_keep ((LrtysuY v), (LrtysuS v))) fun r6 w7 =>
    f_X8_runScript_h22 FU 0 ((LrtuHs w3), (LrtuR w3), (LrtuT w3), (P_YV_SVA w7), (P_YV_SVB w7), (LrtuU w3))
abbrev Lsk : Type := Int32 × SV × SV
def LskHs (v : Lsk) : Int32 := v.1
def LskS (v : Lsk) : SV := v.2.1
def LskK (v : Lsk) : SV := v.2.2
def Lsk_sHs (v : Lsk) (x : Int32) : Lsk := (x, LskS v, LskK v)
def Lsk_sS (v : Lsk) (x : SV) : Lsk := (LskHs v, x, LskK v)
def Lsk_sK (v : Lsk) (x : SV) : Lsk := (LskHs v, LskS v, x)
def WLsk (v : Lsk) : List AC := [.inr (8, [.ref 1001000, .ref 1001001, .ref 1001002, .ref 1001003, .ref 1, .ref 1001005, .ref 16, .int (LskHs v), .ref 1001008, .ref 1001009]), .inr (7, [.ref 2, .int (SVJc (LskS v)), .ref 9, .ref 10, .ref 11, .ref 12, .ref 13, .ref 14, .ref 15]), .inr (0, [.ref 3, .ref 4, .ref 5, .ref 6, .ref 7, .int (HVCm (SVH (LskS v))), .int (HVSw (SVH (LskS v))), .ref 8]), .inl (0, 40, .inl (HVPr (SVH (LskS v)))), .inl (0, 40, .inl (HVLf (SVH (LskS v)))), .inl (0, 40, .inl (HVRt (SVH (LskS v)))), .inl (0, 40, .inl (HVUp (SVH (LskS v)))), .inl (0, 40, .inl (HVRk (SVH (LskS v)))), .inl (0, 40, .inl (HVPa (SVH (LskS v)))), .inl (0, 40, .inl (SVOw (LskS v))), .inl (0, 40, .inl (SVPg (LskS v))), .inl (0, 40, .inl (SVFt (LskS v))), .inl (0, 40, .inl (SVQu (LskS v))), .inl (0, 6, .inl (SVRo (LskS v))), .inl (0, 6, .inl (SVPd (LskS v))), .inl (2, 6, .inl (SVPs (LskS v))), .inr (7, [.ref 17, .int (SVJc (LskK v)), .ref 24, .ref 25, .ref 26, .ref 27, .ref 28, .ref 29, .ref 30]), .inr (0, [.ref 18, .ref 19, .ref 20, .ref 21, .ref 22, .int (HVCm (SVH (LskK v))), .int (HVSw (SVH (LskK v))), .ref 23]), .inl (0, 40, .inl (HVPr (SVH (LskK v)))), .inl (0, 40, .inl (HVLf (SVH (LskK v)))), .inl (0, 40, .inl (HVRt (SVH (LskK v)))), .inl (0, 40, .inl (HVUp (SVH (LskK v)))), .inl (0, 40, .inl (HVRk (SVH (LskK v)))), .inl (0, 40, .inl (HVPa (SVH (LskK v)))), .inl (0, 40, .inl (SVOw (LskK v))), .inl (0, 40, .inl (SVPg (LskK v))), .inl (0, 40, .inl (SVFt (LskK v))), .inl (0, 40, .inl (SVQu (LskK v))), .inl (0, 6, .inl (SVRo (LskK v))), .inl (0, 6, .inl (SVPd (LskK v))), .inl (2, 6, .inl (SVPs (LskK v)))]
def f_X8_saveState (v : Lsk) : Option (Int32 × Lsk) :=
  bnd2 (f_X7_copyFrom ((LskK v), (LskS v))) fun r2 w3 =>
  some ((SVJc (P_SV_SVB w3)), (1, (P_SV_SVB w3), (P_SV_SVA w3)))
def f_X8_setPaused (v : Lysu) (a : Int32) (b : Int32) : Option ((Int32 ⊕ String) × Lysu) :=
  bndT (f_X8_checkQueue ((LysuHs v), (LysuU v)) a) (fun r2 =>
    bnd2 (f_X1_keep ((LysuY v), (LysuS v))) fun r5 w6 =>
    if oob a 6 then none else
    bnd2 (f_X7_holdQueue (P_YV_SVB w6) a b) fun r9 w10 =>
    if ¬ (((SVPs (P_YV_SVB w6)) (Int32.toNatClampNeg a)) = 0 ∨ ((SVPs (P_YV_SVB w6)) (Int32.toNatClampNeg a)) = 1) then none else
    some ((.inl ((SVPs (P_YV_SVB w6)) (Int32.toNatClampNeg a))), (Lysu_sS (Lysu_sY v (P_YV_SVA w6)) w10))
    ) (fun x => some (.inr x, v))
def f_X8_size (v : Lsu) (a : Int32) : Option ((Int32 ⊕ String)) :=
  bndT (f_X8_checkQueue ((LsuHs v), (LsuU v)) a) (fun r2 =>
    (f_X7_jobsIn (LsuS v) a).bind fun r5 =>
    some (.inl r5)
    ) (fun x => some (.inr x))
def f_X8_speed (v : Lu) (a : Int32) : Option ((Int32 ⊕ String)) :=
  bndT (f_X8_checkQueue v a) (fun r2 =>
    if oob a 6 then none else
    some (.inl ((UVSp (LuU v)) (Int32.toNatClampNeg a)))
    ) (fun x => some (.inr x))
def f_X8_submit (v : Lysu) (a : Int32) (b : Int32) (c : Int32) (d : Int32) : Option ((Int32 ⊕ String) × Lysu) :=
  bndT (f_X8_checkQueue ((LysuHs v), (LysuU v)) a) (fun r2 =>
    bndT (f_X8_checkOwner ((LysuHs v), (LysuU v)) b) (fun r5 =>
      bndT (f_X8_checkPriority c) (fun r8 =>
        if d < 1 then
          some (.inr "java/lang/IllegalArgumentException", v)
        else
          if d ≤ 99 then
            (f_X7_isFull (LysuS v)).bind fun r13 =>
            if r13 = 0 then
              bnd2 (f_X1_keep ((LysuY v), (LysuS v))) fun r17 w18 =>
              bnd2 (f_X7_addJob (P_YV_SVB w18) a b c d) fun r20 w21 =>
              some ((.inl r20), (Lysu_sS (Lysu_sY v (P_YV_SVA w18)) w21))
            else
              some (.inr "java/lang/IllegalStateException", v)
          else
            some (.inr "java/lang/IllegalArgumentException", v)
        ) (fun x => some (.inr x, v))
      ) (fun x => some (.inr x, v))
    ) (fun x => some (.inr x, v))
def f_X8_swaps (v : Ls) : Option (Int32) :=
  some (HVSw (SVH (LsS v)))
def f_X8_truncateInput (v : Lr) (a : Int32) : Option (Int32 × Lr) :=
  if a < 0 then
    some (0, v)
  else
    if a ≤ (RVLn (LrR v)) then
      some (1, (Lr_sR v (RV_sLn (LrR v) a)))
    else
      some (0, v)
def f_X8_undo (v : Lys) : Option ((Int32 ⊕ String) × Lys) :=
  if (YVCt (LysY v)) = 0 then
    some (.inr "java/util/NoSuchElementException", v)
  else
    bnd2 (f_X1_takeBack ((LysY v), (LysS v))) fun r3 w4 =>
    some ((.inl (YVCt (P_YV_SVA w4))), (Lys_sS (Lys_sY v (P_YV_SVA w4)) (P_YV_SVB w4)))
def f_X8_waitingPages (v : Lsu) (a : Int32) : Option ((Int32 ⊕ String)) :=
  bndT (f_X8_checkQueue ((LsuHs v), (LsuU v)) a) (fun r2 =>
    (f_X7_pagesIn (LsuS v) a).bind fun r5 =>
    some (.inl r5)
    ) (fun x => some (.inr x))
def f_X8_waitingPagesOfOwner (v : Lsu) (a : Int32) : Option ((Int32 ⊕ String)) :=
  bndT (f_X8_checkOwner ((LsuHs v), (LsuU v)) a) (fun r2 =>
    (f_X7_pagesOfOwner (LsuS v) a 0).bind fun r5 =>
    some (.inl r5)
    ) (fun x => some (.inr x))
abbrev P_HV_OV : Type := HV × OV
def P_HV_OVA (v : P_HV_OV) : HV := v.1
def P_HV_OVB (v : P_HV_OV) : OV := v.2
def P_HV_OV_sA (v : P_HV_OV) (x : HV) : P_HV_OV := (x, P_HV_OVB v)
def P_HV_OV_sB (v : P_HV_OV) (x : OV) : P_HV_OV := (P_HV_OVA v, x)
def WP_HV_OV (v : P_HV_OV) : List AC := [.inr (0, [.ref 1, .ref 2, .ref 3, .ref 4, .ref 5, .int (HVCm (P_HV_OVA v)), .int (HVSw (P_HV_OVA v)), .ref 6]), .inl (0, 40, .inl (HVPr (P_HV_OVA v))), .inl (0, 40, .inl (HVLf (P_HV_OVA v))), .inl (0, 40, .inl (HVRt (P_HV_OVA v))), .inl (0, 40, .inl (HVUp (P_HV_OVA v))), .inl (0, 40, .inl (HVRk (P_HV_OVA v))), .inl (0, 40, .inl (HVPa (P_HV_OVA v))), .inr (3, [.ref 8, .int (OVLn (P_HV_OVB v))]), .inl (0, 200, .inl (OVBy (P_HV_OVB v)))]
def f_X8_writeTree : Nat → P_HV_OV → Int32 → Int32 → Option (Unit × P_HV_OV)
  | 0, _, _, _ => none
  | n + 1, v, a, b =>
    (f_X0_isNode a).bind fun r2 =>
    if r2 = 0 then
      some ((), v)
    else
      if b ≤ 40 then
        bnd2 (f_X3_addNumber (P_HV_OVB v) a) fun r7 w8 =>
        if oob a 40 then none else
        if ((HVLf (P_HV_OVA v)) (Int32.toNatClampNeg a)) = (-1) then
          some ((), (P_HV_OV_sB v w8))
        else
          bnd2 (f_X3_add w8 40) fun r12 w13 =>
          if oob a 40 then none else
          bnd2 (f_X8_writeTree n ((P_HV_OVA v), w13) ((HVLf (P_HV_OVA v)) (Int32.toNatClampNeg a)) (b + 1)) fun r16 w17 =>
          bnd2 (f_X3_add (P_HV_OVB w17) 44) fun r19 w20 =>
          if oob a 40 then none else
          bnd2 (f_X8_writeTree n ((P_HV_OVA w17), w20) ((HVRt (P_HV_OVA w17)) (Int32.toNatClampNeg a)) (b + 1)) fun r23 w24 =>
          bnd2 (f_X3_add (P_HV_OVB w24) 41) fun r26 w27 =>
          some ((), ((P_HV_OVA w24), w27))
      else
        some ((), v)
abbrev Losu : Type := Int32 × OV × SV × UV
def LosuHs (v : Losu) : Int32 := v.1
def LosuO (v : Losu) : OV := v.2.1
def LosuS (v : Losu) : SV := v.2.2.1
def LosuU (v : Losu) : UV := v.2.2.2
def Losu_sHs (v : Losu) (x : Int32) : Losu := (x, LosuO v, LosuS v, LosuU v)
def Losu_sO (v : Losu) (x : OV) : Losu := (LosuHs v, x, LosuS v, LosuU v)
def Losu_sS (v : Losu) (x : SV) : Losu := (LosuHs v, LosuO v, x, LosuU v)
def Losu_sU (v : Losu) (x : UV) : Losu := (LosuHs v, LosuO v, LosuS v, x)
def WLosu (v : Losu) : List AC := [.inr (8, [.ref 1001000, .ref 1001001, .ref 1, .ref 1001003, .ref 3, .ref 1001005, .ref 1001006, .int (LosuHs v), .ref 18, .ref 1001009]), .inr (3, [.ref 2, .int (OVLn (LosuO v))]), .inl (0, 200, .inl (OVBy (LosuO v))), .inr (7, [.ref 4, .int (SVJc (LosuS v)), .ref 11, .ref 12, .ref 13, .ref 14, .ref 15, .ref 16, .ref 17]), .inr (0, [.ref 5, .ref 6, .ref 7, .ref 8, .ref 9, .int (HVCm (SVH (LosuS v))), .int (HVSw (SVH (LosuS v))), .ref 10]), .inl (0, 40, .inl (HVPr (SVH (LosuS v)))), .inl (0, 40, .inl (HVLf (SVH (LosuS v)))), .inl (0, 40, .inl (HVRt (SVH (LosuS v)))), .inl (0, 40, .inl (HVUp (SVH (LosuS v)))), .inl (0, 40, .inl (HVRk (SVH (LosuS v)))), .inl (0, 40, .inl (HVPa (SVH (LosuS v)))), .inl (0, 40, .inl (SVOw (LosuS v))), .inl (0, 40, .inl (SVPg (LosuS v))), .inl (0, 40, .inl (SVFt (LosuS v))), .inl (0, 40, .inl (SVQu (LosuS v))), .inl (0, 6, .inl (SVRo (LosuS v))), .inl (0, 6, .inl (SVPd (LosuS v))), .inl (2, 6, .inl (SVPs (LosuS v))), .inr (6, [.ref 19, .ref 21, .ref 23]), .inr (2, [.ref 20, .int (NVCt (UVQs (LosuU v)))]), .inl (1, 8, .inr (.inl (NVPk (UVQs (LosuU v))))), .inr (2, [.ref 22, .int (NVCt (UVOs (LosuU v)))]), .inl (1, 8, .inr (.inl (NVPk (UVOs (LosuU v))))), .inl (0, 6, .inl (UVSp (LosuU v)))]
def f_X8_writeHeap (v : Losu) (a : Int32) : Option ((Int32 ⊕ String) × Losu) :=
  bndT (f_X8_checkQueue ((LosuHs v), (LosuU v)) a) (fun r2 =>
    if oob a 6 then none else
    bnd2 (f_X8_writeTree 50 ((SVH (LosuS v)), (OV_sLn (LosuO v) 0)) ((SVRo (LosuS v)) (Int32.toNatClampNeg a)) 1) fun r6 w7 =>
    some ((.inl (OVLn (P_HV_OVB w7))), (Losu_sS (Losu_sO v (P_HV_OVB w7)) (SV_sH (LosuS v) (P_HV_OVA w7))))
    ) (fun x => some (.inr x, v))
def f_X9_j (a : Int32) : Option (Int32) :=
  some (140 + (9 * a))
def f_X9_set (v : MV) (a : Int32) (b : Int32) (c : Int32) : Option (Unit × MV) :=
  (f_X9_j a).bind fun r2 =>
  if oob (r2 + b) 500 then none else
  some ((), (MV_sSt v (upd (MVSt v) (Int32.toNatClampNeg (r2 + b)) c)))
def f_X9_single (v : MV) (a : Int32) : Option (Unit × MV) :=
  bnd2 (f_X9_set v a 5 (-1)) fun r2 w3 =>
  bnd2 (f_X9_set w3 a 6 (-1)) fun r5 w6 =>
  bnd2 (f_X9_set w6 a 7 (-1)) fun r8 w9 =>
  bnd2 (f_X9_set w9 a 8 1) fun r11 w12 =>
  some ((), w12)
def f_X9_q (a : Int32) : Option (Int32) :=
  some (10 + (11 * a))
def f_X9_rootOf (v : MV) (a : Int32) : Option (Int32) :=
  (f_X9_q a).bind fun r2 =>
  if oob (r2 + 9) 500 then none else
  some ((MVSt v) (Int32.toNatClampNeg (r2 + 9)))
def f_X9_get (v : MV) (a : Int32) (b : Int32) : Option (Int32) :=
  (f_X9_j a).bind fun r2 =>
  if oob (r2 + b) 500 then none else
  some ((MVSt v) (Int32.toNatClampNeg (r2 + b)))
def f_X9_precedes (v : MV) (a : Int32) (b : Int32) : Option (Int32) :=
  (f_X9_get v b 1).bind fun r2 =>
  (f_X9_get v a 1).bind fun r5 =>
  if 0 < (r2 - r5) then
    some 1
  else
    if (r2 - r5) = 0 then
      if b ≤ a then
        some 0
      else
        some 1
    else
      some 0
def f_X9_link (v : MV) (a : Int32) (b : Int32) (c : Int32) : Option (Unit × MV) :=
  bnd2 (f_X9_set v a b c) fun r2 w3 =>
  if c = (-1) then
    some ((), w3)
  else
    bnd2 (f_X9_set w3 c 7 a) fun r6 w7 =>
    some ((), w7)
def f_X9_rankOf (v : MV) (a : Int32) : Option (Int32) :=
  if a = (-1) then
    some 0
  else
    (f_X9_get v a 8).bind fun r3 =>
    some r3
def f_X9_repair (v : MV) (a : Int32) : Option (Unit × MV) :=
  (f_X9_get v a 5).bind fun r2 =>
  (f_X9_get v a 6).bind fun r5 =>
  (f_X9_rankOf v r2).bind fun r8 =>
  (f_X9_rankOf v r5).bind fun r11 =>
  if r11 ≤ r8 then
    (f_X9_get v a 6).bind fun r15 =>
    (f_X9_rankOf v r15).bind fun r18 =>
    bnd2 (f_X9_set v a 8 (1 + r18)) fun r21 w22 =>
    some ((), w22)
  else
    bnd2 (f_X9_set v a 5 r5) fun r24 w25 =>
    bnd2 (f_X9_set w25 a 6 r2) fun r27 w28 =>
    if oob 4 500 then none else
    if oob 4 500 then none else
    (f_X9_get (MV_sSt w28 (upd (MVSt w28) (Int32.toNatClampNeg 4) (((MVSt w28) (Int32.toNatClampNeg 4)) + 1))) a 6).bind fun r32 =>
    (f_X9_rankOf (MV_sSt w28 (upd (MVSt w28) (Int32.toNatClampNeg 4) (((MVSt w28) (Int32.toNatClampNeg 4)) + 1))) r32).bind fun r35 =>
    bnd2 (f_X9_set (MV_sSt w28 (upd (MVSt w28) (Int32.toNatClampNeg 4) (((MVSt w28) (Int32.toNatClampNeg 4)) + 1))) a 8 (1 + r35)) fun r38 w39 =>
    some ((), w39)
def f_X9_merge : Nat → MV → Int32 → Int32 → Option (Int32 × MV)
  | 0, _, _, _ => none
  | n + 1, v, a, b =>
    if a = (-1) then
      some (b, v)
    else
      if b = (-1) then
        some (a, v)
      else
        if oob 3 500 then none else
        if oob 3 500 then none else
        (f_X9_precedes (MV_sSt v (upd (MVSt v) (Int32.toNatClampNeg 3) (((MVSt v) (Int32.toNatClampNeg 3)) + 1))) a b).bind fun r6 =>
        if r6 = 0 then
          if r6 = 0 then
            (f_X9_get (MV_sSt v (upd (MVSt v) (Int32.toNatClampNeg 3) (((MVSt v) (Int32.toNatClampNeg 3)) + 1))) b 6).bind fun r11 =>
            bnd2 (f_X9_merge n (MV_sSt v (upd (MVSt v) (Int32.toNatClampNeg 3) (((MVSt v) (Int32.toNatClampNeg 3)) + 1))) r11 a) fun r14 w15 =>
            bnd2 (f_X9_link w15 b 6 r14) fun r17 w18 =>
            bnd2 (f_X9_repair w18 b) fun r20 w21 =>
            some (b, w21)
          else
            (f_X9_get (MV_sSt v (upd (MVSt v) (Int32.toNatClampNeg 3) (((MVSt v) (Int32.toNatClampNeg 3)) + 1))) b 6).bind fun r23 =>
            bnd2 (f_X9_merge n (MV_sSt v (upd (MVSt v) (Int32.toNatClampNeg 3) (((MVSt v) (Int32.toNatClampNeg 3)) + 1))) r23 b) fun r26 w27 =>
            bnd2 (f_X9_link w27 b 6 r26) fun r29 w30 =>
            bnd2 (f_X9_repair w30 b) fun r32 w33 =>
            some (b, w33)
        else
          if r6 = 0 then
            (f_X9_get (MV_sSt v (upd (MVSt v) (Int32.toNatClampNeg 3) (((MVSt v) (Int32.toNatClampNeg 3)) + 1))) a 6).bind fun r36 =>
            bnd2 (f_X9_merge n (MV_sSt v (upd (MVSt v) (Int32.toNatClampNeg 3) (((MVSt v) (Int32.toNatClampNeg 3)) + 1))) r36 a) fun r39 w40 =>
            bnd2 (f_X9_link w40 a 6 r39) fun r42 w43 =>
            bnd2 (f_X9_repair w43 a) fun r45 w46 =>
            some (a, w46)
          else
            (f_X9_get (MV_sSt v (upd (MVSt v) (Int32.toNatClampNeg 3) (((MVSt v) (Int32.toNatClampNeg 3)) + 1))) a 6).bind fun r48 =>
            bnd2 (f_X9_merge n (MV_sSt v (upd (MVSt v) (Int32.toNatClampNeg 3) (((MVSt v) (Int32.toNatClampNeg 3)) + 1))) r48 b) fun r51 w52 =>
            bnd2 (f_X9_link w52 a 6 r51) fun r54 w55 =>
            bnd2 (f_X9_repair w55 a) fun r57 w58 =>
            some (a, w58)
def f_X9_setRoot (v : MV) (a : Int32) (b : Int32) : Option (Unit × MV) :=
  (f_X9_q a).bind fun r2 =>
  if oob (r2 + 9) 500 then none else
  if b = (-1) then
    some ((), (MV_sSt v (upd (MVSt v) (Int32.toNatClampNeg (r2 + 9)) b)))
  else
    bnd2 (f_X9_set (MV_sSt v (upd (MVSt v) (Int32.toNatClampNeg (r2 + 9)) b)) b 7 (-1)) fun r7 w8 =>
    some ((), w8)
def f_X9_insert (v : MV) (a : Int32) (b : Int32) : Option (Unit × MV) :=
  bnd2 (f_X9_single v b) fun r2 w3 =>
  bnd2 (f_X9_set w3 b 4 a) fun r5 w6 =>
  (f_X9_rootOf w6 a).bind fun r8 =>
  bnd2 (f_X9_merge 50 w6 r8 b) fun r11 w12 =>
  bnd2 (f_X9_setRoot w12 a r11) fun r14 w15 =>
  some ((), w15)
def f_X9_addJob (v : MV) (a : Int32) (b : Int32) (c : Int32) (d : Int32) : Option (Int32 × MV) :=
  if oob 2 500 then none else
  bnd2 (f_X9_set v ((MVSt v) (Int32.toNatClampNeg 2)) 0 b) fun r3 w4 =>
  bnd2 (f_X9_set w4 ((MVSt v) (Int32.toNatClampNeg 2)) 1 c) fun r6 w7 =>
  bnd2 (f_X9_set w7 ((MVSt v) (Int32.toNatClampNeg 2)) 2 d) fun r9 w10 =>
  bnd2 (f_X9_set w10 ((MVSt v) (Int32.toNatClampNeg 2)) 3 0) fun r12 w13 =>
  if oob 2 500 then none else
  if oob 2 500 then none else
  bnd2 (f_X9_insert (MV_sSt w13 (upd (MVSt w13) (Int32.toNatClampNeg 2) (((MVSt w13) (Int32.toNatClampNeg 2)) + 1))) a ((MVSt v) (Int32.toNatClampNeg 2))) fun r17 w18 =>
  some (((MVSt v) (Int32.toNatClampNeg 2)), w18)
def f_X9_o (a : Int32) : Option (Int32) :=
  some (80 + (7 * a))
def f_X9_putName_h12 : Nat → Int32 → Int32 → MV → Option (Unit × MV)
  | 0, _, _, _ => none
  | n + 1, l1, l2, v =>
    if (MVSl v) ≤ l2 then
      some ((), v)
    else
      if oob l2 6 then none else
      if oob ((l1 + 1) + l2) 500 then none else
      f_X9_putName_h12 n l1 (l2 + 1) (MV_sSt v (upd (MVSt v) (Int32.toNatClampNeg ((l1 + 1) + l2)) ((MVSp v) (Int32.toNatClampNeg l2))))
def f_X9_putName (v : MV) (a : Int32) : Option (Unit × MV) :=
  if oob a 500 then none else
  f_X9_putName_h12 FU a 0 (MV_sSt v (upd (MVSt v) (Int32.toNatClampNeg a) (MVSl v)))
def f_X9_addOwner (v : MV) : Option (Unit × MV) :=
  if oob 1 500 then none else
  (f_X9_o ((MVSt v) (Int32.toNatClampNeg 1))).bind fun r3 =>
  bnd2 (f_X9_putName v r3) fun r6 w7 =>
  if oob 1 500 then none else
  if oob 1 500 then none else
  some ((), (MV_sSt w7 (upd (MVSt w7) (Int32.toNatClampNeg 1) (((MVSt w7) (Int32.toNatClampNeg 1)) + 1))))
def f_X9_addQueue (v : MV) (a : Int32) : Option (Unit × MV) :=
  if oob 0 500 then none else
  (f_X9_q ((MVSt v) (Int32.toNatClampNeg 0))).bind fun r3 =>
  bnd2 (f_X9_putName v r3) fun r6 w7 =>
  if oob (r3 + 7) 500 then none else
  if oob (r3 + 9) 500 then none else
  if oob 0 500 then none else
  if oob 0 500 then none else
  some ((), (MV_sSt w7 (upd (upd (upd (MVSt w7) (Int32.toNatClampNeg (r3 + 7)) a) (Int32.toNatClampNeg (r3 + 9)) (-1)) (Int32.toNatClampNeg 0) (((upd (upd (MVSt w7) (Int32.toNatClampNeg (r3 + 7)) a) (Int32.toNatClampNeg (r3 + 9)) (-1)) (Int32.toNatClampNeg 0)) + 1))))
def f_X9_isWithin (a : Int64) (b : Int64) (c : Int64) : Option (Int32) :=
  if (lg_cmp a b) < 0 then
    some 0
  else
    if 0 < (lg_cmp a c) then
      some 0
    else
      some 1
def f_X9_isLetter (v : MV) (a : Int32) : Option (Int32) :=
  if (MVLn v) ≤ a then
    some 0
  else
    if oob a 600 then none else
    (f_X9_isWithin (Int32.toInt64 ((MVBf v) (Int32.toNatClampNeg a))) 97 122).bind fun r4 =>
    if r4 = 0 then
      some 0
    else
      some 1
def f_X9_isDigit (v : MV) (a : Int32) : Option (Int32) :=
  if (MVLn v) ≤ a then
    some 0
  else
    if oob a 600 then none else
    (f_X9_isWithin (Int32.toInt64 ((MVBf v) (Int32.toNatClampNeg a))) 48 57).bind fun r4 =>
    if r4 = 0 then
      some 0
    else
      some 1
def f_X9_advanceToken_j285 (s0 : Int32) (v : MV) : Option (Unit × MV) :=
  some ((), (MV_sTk (MV_sEn v ((MVEn v) + 1)) s0))
def f_X9_advanceToken_j224 (kO : MV → Option (Unit × MV)) (s0 : Int32) (v : MV) : Option (Unit × MV) :=
  kO (MV_sVa (MV_sEn v ((MVEn v) + 1)) s0)
def f_X9_advanceToken_h172 : Nat → MV → Option (Unit × MV)
  | 0, _ => none
  | n + 1, v =>
    (f_X9_isDigit v (MVEn v)).bind fun r15 =>
    if r15 = 0 then
      if ((MVEn v) - (MVSa v)) ≤ 3 then
        some ((), (MV_sTk v 2))
      else
        some ((), (MV_sTk v 4))
    else
      if 3 ≤ ((MVEn v) - (MVSa v)) then
        f_X9_advanceToken_j224 (f_X9_advanceToken_h172 n) (MVVa v) v
      else
        if oob (MVEn v) 600 then none else
        f_X9_advanceToken_j224 (f_X9_advanceToken_h172 n) (((10 * (MVVa v)) + ((MVBf v) (Int32.toNatClampNeg (MVEn v)))) - 48) v
def f_X9_advanceToken_h106 : Nat → MV → Option (Unit × MV)
  | 0, _ => none
  | n + 1, v =>
    (f_X9_isLetter v (MVEn v)).bind fun r22 =>
    if r22 = 0 then
      if ((MVEn v) - (MVSa v)) ≤ 8 then
        some ((), (MV_sTk v 1))
      else
        some ((), (MV_sTk v 4))
    else
      f_X9_advanceToken_h106 n (MV_sEn v ((MVEn v) + 1))
def f_X9_advanceToken_j68 (v : MV) : Option (Unit × MV) :=
  if (MVSa v) = (MVLn v) then
    some ((), (MV_sTk (MV_sEn v (MVSa v)) 0))
  else
    (f_X9_isLetter (MV_sEn v (MVSa v)) (MVSa v)).bind fun r5 =>
    if r5 = 0 then
      (f_X9_isDigit (MV_sEn v (MVSa v)) (MVSa v)).bind fun r9 =>
      if r9 = 0 then
        if oob (MVSa v) 600 then none else
        if ((MVBf v) (Int32.toNatClampNeg (MVSa v))) = 59 then
          f_X9_advanceToken_j285 3 (MV_sEn v (MVSa v))
        else
          f_X9_advanceToken_j285 4 (MV_sEn v (MVSa v))
      else
        f_X9_advanceToken_h172 FU (MV_sVa (MV_sEn v (MVSa v)) 0)
    else
      f_X9_advanceToken_h106 FU (MV_sEn v (MVSa v))
def f_X9_advanceToken_j55 (kO : MV → Option (Unit × MV)) (v : MV) : Option (Unit × MV) :=
  kO (MV_sSa v ((MVSa v) + 1))
def f_X9_advanceToken_h16 : Nat → MV → Option (Unit × MV)
  | 0, _ => none
  | n + 1, v =>
    if (MVLn v) ≤ (MVSa v) then
      f_X9_advanceToken_j68 v
    else
      if oob (MVSa v) 600 then none else
      if ((MVBf v) (Int32.toNatClampNeg (MVSa v))) = 32 then
        f_X9_advanceToken_j55 (f_X9_advanceToken_h16 n) v
      else
        if oob (MVSa v) 600 then none else
        if ((MVBf v) (Int32.toNatClampNeg (MVSa v))) = 10 then
          f_X9_advanceToken_j55 (f_X9_advanceToken_h16 n) v
        else
          f_X9_advanceToken_j68 v
def f_X9_advanceToken (v : MV) : Option (Unit × MV) :=
  if (MVFa v) ≤ 0 then
    f_X9_advanceToken_h16 FU (MV_sSa v (MVEn v))
  else
    some ((), v)
def f_X9_appendWord_h2 : Nat → Int32 → Int32 → MV → Option (Unit × MV)
  | 0, _, _, _ => none
  | n + 1, l1, l2, v =>
    if l2 < 0 then
      some ((), v)
    else
      if oob (MVLn v) 600 then none else
      f_X9_appendWord_h2 n l1 (l2 + (-1)) (MV_sLn (MV_sBf v (upd (MVBf v) (Int32.toNatClampNeg (MVLn v)) (vp_nar .byte (Int8.toInt32 (Int32.toInt8 (l1 >>> ((8 * l2) &&& 31))))))) ((MVLn v) + 1))
def f_X9_appendWord (v : MV) (a : Int32) : Option (Unit × MV) :=
  f_X9_appendWord_h2 FU a 3 v
def f_X9_appendInput (v : MV) (a : Int32) (b : Int32) (c : Int32) (d : Int32) (e : Int32) : Option (Int32 × MV) :=
  if (MVLn v) ≤ 580 then
    bnd2 (f_X9_appendWord (MV_sTh v 0) a) fun r3 w4 =>
    bnd2 (f_X9_appendWord w4 b) fun r6 w7 =>
    bnd2 (f_X9_appendWord w7 c) fun r9 w10 =>
    bnd2 (f_X9_appendWord w10 d) fun r12 w13 =>
    bnd2 (f_X9_appendWord w13 e) fun r15 w16 =>
    some ((MVLn w16), w16)
  else
    some ((-1), (MV_sTh v 0))
def f_X9_waits (v : MV) (a : Int32) : Option (Int32) :=
  (f_X9_get v a 3).bind fun r2 =>
  if r2 = 0 then
    some 1
  else
    some 0
def f_X9_one (a : Int32) : Option (Int32) :=
  if a = 0 then
    some 0
  else
    some 1
def f_X9_waitingCount_h4 : Nat → Int32 → Int32 → MV → Option (Int32)
  | 0, _, _, _ => none
  | n + 1, l1, l2, v =>
    if oob 2 500 then none else
    if ((MVSt v) (Int32.toNatClampNeg 2)) ≤ l2 then
      some l1
    else
      (f_X9_waits v l2).bind fun r4 =>
      (f_X9_one r4).bind fun r7 =>
      f_X9_waitingCount_h4 n (l1 + r7) (l2 + 1) v
def f_X9_waitingCount (v : MV) : Option (Int32) :=
  f_X9_waitingCount_h4 FU 0 0 v
def f_X9_countFrom : Nat → MV → Int32 → Option (Int32)
  | 0, _, _ => none
  | n + 1, v, a =>
    if a = (-1) then
      some 0
    else
      (f_X9_get v a 5).bind fun r3 =>
      (f_X9_countFrom n v r3).bind fun r6 =>
      (f_X9_get v a 6).bind fun r9 =>
      (f_X9_countFrom n v r9).bind fun r12 =>
      some ((1 + r6) + r12)
def f_X9_isIn (v : MV) (a : Int32) (b : Int32) : Option (Int32) :=
  (f_X9_waits v a).bind fun r2 =>
  if r2 = 0 then
    some 0
  else
    (f_X9_get v a 4).bind fun r6 =>
    if r6 = b then
      some 1
    else
      some 0
def f_X9_sizeOf_h4 : Nat → Int32 → Int32 → Int32 → MV → Option (Int32)
  | 0, _, _, _, _ => none
  | n + 1, l1, l2, l3, v =>
    if oob 2 500 then none else
    if ((MVSt v) (Int32.toNatClampNeg 2)) ≤ l3 then
      some l2
    else
      (f_X9_isIn v l3 l1).bind fun r4 =>
      (f_X9_one r4).bind fun r7 =>
      f_X9_sizeOf_h4 n l1 (l2 + r7) (l3 + 1) v
def f_X9_sizeOf (v : MV) (a : Int32) : Option (Int32) :=
  f_X9_sizeOf_h4 FU a 0 0 v
def f_X9_areHeapsWhole_h4 : Nat → Int32 → Int32 → MV → Option (Int32)
  | 0, _, _, _ => none
  | n + 1, l1, l2, v =>
    if oob 0 500 then none else
    if ((MVSt v) (Int32.toNatClampNeg 0)) ≤ l2 then
      (f_X9_waitingCount v).bind fun r4 =>
      if l1 = r4 then
        some 1
      else
        some 0
    else
      (f_X9_rootOf v l2).bind fun r8 =>
      (f_X9_countFrom 50 v r8).bind fun r11 =>
      (f_X9_sizeOf v l2).bind fun r14 =>
      if r11 = r14 then
        f_X9_areHeapsWhole_h4 n (l1 + r11) (l2 + 1) v
      else
        some 0
def f_X9_areHeapsWhole (v : MV) : Option (Int32) :=
  f_X9_areHeapsWhole_h4 FU 0 0 v
def f_X9_beginText (v : MV) : Option (Unit × MV) :=
  bnd2 (f_X9_advanceToken (MV_sFa (MV_sEn v 0) 0)) fun r2 w3 =>
  some ((), w3)
def f_X9_isJob (v : MV) (a : Int32) : Option (Int32) :=
  if oob 2 500 then none else
  (f_X9_isWithin (Int32.toInt64 a) 0 (Int32.toInt64 (((MVSt v) (Int32.toNatClampNeg 2)) - 1))).bind fun r3 =>
  if ¬ (r3 = 0 ∨ r3 = 1) then none else
  some r3
def f_X9_check (v : MV) (a : Int32) (b : Int32) (c : Int32) : Option (Int32 × MV) :=
  if a = 0 then
    some (0, (MV_sTh v 1))
  else
    if b = 0 then
      some (0, (MV_sTh v 2))
    else
      if c = 0 then
        some (0, (MV_sTh v 3))
      else
        some (1, (MV_sTh v 0))
def f_X9_checkWaiting (v : MV) (a : Int32) : Option (Int32 × MV) :=
  (f_X9_isJob v a).bind fun r2 =>
  if r2 = 0 then
    bnd2 (f_X9_check v r2 0 1) fun r6 w7 =>
    if ¬ (r6 = 0 ∨ r6 = 1) then none else
    some (r6, w7)
  else
    (f_X9_waits v a).bind fun r10 =>
    if r10 = 0 then
      bnd2 (f_X9_check v r2 0 1) fun r14 w15 =>
      if ¬ (r14 = 0 ∨ r14 = 1) then none else
      some (r14, w15)
    else
      bnd2 (f_X9_check v r2 1 1) fun r18 w19 =>
      if ¬ (r18 = 0 ∨ r18 = 1) then none else
      some (r18, w19)
def f_X9_remember_h54 : Nat → Int32 → MV → Option (Unit × MV)
  | 0, _, _ => none
  | n + 1, l1, v =>
    if 500 ≤ l1 then
      some ((), (MV_sPc v ((MVPc v) + 1)))
    else
      if oob l1 500 then none else
      if oob ((500 * (MVPc v)) + l1) 4000 then none else
      f_X9_remember_h54 n (l1 + 1) (MV_sPt v (upd (MVPt v) (Int32.toNatClampNeg ((500 * (MVPc v)) + l1)) ((MVSt v) (Int32.toNatClampNeg l1))))
def f_X9_remember_h13 : Nat → Int32 → MV → Option (Unit × MV)
  | 0, _, _ => none
  | n + 1, l1, v =>
    if 4000 ≤ l1 then
      f_X9_remember_h54 FU 0 (MV_sPc v ((MVPc v) - 1))
    else
      if oob l1 4000 then none else
      if oob (l1 - 500) 4000 then none else
      f_X9_remember_h13 n (l1 + 1) (MV_sPt v (upd (MVPt v) (Int32.toNatClampNeg (l1 - 500)) ((MVPt v) (Int32.toNatClampNeg l1))))
def f_X9_remember (v : MV) : Option (Unit × MV) :=
  if (MVPc v) = 8 then
    f_X9_remember_h13 FU 500 v
  else
    f_X9_remember_h54 FU 0 v
def f_X9_repairUpwards_h2 : Nat → Int32 → Int32 → MV → Option (Unit × MV)
  | 0, _, _, _ => none
  | n + 1, l1, l2, v =>
    if l2 = (-1) then
      some ((), v)
    else
      bnd2 (f_X9_repair v l2) fun r3 w4 =>
      (f_X9_get w4 l2 7).bind fun r6 =>
      f_X9_repairUpwards_h2 n l1 r6 w4
def f_X9_repairUpwards (v : MV) (a : Int32) : Option (Unit × MV) :=
  f_X9_repairUpwards_h2 FU a a v
def f_X9_remove_j76 (l1 : Int32) (v : MV) : Option (Unit × MV) :=
  bnd2 (f_X9_single v l1) fun r25 w26 =>
  bnd2 (f_X9_set w26 l1 8 0) fun r28 w29 =>
  some ((), w29)
def f_X9_remove_j61 (l1 : Int32) (l2 : Int32) (l3 : Int32) (s0 : Int32) (v : MV) : Option (Unit × MV) :=
  bnd2 (f_X9_link v l2 s0 l3) fun r19 w20 =>
  bnd2 (f_X9_repairUpwards w20 l2) fun r22 w23 =>
  f_X9_remove_j76 l1 w23
def f_X9_remove (v : MV) (a : Int32) : Option (Unit × MV) :=
  (f_X9_get v a 7).bind fun r2 =>
  (f_X9_get v a 5).bind fun r5 =>
  (f_X9_get v a 6).bind fun r8 =>
  bnd2 (f_X9_merge 50 v r5 r8) fun r11 w12 =>
  if r2 = (-1) then
    (f_X9_get w12 a 4).bind fun r31 =>
    bnd2 (f_X9_setRoot w12 r31 r11) fun r34 w35 =>
    f_X9_remove_j76 a w35
  else
    (f_X9_get w12 r2 5).bind fun r15 =>
    if r15 = a then
      f_X9_remove_j61 a r2 r11 5 w12
    else
      f_X9_remove_j61 a r2 r11 6 w12
def f_X9_cancelJob (v : MV) (a : Int32) : Option (Int32 × MV) :=
  (f_X9_get v a 4).bind fun r2 =>
  bnd2 (f_X9_remove v a) fun r5 w6 =>
  bnd2 (f_X9_set w6 a 3 2) fun r8 w9 =>
  (f_X9_sizeOf w9 r2).bind fun r11 =>
  some (r11, w9)
def f_X9_cancel (v : MV) (a : Int32) : Option (Int32 × MV) :=
  bnd2 (f_X9_checkWaiting v a) fun r2 w3 =>
  if r2 = 0 then
    some (0, w3)
  else
    bnd2 (f_X9_remember w3) fun r6 w7 =>
    bnd2 (f_X9_cancelJob w7 a) fun r9 w10 =>
    some (r9, w10)
def f_X9_setPriority (v : MV) (a : Int32) (b : Int32) : Option (Int32 × MV) :=
  (f_X9_get v a 1).bind fun r2 =>
  (f_X9_get v a 4).bind fun r5 =>
  bnd2 (f_X9_remove v a) fun r8 w9 =>
  bnd2 (f_X9_set w9 a 1 b) fun r11 w12 =>
  bnd2 (f_X9_insert w12 r5 a) fun r14 w15 =>
  some (r2, w15)
def f_X9_changePriority_j34 (l1 : Int32) (l2 : Int32) (s0 : Int32) (s1 : Int32) (s2 : Int32) (v : MV) : Option (Int32 × MV) :=
  bnd2 (f_X9_check v s2 s1 s0) fun r9 w10 =>
  if r9 = 0 then
    some (0, w10)
  else
    bnd2 (f_X9_remember w10) fun r13 w14 =>
    bnd2 (f_X9_setPriority w14 l1 l2) fun r16 w17 =>
    some (r16, w17)
def f_X9_changePriority_j33 (l1 : Int32) (l2 : Int32) (s0 : Int32) (s1 : Int32) (v : MV) : Option (Int32 × MV) :=
  f_X9_changePriority_j34 l1 l2 0 s0 s1 v
def f_X9_changePriority (v : MV) (a : Int32) (b : Int32) : Option (Int32 × MV) :=
  (f_X9_isJob v a).bind fun r2 =>
  (f_X9_isWithin (Int32.toInt64 b) 0 99).bind fun r5 =>
  if r2 = 0 then
    f_X9_changePriority_j33 a b r5 r2 v
  else
    (f_X9_waits v a).bind fun r19 =>
    if r19 = 0 then
      f_X9_changePriority_j33 a b r5 r2 v
    else
      f_X9_changePriority_j34 a b 1 r5 r2 v
def f_X9_checkJob (v : MV) (a : Int32) : Option (Int32 × MV) :=
  (f_X9_isJob v a).bind fun r2 =>
  bnd2 (f_X9_check v r2 1 1) fun r5 w6 =>
  if ¬ (r5 = 0 ∨ r5 = 1) then none else
  some (r5, w6)
def f_X9_isQueue (v : MV) (a : Int32) : Option (Int32) :=
  if oob 0 500 then none else
  (f_X9_isWithin (Int32.toInt64 a) 0 (Int32.toInt64 (((MVSt v) (Int32.toNatClampNeg 0)) - 1))).bind fun r3 =>
  if ¬ (r3 = 0 ∨ r3 = 1) then none else
  some r3
def f_X9_checkQueue (v : MV) (a : Int32) : Option (Int32 × MV) :=
  (f_X9_isQueue v a).bind fun r2 =>
  bnd2 (f_X9_check v r2 1 1) fun r5 w6 =>
  if ¬ (r5 = 0 ∨ r5 = 1) then none else
  some (r5, w6)
def f_X9_checkTwo_j34 (s0 : Int32) (s1 : Int32) (v : MV) : Option (Int32 × MV) :=
  bnd2 (f_X9_check v s1 s0 1) fun r7 w8 =>
  if ¬ (r7 = 0 ∨ r7 = 1) then none else
  some (r7, w8)
def f_X9_checkTwo_j21 (l1 : Int32) (l2 : Int32) (s0 : Int32) (v : MV) : Option (Int32 × MV) :=
  if l1 = l2 then
    f_X9_checkTwo_j34 0 s0 v
  else
    f_X9_checkTwo_j34 1 s0 v
def f_X9_checkTwo_j20 (l1 : Int32) (l2 : Int32) (v : MV) : Option (Int32 × MV) :=
  f_X9_checkTwo_j21 l1 l2 0 v
def f_X9_checkTwo (v : MV) (a : Int32) (b : Int32) : Option (Int32 × MV) :=
  (f_X9_isQueue v a).bind fun r2 =>
  if r2 = 0 then
    f_X9_checkTwo_j20 a b v
  else
    (f_X9_isQueue v b).bind fun r11 =>
    if r11 = 0 then
      f_X9_checkTwo_j20 a b v
    else
      f_X9_checkTwo_j21 a b 1 v
def f_X9_clear_h2 : Nat → Int32 → MV → Option (Unit × MV)
  | 0, _, _ => none
  | n + 1, l1, v =>
    if 500 ≤ l1 then
      some ((), v)
    else
      if oob l1 500 then none else
      f_X9_clear_h2 n (l1 + 1) (MV_sSt v (upd (MVSt v) (Int32.toNatClampNeg l1) 0))
def f_X9_clear (v : MV) : Option (Unit × MV) :=
  f_X9_clear_h2 FU 0 v
def f_X9_clearCounters (v : MV) : Option (Unit × MV) :=
  if oob 3 500 then none else
  if oob 4 500 then none else
  some ((), (MV_sSt v (upd (upd (MVSt v) (Int32.toNatClampNeg 3) 0) (Int32.toNatClampNeg 4) 0)))
def f_X9_numberOf (v : MV) (a : Int32) : Option (Int32 × MV) :=
  if oob a 500 then none else
  some (((MVSt v) (Int32.toNatClampNeg a)), (MV_sTh v 0))
def f_X9_comparisons (v : MV) : Option (Int32 × MV) :=
  bnd2 (f_X9_numberOf v 3) fun r2 w3 =>
  some (r2, w3)
def f_X9_depth_h20 : Nat → Int32 → Int32 → Int32 → MV → Option (Int32 × MV)
  | 0, _, _, _, _ => none
  | n + 1, l1, l2, l3, v =>
    if l3 = (-1) then
      some (l2, v)
    else
      (f_X9_get v l3 7).bind fun r10 =>
      f_X9_depth_h20 n l1 (l2 + 1) r10 v
def f_X9_depth (v : MV) (a : Int32) : Option (Int32 × MV) :=
  bnd2 (f_X9_checkWaiting v a) fun r2 w3 =>
  if r2 = 0 then
    some (0, w3)
  else
    (f_X9_get w3 a 7).bind fun r6 =>
    f_X9_depth_h20 FU a 0 r6 w3
def f_X9_endText (v : MV) : Option (Unit × MV) :=
  if (MVFa v) = 0 then
    some ((), (MV_sEo (MV_sEc (MV_sLn v 0) (MVFa v)) (-1)))
  else
    some ((), (MV_sEo (MV_sEc (MV_sLn v 0) (MVFa v)) (MVFo v)))
def f_X9_errorCode (v : MV) : Option (Int32 × MV) :=
  some ((MVEc v), (MV_sTh v 0))
def f_X9_errorOffset (v : MV) : Option (Int32 × MV) :=
  some ((MVEo v), (MV_sTh v 0))
def f_X9_obstacle (v : MV) (a : Int32) : Option (Int32) :=
  (f_X9_q a).bind fun r2 =>
  if oob (r2 + 8) 500 then none else
  if ((MVSt v) (Int32.toNatClampNeg (r2 + 8))) = 1 then
    some 1
  else
    (f_X9_rootOf v a).bind fun r7 =>
    if r7 = (-1) then
      some 2
    else
      some 0
def f_X9_printRoot (v : MV) (a : Int32) : Option (Int32 × MV) :=
  (f_X9_rootOf v a).bind fun r2 =>
  bnd2 (f_X9_remove v r2) fun r5 w6 =>
  bnd2 (f_X9_set w6 r2 3 1) fun r8 w9 =>
  (f_X9_q a).bind fun r11 =>
  if oob (r11 + 10) 500 then none else
  (f_X9_get w9 r2 2).bind fun r15 =>
  if oob (r11 + 10) 500 then none else
  some (r2, (MV_sSt w9 (upd (MVSt w9) (Int32.toNatClampNeg (r11 + 10)) (((MVSt w9) (Int32.toNatClampNeg (r11 + 10))) + r15))))
def f_X9_isWaitingJob (v : MV) (a : Int32) : Option (Int32) :=
  (f_X9_isJob v a).bind fun r2 =>
  if r2 = 0 then
    some 0
  else
    (f_X9_waits v a).bind fun r6 =>
    if r6 = 0 then
      some 0
    else
      some 1
def f_X9_moveTo (v : MV) (a : Int32) (b : Int32) : Option (Int32 × MV) :=
  bnd2 (f_X9_remove v a) fun r2 w3 =>
  bnd2 (f_X9_insert w3 b a) fun r5 w6 =>
  (f_X9_rootOf w6 b).bind fun r8 =>
  some (r8, w6)
def f_X9_mergeInto_h2 : Nat → Int32 → Int32 → Int32 → MV → Option (Int32 × MV)
  | 0, _, _, _, _ => none
  | n + 1, l1, l2, l3, v =>
    if oob 2 500 then none else
    if ((MVSt v) (Int32.toNatClampNeg 2)) ≤ l3 then
      (f_X9_rootOf v l2).bind fun r4 =>
      (f_X9_rootOf v l1).bind fun r7 =>
      bnd2 (f_X9_merge 50 v r4 r7) fun r10 w11 =>
      bnd2 (f_X9_setRoot w11 l2 r10) fun r13 w14 =>
      bnd2 (f_X9_setRoot w14 l1 (-1)) fun r16 w17 =>
      (f_X9_sizeOf w17 l2).bind fun r19 =>
      some (r19, w17)
    else
      (f_X9_isIn v l3 l1).bind fun r22 =>
      if r22 = 0 then
        f_X9_mergeInto_h2 n l1 l2 (l3 + 1) v
      else
        bnd2 (f_X9_set v l3 4 l2) fun r26 w27 =>
        f_X9_mergeInto_h2 n l1 l2 (l3 + 1) w27
def f_X9_mergeInto (v : MV) (a : Int32) (b : Int32) : Option (Int32 × MV) :=
  f_X9_mergeInto_h2 FU a b 0 v
def f_X9_pause (v : MV) (a : Int32) (b : Int32) : Option (Int32 × MV) :=
  (f_X9_q a).bind fun r2 =>
  if oob (r2 + 8) 500 then none else
  if ((MVSt v) (Int32.toNatClampNeg (r2 + 8))) = 1 then
    (f_X9_q a).bind fun r14 =>
    (f_X9_one b).bind fun r17 =>
    if oob (r14 + 8) 500 then none else
    some (1, (MV_sSt v (upd (MVSt v) (Int32.toNatClampNeg (r14 + 8)) r17)))
  else
    (f_X9_q a).bind fun r7 =>
    (f_X9_one b).bind fun r10 =>
    if oob (r7 + 8) 500 then none else
    some (0, (MV_sSt v (upd (MVSt v) (Int32.toNatClampNeg (r7 + 8)) r10)))
def f_X9_executePause (v : MV) (a : Int32) (b : Int32) : Option (Int32 × MV) :=
  bnd2 (f_X9_pause v a b) fun r2 w3 =>
  some (1, w3)
def f_X9_execute (v : MV) (a : Int32) : Option (Int32 × MV) :=
  if oob ((5 * a) + 1) 150 then none else
  if oob ((5 * a) + 2) 150 then none else
  if oob (5 * a) 150 then none else
  if ((MVSm v) (Int32.toNatClampNeg (5 * a))) = 0 then
    if oob 2 500 then none else
    if 40 ≤ ((MVSt v) (Int32.toNatClampNeg 2)) then
      some (0, v)
    else
      if oob ((5 * a) + 3) 150 then none else
      if oob ((5 * a) + 4) 150 then none else
      bnd2 (f_X9_addJob v ((MVSm v) (Int32.toNatClampNeg ((5 * a) + 1))) ((MVSm v) (Int32.toNatClampNeg ((5 * a) + 2))) ((MVSm v) (Int32.toNatClampNeg ((5 * a) + 3))) ((MVSm v) (Int32.toNatClampNeg ((5 * a) + 4)))) fun r10 w11 =>
      if r10 < 0 then
        some (0, w11)
      else
        some (1, w11)
  else
  if ((MVSm v) (Int32.toNatClampNeg (5 * a))) = 1 then
    (f_X9_obstacle v ((MVSm v) (Int32.toNatClampNeg ((5 * a) + 1)))).bind fun r15 =>
    if r15 = 0 then
      bnd2 (f_X9_printRoot v ((MVSm v) (Int32.toNatClampNeg ((5 * a) + 1)))) fun r19 w20 =>
      if r19 < 0 then
        some (0, w20)
      else
        some (1, w20)
    else
      some (0, v)
  else
  if ((MVSm v) (Int32.toNatClampNeg (5 * a))) = 2 then
    (f_X9_isWaitingJob v ((MVSm v) (Int32.toNatClampNeg ((5 * a) + 1)))).bind fun r24 =>
    if r24 = 0 then
      some (0, v)
    else
      bnd2 (f_X9_cancelJob v ((MVSm v) (Int32.toNatClampNeg ((5 * a) + 1)))) fun r28 w29 =>
      if r28 < 0 then
        some (0, w29)
      else
        some (1, w29)
  else
  if ((MVSm v) (Int32.toNatClampNeg (5 * a))) = 3 then
    (f_X9_isWaitingJob v ((MVSm v) (Int32.toNatClampNeg ((5 * a) + 1)))).bind fun r33 =>
    if r33 = 0 then
      some (0, v)
    else
      bnd2 (f_X9_setPriority v ((MVSm v) (Int32.toNatClampNeg ((5 * a) + 1))) ((MVSm v) (Int32.toNatClampNeg ((5 * a) + 2)))) fun r37 w38 =>
      if r37 < 0 then
        some (0, w38)
      else
        some (1, w38)
  else
  if ((MVSm v) (Int32.toNatClampNeg (5 * a))) = 4 then
    (f_X9_isWaitingJob v ((MVSm v) (Int32.toNatClampNeg ((5 * a) + 1)))).bind fun r42 =>
    if r42 = 0 then
      some (0, v)
    else
      (f_X9_isIn v ((MVSm v) (Int32.toNatClampNeg ((5 * a) + 1))) ((MVSm v) (Int32.toNatClampNeg ((5 * a) + 2)))).bind fun r46 =>
      if r46 = 0 then
        bnd2 (f_X9_moveTo v ((MVSm v) (Int32.toNatClampNeg ((5 * a) + 1))) ((MVSm v) (Int32.toNatClampNeg ((5 * a) + 2)))) fun r50 w51 =>
        if r50 < 0 then
          some (0, w51)
        else
          some (1, w51)
      else
        some (0, v)
  else
  if ((MVSm v) (Int32.toNatClampNeg (5 * a))) = 5 then
    bnd2 (f_X9_mergeInto v ((MVSm v) (Int32.toNatClampNeg ((5 * a) + 1))) ((MVSm v) (Int32.toNatClampNeg ((5 * a) + 2)))) fun r55 w56 =>
    if r55 < 0 then
      some (0, w56)
    else
      some (1, w56)
  else
  if ((MVSm v) (Int32.toNatClampNeg (5 * a))) = 6 then
    bnd2 (f_X9_executePause v ((MVSm v) (Int32.toNatClampNeg ((5 * a) + 1))) 1) fun r60 w61 =>
    if ¬ (r60 = 0 ∨ r60 = 1) then none else
    some (r60, w61)
  else
  bnd2 (f_X9_executePause v ((MVSm v) (Int32.toNatClampNeg ((5 * a) + 1))) 0) fun r64 w65 =>
  if ¬ (r64 = 0 ∨ r64 = 1) then none else
  some (r64, w65)
def f_X9_expect (v : MV) (a : Int32) (b : Int32) : Option (Unit × MV) :=
  if (MVFa v) = 0 then
    if a = 0 then
      some ((), (MV_sFo (MV_sFa v b) (MVSa v)))
    else
      some ((), v)
  else
    some ((), v)
def f_X9_heightFrom : Nat → MV → Int32 → Option (Int32)
  | 0, _, _ => none
  | n + 1, v, a =>
    if a = (-1) then
      some 0
    else
      (f_X9_get v a 5).bind fun r3 =>
      (f_X9_heightFrom n v r3).bind fun r6 =>
      (f_X9_get v a 6).bind fun r9 =>
      (f_X9_heightFrom n v r9).bind fun r12 =>
      some (1 + (if r6 < r12 then r12 else r6))
def f_X9_height (v : MV) (a : Int32) : Option (Int32 × MV) :=
  bnd2 (f_X9_checkQueue v a) fun r2 w3 =>
  if r2 = 0 then
    some (0, w3)
  else
    (f_X9_rootOf w3 a).bind fun r6 =>
    (f_X9_heightFrom 50 w3 r6).bind fun r9 =>
    some (r9, w3)
def f_X9_isCancelled (v : MV) (a : Int32) : Option (Int32 × MV) :=
  bnd2 (f_X9_checkJob v a) fun r2 w3 =>
  if r2 = 0 then
    some (0, w3)
  else
    (f_X9_get w3 a 3).bind fun r6 =>
    if r6 = 2 then
      some (1, w3)
    else
      some (0, w3)
def f_X9_copyTo_2_h2 : Nat → Int32 → MV → Option (Unit × MV)
  | 0, _, _ => none
  | n + 1, l2, v =>
    if 500 ≤ l2 then
      some ((), v)
    else
      if oob l2 500 then none else
      if oob l2 500 then none else
      f_X9_copyTo_2_h2 n (l2 + 1) (MV_sAs v (upd (MVAs v) (Int32.toNatClampNeg l2) ((MVSt v) (Int32.toNatClampNeg l2))))
def f_X9_copyTo_2 (v : MV) : Option (Unit × MV) :=
  f_X9_copyTo_2_h2 FU 0 v
def f_X9_copyFrom_2_h2 : Nat → Int32 → MV → Option (Unit × MV)
  | 0, _, _ => none
  | n + 1, l2, v =>
    if 500 ≤ l2 then
      some ((), v)
    else
      if oob l2 500 then none else
      if oob l2 500 then none else
      f_X9_copyFrom_2_h2 n (l2 + 1) (MV_sSt v (upd (MVSt v) (Int32.toNatClampNeg l2) ((MVAs v) (Int32.toNatClampNeg l2))))
def f_X9_copyFrom_2 (v : MV) : Option (Unit × MV) :=
  f_X9_copyFrom_2_h2 FU 0 v
def f_X9_positionIn_h4 : Nat → Int32 → Int32 → Int32 → MV → Option (Int32)
  | 0, _, _, _, _ => none
  | n + 1, l1, l2, l3, v =>
    if oob 2 500 then none else
    if ((MVSt v) (Int32.toNatClampNeg 2)) ≤ l3 then
      some l2
    else
      (f_X9_get v l1 4).bind fun r4 =>
      (f_X9_isIn v l3 r4).bind fun r7 =>
      if r7 = 0 then
        (f_X9_one 0).bind fun r11 =>
        f_X9_positionIn_h4 n l1 (l2 + r11) (l3 + 1) v
      else
        (f_X9_precedes v l3 l1).bind fun r14 =>
        if r14 = 0 then
          (f_X9_one 0).bind fun r18 =>
          f_X9_positionIn_h4 n l1 (l2 + r18) (l3 + 1) v
        else
          (f_X9_one 1).bind fun r21 =>
          f_X9_positionIn_h4 n l1 (l2 + r21) (l3 + 1) v
def f_X9_positionIn (v : MV) (a : Int32) : Option (Int32) :=
  f_X9_positionIn_h4 FU a 0 0 v
def f_X9_jobIn_h2 : Nat → Int32 → Int32 → Int32 → MV → Option (Int32)
  | 0, _, _, _, _ => none
  | n + 1, l1, l2, l3, v =>
    if oob 2 500 then none else
    if ((MVSt v) (Int32.toNatClampNeg 2)) ≤ l3 then
      some (-1)
    else
      (f_X9_isIn v l3 l1).bind fun r4 =>
      if r4 = 0 then
        f_X9_jobIn_h2 n l1 l2 (l3 + 1) v
      else
        (f_X9_positionIn v l3).bind fun r8 =>
        if r8 = l2 then
          some l3
        else
          f_X9_jobIn_h2 n l1 l2 (l3 + 1) v
def f_X9_jobIn (v : MV) (a : Int32) (b : Int32) : Option (Int32) :=
  f_X9_jobIn_h2 FU a b 0 v
def f_X9_isOrderConsistent_h48 : Nat → Int32 → Int32 → Int32 → Int32 → MV → Option (Int32 × MV)
  | 0, _, _, _, _, _ => none
  | n + 1, l1, l2, l3, l4, v =>
    if l3 ≤ l4 then
      bnd2 (f_X9_copyFrom_2 v) fun r10 w11 =>
      if ¬ (l2 = 0 ∨ l2 = 1) then none else
      some (l2, w11)
    else
      (f_X9_rootOf v l1).bind fun r14 =>
      if l2 = 0 then
        bnd2 (f_X9_remove v r14) fun r18 w19 =>
        f_X9_isOrderConsistent_h48 n l1 0 l3 (l4 + 1) w19
      else
        if oob l4 40 then none else
        if r14 = ((MVOr v) (Int32.toNatClampNeg l4)) then
          bnd2 (f_X9_remove v r14) fun r26 w27 =>
          f_X9_isOrderConsistent_h48 n l1 1 l3 (l4 + 1) w27
        else
          bnd2 (f_X9_remove v r14) fun r23 w24 =>
          f_X9_isOrderConsistent_h48 n l1 0 l3 (l4 + 1) w24
def f_X9_isOrderConsistent_h11 : Nat → Int32 → Int32 → Int32 → Int32 → MV → Option (Int32 × MV)
  | 0, _, _, _, _, _ => none
  | n + 1, l1, l2, l3, l4, v =>
    if l3 ≤ l4 then
      bnd2 (f_X9_copyTo_2 v) fun r6 w7 =>
      f_X9_isOrderConsistent_h48 FU l1 l2 l3 0 w7
    else
      (f_X9_jobIn v l1 l4).bind fun r29 =>
      if oob l4 40 then none else
      f_X9_isOrderConsistent_h11 n l1 l2 l3 (l4 + 1) (MV_sOr v (upd (MVOr v) (Int32.toNatClampNeg l4) r29))
def f_X9_isOrderConsistent (v : MV) (a : Int32) : Option (Int32 × MV) :=
  (f_X9_sizeOf v a).bind fun r2 =>
  f_X9_isOrderConsistent_h11 FU a 1 r2 0 v
def f_X9_isLinked (v : MV) (a : Int32) (b : Int32) : Option (Int32) :=
  if b = (-1) then
    some 1
  else
    (f_X9_waits v b).bind fun r3 =>
    if r3 = 0 then
      some 0
    else
      (f_X9_get v b 7).bind fun r7 =>
      if r7 = a then
        (f_X9_get v b 4).bind fun r11 =>
        (f_X9_get v a 4).bind fun r14 =>
        if r11 = r14 then
          some 1
        else
          some 0
      else
        some 0
def f_X9_isNodeConsistent (v : MV) (a : Int32) : Option (Int32) :=
  (f_X9_get v a 5).bind fun r2 =>
  (f_X9_get v a 6).bind fun r5 =>
  (f_X9_get v a 7).bind fun r8 =>
  if r8 = (-1) then
    (f_X9_rankOf v r2).bind fun r12 =>
    (f_X9_rankOf v r5).bind fun r15 =>
    if r12 < r15 then
      some 0
    else
      (f_X9_get v a 8).bind fun r19 =>
      (f_X9_rankOf v r5).bind fun r22 =>
      if r19 = (1 + r22) then
        (f_X9_isLinked v a r2).bind fun r26 =>
        if r26 = 0 then
          some 0
        else
          (f_X9_isLinked v a r5).bind fun r30 =>
          if r30 = 0 then
            some 0
          else
            some 1
      else
        some 0
  else
    (f_X9_precedes v a r8).bind fun r34 =>
    if r34 = 0 then
      (f_X9_rankOf v r2).bind fun r38 =>
      (f_X9_rankOf v r5).bind fun r41 =>
      if r38 < r41 then
        some 0
      else
        (f_X9_get v a 8).bind fun r45 =>
        (f_X9_rankOf v r5).bind fun r48 =>
        if r45 = (1 + r48) then
          (f_X9_isLinked v a r2).bind fun r52 =>
          if r52 = 0 then
            some 0
          else
            (f_X9_isLinked v a r5).bind fun r56 =>
            if r56 = 0 then
              some 0
            else
              some 1
        else
          some 0
    else
      some 0
def f_X9_isConsistent_h43 : Nat → Int32 → MV → Option (Int32 × MV)
  | 0, _, _ => none
  | n + 1, l1, v =>
    if oob 0 500 then none else
    if ((MVSt v) (Int32.toNatClampNeg 0)) ≤ l1 then
      (f_X9_areHeapsWhole v).bind fun r6 =>
      if ¬ (r6 = 0 ∨ r6 = 1) then none else
      some (r6, v)
    else
      bnd2 (f_X9_isOrderConsistent v l1) fun r10 w11 =>
      if r10 = 0 then
        some (0, w11)
      else
        f_X9_isConsistent_h43 n (l1 + 1) w11
def f_X9_isConsistent_h7 : Nat → Int32 → MV → Option (Int32 × MV)
  | 0, _, _ => none
  | n + 1, l1, v =>
    if oob 2 500 then none else
    if ((MVSt v) (Int32.toNatClampNeg 2)) ≤ l1 then
      f_X9_isConsistent_h43 FU 0 v
    else
      (f_X9_waits v l1).bind fun r14 =>
      if r14 = 0 then
        f_X9_isConsistent_h7 n (l1 + 1) v
      else
        (f_X9_isNodeConsistent v l1).bind fun r18 =>
        if r18 = 0 then
          some (0, v)
        else
          f_X9_isConsistent_h7 n (l1 + 1) v
def f_X9_isConsistent (v : MV) : Option (Int32 × MV) :=
  f_X9_isConsistent_h7 FU 0 (MV_sTh v 0)
def f_X9_isOwner (v : MV) (a : Int32) : Option (Int32) :=
  if oob 1 500 then none else
  (f_X9_isWithin (Int32.toInt64 a) 0 (Int32.toInt64 (((MVSt v) (Int32.toNatClampNeg 1)) - 1))).bind fun r3 =>
  if ¬ (r3 = 0 ∨ r3 = 1) then none else
  some r3
def f_X9_isPaused (v : MV) (a : Int32) : Option (Int32 × MV) :=
  bnd2 (f_X9_checkQueue v a) fun r2 w3 =>
  if r2 = 0 then
    some (0, w3)
  else
    (f_X9_q a).bind fun r6 =>
    if oob (r6 + 8) 500 then none else
    if ((MVSt w3) (Int32.toNatClampNeg (r6 + 8))) = 1 then
      some (1, w3)
    else
      some (0, w3)
def f_X9_isPrinted (v : MV) (a : Int32) : Option (Int32 × MV) :=
  bnd2 (f_X9_checkJob v a) fun r2 w3 =>
  if r2 = 0 then
    some (0, w3)
  else
    (f_X9_get w3 a 3).bind fun r6 =>
    if r6 = 1 then
      some (1, w3)
    else
      some (0, w3)
def f_X9_isSpelledAt_h21 : Nat → Int32 → Int32 → Int32 → MV → Option (Int32)
  | 0, _, _, _, _ => none
  | n + 1, l1, l2, l3, v =>
    if (MVSl v) ≤ l3 then
      if ¬ (l2 = 0 ∨ l2 = 1) then none else
      some l2
    else
      if l2 = 0 then
        if ¬ (l2 = 0 ∨ l2 = 1) then none else
        some l2
      else
        if oob ((l1 + 1) + l3) 500 then none else
        if oob l3 6 then none else
        if ((MVSt v) (Int32.toNatClampNeg ((l1 + 1) + l3))) = ((MVSp v) (Int32.toNatClampNeg l3)) then
          f_X9_isSpelledAt_h21 n l1 1 (l3 + 1) v
        else
          f_X9_isSpelledAt_h21 n l1 0 (l3 + 1) v
def f_X9_isSpelledAt (v : MV) (a : Int32) : Option (Int32) :=
  if oob a 500 then none else
  if ((MVSt v) (Int32.toNatClampNeg a)) = (MVSl v) then
    f_X9_isSpelledAt_h21 FU a 1 0 v
  else
    f_X9_isSpelledAt_h21 FU a 0 0 v
def f_X9_isWaiting (v : MV) (a : Int32) : Option (Int32 × MV) :=
  bnd2 (f_X9_checkJob v a) fun r2 w3 =>
  if r2 = 0 then
    some (0, w3)
  else
    (f_X9_get w3 a 3).bind fun r6 =>
    if r6 = 0 then
      some (1, w3)
    else
      some (0, w3)
def f_X9_isWord_h35 (a : Nat) : Nat → Int32 → MV → Option (Int32)
  | 0, _, _ => none
  | n + 1, l2, v =>
    if (nI (lenS.getD a 0)) ≤ l2 then
      some 1
    else
      if oob ((MVSa v) + l2) 600 then none else
      if oob l2 (lenS.getD a 0) then none else
      if ((MVBf v) (Int32.toNatClampNeg ((MVSa v) + l2))) = (schar a (Int32.toNatClampNeg l2)) then
        f_X9_isWord_h35 a n (l2 + 1) v
      else
        some 0
def f_X9_isWord (v : MV) (a : Nat) : Option (Int32) :=
  if 0 < (MVFa v) then
    some 0
  else
    if (MVTk v) = 1 then
      if ((MVEn v) - (MVSa v)) = (nI (lenS.getD a 0)) then
        f_X9_isWord_h35 a FU 0 v
      else
        some 0
    else
      some 0
def f_X9_jobAt (v : MV) (a : Int32) (b : Int32) : Option (Int32 × MV) :=
  bnd2 (f_X9_checkQueue v a) fun r2 w3 =>
  if r2 = 0 then
    some (0, w3)
  else
    (f_X9_jobIn w3 a b).bind fun r6 =>
    some (r6, w3)
def f_X9_jobCount (v : MV) : Option (Int32 × MV) :=
  bnd2 (f_X9_numberOf v 2) fun r2 w3 =>
  some (r2, w3)
def f_X9_pagesIn_h4 : Nat → Int32 → Int32 → Int32 → MV → Option (Int32)
  | 0, _, _, _, _ => none
  | n + 1, l1, l2, l3, v =>
    if oob 2 500 then none else
    if ((MVSt v) (Int32.toNatClampNeg 2)) ≤ l3 then
      some l2
    else
      (f_X9_isIn v l3 l1).bind fun r4 =>
      if r4 = 0 then
        f_X9_pagesIn_h4 n l1 (l2 + 0) (l3 + 1) v
      else
        (f_X9_get v l3 2).bind fun r8 =>
        f_X9_pagesIn_h4 n l1 (l2 + r8) (l3 + 1) v
def f_X9_pagesIn (v : MV) (a : Int32) : Option (Int32) :=
  f_X9_pagesIn_h4 FU a 0 0 v
def f_X9_minutes (v : MV) (a : Int32) (b : Int32) : Option (Int32) :=
  (f_X9_q b).bind fun r2 =>
  if oob (r2 + 7) 500 then none else
  if (((MVSt v) (Int32.toNatClampNeg (r2 + 7))) : Int32) = 0 then none else
  some (((a + ((MVSt v) (Int32.toNatClampNeg (r2 + 7)))) - 1) / ((MVSt v) (Int32.toNatClampNeg (r2 + 7))))
def f_X9_leastLoadedQueue_h9 : Nat → Int32 → Int32 → MV → Option (Int32 × MV)
  | 0, _, _, _ => none
  | n + 1, l1, l2, v =>
    if oob 0 500 then none else
    if ((MVSt v) (Int32.toNatClampNeg 0)) ≤ l2 then
      some (l1, v)
    else
      (f_X9_pagesIn v l2).bind fun r4 =>
      (f_X9_minutes v r4 l2).bind fun r7 =>
      (f_X9_pagesIn v l1).bind fun r10 =>
      (f_X9_minutes v r10 l1).bind fun r13 =>
      if r13 ≤ r7 then
        f_X9_leastLoadedQueue_h9 n l1 (l2 + 1) v
      else
        f_X9_leastLoadedQueue_h9 n l2 (l2 + 1) v
def f_X9_leastLoadedQueue (v : MV) : Option (Int32 × MV) :=
  f_X9_leastLoadedQueue_h9 FU 0 1 (MV_sTh v 0)
def f_X9_leftChild (v : MV) (a : Int32) : Option (Int32 × MV) :=
  bnd2 (f_X9_checkJob v a) fun r2 w3 =>
  if r2 = 0 then
    some (0, w3)
  else
    (f_X9_get w3 a 5).bind fun r6 =>
    some (r6, w3)
def f_X9_letterAt (v : MV) (a : Int32) (b : Int32) : Option (Int32) :=
  if oob a 500 then none else
  (f_X9_isWithin (Int32.toInt64 b) 0 (Int32.toInt64 (((MVSt v) (Int32.toNatClampNeg a)) - 1))).bind fun r3 =>
  if r3 = 0 then
    some (-1)
  else
    if oob ((a + 1) + b) 500 then none else
    some ((MVSt v) (Int32.toNatClampNeg ((a + 1) + b)))
def f_X9_parseSemicolon (v : MV) : Option (Unit × MV) :=
  if (MVTk v) = 3 then
    bnd2 (f_X9_expect v 1 1) fun r9 w10 =>
    bnd2 (f_X9_advanceToken w10) fun r12 w13 =>
    some ((), w13)
  else
    bnd2 (f_X9_expect v 0 1) fun r3 w4 =>
    bnd2 (f_X9_advanceToken w4) fun r6 w7 =>
    some ((), w7)
def f_X9_spellName_h58 : Nat → Int32 → MV → Option (Unit × MV)
  | 0, _, _ => none
  | n + 1, l1, v =>
    if (MVSl v) ≤ l1 then
      some ((), v)
    else
      if oob ((MVSa v) + l1) 600 then none else
      if oob l1 6 then none else
      f_X9_spellName_h58 n (l1 + 1) (MV_sSp v (upd (MVSp v) (Int32.toNatClampNeg l1) ((MVBf v) (Int32.toNatClampNeg ((MVSa v) + l1)))))
def f_X9_spellName_j28 (s0 : Int32) (v : MV) : Option (Unit × MV) :=
  bnd2 (f_X9_expect v s0 1) fun r3 w4 =>
  if (MVFa w4) = 0 then
    f_X9_spellName_h58 FU 0 (MV_sSl w4 ((MVEn w4) - (MVSa w4)))
  else
    f_X9_spellName_h58 FU 0 (MV_sSl w4 0)
def f_X9_spellName_j27 (v : MV) : Option (Unit × MV) :=
  f_X9_spellName_j28 0 v
def f_X9_spellName (v : MV) : Option (Unit × MV) :=
  if (MVTk v) = 1 then
    if 6 < ((MVEn v) - (MVSa v)) then
      f_X9_spellName_j27 v
    else
      f_X9_spellName_j28 1 v
  else
    f_X9_spellName_j27 v
def f_X9_spelledQueue_h2 : Nat → Int32 → MV → Option (Int32)
  | 0, _, _ => none
  | n + 1, l1, v =>
    if oob 0 500 then none else
    if ((MVSt v) (Int32.toNatClampNeg 0)) ≤ l1 then
      some (-1)
    else
      (f_X9_q l1).bind fun r4 =>
      (f_X9_isSpelledAt v r4).bind fun r7 =>
      if r7 = 0 then
        f_X9_spelledQueue_h2 n (l1 + 1) v
      else
        some l1
def f_X9_spelledQueue (v : MV) : Option (Int32) :=
  f_X9_spelledQueue_h2 FU 0 v
def f_X9_parseKnownQueue_j43 (l2 : Int32) (s0 : Int32) (v : MV) : Option (Int32 × MV) :=
  bnd2 (f_X9_expect v s0 3) fun r7 w8 =>
  bnd2 (f_X9_advanceToken w8) fun r10 w11 =>
  some ((if 0 < l2 then l2 else 0), w11)
def f_X9_parseKnownQueue_j38 (l2 : Int32) (v : MV) : Option (Int32 × MV) :=
  f_X9_parseKnownQueue_j43 l2 1 v
def f_X9_parseKnownQueue_j42 (l2 : Int32) (v : MV) : Option (Int32 × MV) :=
  f_X9_parseKnownQueue_j43 l2 0 v
def f_X9_parseKnownQueue_j19 (l1 : Int32) (s0 : Int32) (v : MV) : Option (Int32 × MV) :=
  if 0 < (MVFa v) then
    f_X9_parseKnownQueue_j38 s0 v
  else
    if s0 = (-1) then
      f_X9_parseKnownQueue_j42 s0 v
    else
      if s0 = l1 then
        f_X9_parseKnownQueue_j42 s0 v
      else
        f_X9_parseKnownQueue_j38 s0 v
def f_X9_parseKnownQueue (v : MV) (a : Int32) : Option (Int32 × MV) :=
  bnd2 (f_X9_spellName v) fun r2 w3 =>
  if (MVFa w3) = 0 then
    (f_X9_spelledQueue w3).bind fun r15 =>
    f_X9_parseKnownQueue_j19 a r15 w3
  else
    f_X9_parseKnownQueue_j19 a 0 w3
def f_X9_spelledOwner_h2 : Nat → Int32 → MV → Option (Int32)
  | 0, _, _ => none
  | n + 1, l1, v =>
    if oob 1 500 then none else
    if ((MVSt v) (Int32.toNatClampNeg 1)) ≤ l1 then
      some (-1)
    else
      (f_X9_o l1).bind fun r4 =>
      (f_X9_isSpelledAt v r4).bind fun r7 =>
      if r7 = 0 then
        f_X9_spelledOwner_h2 n (l1 + 1) v
      else
        some l1
def f_X9_spelledOwner (v : MV) : Option (Int32) :=
  f_X9_spelledOwner_h2 FU 0 v
def f_X9_parseKnownOwner_j31 (l1 : Int32) (s0 : Int32) (v : MV) : Option (Int32 × MV) :=
  bnd2 (f_X9_expect v s0 3) fun r7 w8 =>
  bnd2 (f_X9_advanceToken w8) fun r10 w11 =>
  some ((if 0 < l1 then l1 else 0), w11)
def f_X9_parseKnownOwner_j19 (s0 : Int32) (v : MV) : Option (Int32 × MV) :=
  if s0 = (-1) then
    f_X9_parseKnownOwner_j31 s0 0 v
  else
    f_X9_parseKnownOwner_j31 s0 1 v
def f_X9_parseKnownOwner (v : MV) : Option (Int32 × MV) :=
  bnd2 (f_X9_spellName v) fun r2 w3 =>
  if (MVFa w3) = 0 then
    (f_X9_spelledOwner w3).bind fun r13 =>
    f_X9_parseKnownOwner_j19 r13 w3
  else
    f_X9_parseKnownOwner_j19 0 w3
def f_X9_parseNumber_j50 (s0 : Int32) (v : MV) : Option (Int32 × MV) :=
  bnd2 (f_X9_advanceToken v) fun r13 w14 =>
  some (s0, w14)
def f_X9_parseNumber_j14 (l1 : Int32) (l2 : Int32) (s0 : Int32) (v : MV) : Option (Int32 × MV) :=
  bnd2 (f_X9_expect v s0 1) fun r3 w4 =>
  (f_X9_isWithin (Int32.toInt64 (MVVa w4)) (Int32.toInt64 l1) (Int32.toInt64 l2)).bind fun r6 =>
  bnd2 (f_X9_expect w4 r6 2) fun r9 w10 =>
  if (MVFa w10) = 0 then
    f_X9_parseNumber_j50 (MVVa w10) w10
  else
    f_X9_parseNumber_j50 l1 w10
def f_X9_parseNumber (v : MV) (a : Int32) (b : Int32) : Option (Int32 × MV) :=
  if (MVTk v) = 2 then
    f_X9_parseNumber_j14 a b 1 v
  else
    f_X9_parseNumber_j14 a b 0 v
def f_X9_parseJob_j17 (s0 : Int32) (v : MV) : Option (Unit × MV) :=
  bnd2 (f_X9_expect v s0 4) fun r4 w5 =>
  bnd2 (f_X9_advanceToken w5) fun r7 w8 =>
  bnd2 (f_X9_parseKnownQueue w8 (-1)) fun r10 w11 =>
  bnd2 (f_X9_parseKnownOwner w11) fun r13 w14 =>
  bnd2 (f_X9_parseNumber w14 0 99) fun r16 w17 =>
  bnd2 (f_X9_parseNumber w17 1 99) fun r19 w20 =>
  if (MVFa w20) = 0 then
    bnd2 (f_X9_addJob w20 r10 r13 r16 r19) fun r23 w24 =>
    some ((), w24)
  else
    some ((), w20)
def f_X9_parseJob (v : MV) : Option (Unit × MV) :=
  if oob 2 500 then none else
  if 40 ≤ ((MVSt v) (Int32.toNatClampNeg 2)) then
    f_X9_parseJob_j17 0 v
  else
    f_X9_parseJob_j17 1 v
def f_X9_parseOwner_j65 (v : MV) : Option (Unit × MV) :=
  bnd2 (f_X9_advanceToken v) fun r18 w19 =>
  some ((), w19)
def f_X9_parseOwner_j50 (s0 : Int32) (v : MV) : Option (Unit × MV) :=
  bnd2 (f_X9_expect v s0 3) fun r14 w15 =>
  if (MVFa w15) = 0 then
    bnd2 (f_X9_addOwner w15) fun r21 w22 =>
    f_X9_parseOwner_j65 w22
  else
    f_X9_parseOwner_j65 w15
def f_X9_parseOwner_j45 (v : MV) : Option (Unit × MV) :=
  f_X9_parseOwner_j50 1 v
def f_X9_parseOwner_j17 (s0 : Int32) (v : MV) : Option (Unit × MV) :=
  bnd2 (f_X9_expect v s0 4) fun r4 w5 =>
  bnd2 (f_X9_advanceToken w5) fun r7 w8 =>
  bnd2 (f_X9_spellName w8) fun r10 w11 =>
  if 0 < (MVFa w11) then
    f_X9_parseOwner_j45 w11
  else
    (f_X9_spelledOwner w11).bind fun r24 =>
    if r24 = (-1) then
      f_X9_parseOwner_j45 w11
    else
      f_X9_parseOwner_j50 0 w11
def f_X9_parseOwner (v : MV) : Option (Unit × MV) :=
  if oob 1 500 then none else
  if 8 ≤ ((MVSt v) (Int32.toNatClampNeg 1)) then
    f_X9_parseOwner_j17 0 v
  else
    f_X9_parseOwner_j17 1 v
def f_X9_parseQueue_j50 (s0 : Int32) (v : MV) : Option (Unit × MV) :=
  bnd2 (f_X9_expect v s0 3) fun r14 w15 =>
  bnd2 (f_X9_advanceToken w15) fun r17 w18 =>
  bnd2 (f_X9_parseNumber w18 1 50) fun r20 w21 =>
  if (MVFa w21) = 0 then
    bnd2 (f_X9_addQueue w21 r20) fun r24 w25 =>
    some ((), w25)
  else
    some ((), w21)
def f_X9_parseQueue_j45 (v : MV) : Option (Unit × MV) :=
  f_X9_parseQueue_j50 1 v
def f_X9_parseQueue_j17 (s0 : Int32) (v : MV) : Option (Unit × MV) :=
  bnd2 (f_X9_expect v s0 4) fun r4 w5 =>
  bnd2 (f_X9_advanceToken w5) fun r7 w8 =>
  bnd2 (f_X9_spellName w8) fun r10 w11 =>
  if 0 < (MVFa w11) then
    f_X9_parseQueue_j45 w11
  else
    (f_X9_spelledQueue w11).bind fun r27 =>
    if r27 = (-1) then
      f_X9_parseQueue_j45 w11
    else
      f_X9_parseQueue_j50 0 w11
def f_X9_parseQueue (v : MV) : Option (Unit × MV) :=
  if oob 0 500 then none else
  if 6 ≤ ((MVSt v) (Int32.toNatClampNeg 0)) then
    f_X9_parseQueue_j17 0 v
  else
    f_X9_parseQueue_j17 1 v
def f_X9_parsePart_j54 (v : MV) : Option (Unit × MV) :=
  bnd2 (f_X9_parseSemicolon v) fun r17 w18 =>
  some ((), w18)
def f_X9_parsePart (v : MV) : Option (Unit × MV) :=
  (f_X9_isWord v 27).bind fun r2 =>
  if r2 = 0 then
    (f_X9_isWord v 28).bind fun r6 =>
    if r6 = 0 then
      (f_X9_isWord v 29).bind fun r10 =>
      if r10 = 0 then
        bnd2 (f_X9_expect v 0 1) fun r14 w15 =>
        f_X9_parsePart_j54 w15
      else
        bnd2 (f_X9_parseJob v) fun r20 w21 =>
        f_X9_parsePart_j54 w21
    else
      bnd2 (f_X9_parseOwner v) fun r23 w24 =>
      f_X9_parsePart_j54 w24
  else
    bnd2 (f_X9_parseQueue v) fun r26 w27 =>
    f_X9_parsePart_j54 w27
def f_X9_loadSetup_j66 (s0 : Int32) (v : MV) : Option (Int32 × MV) :=
  bnd2 (f_X9_expect v s0 5) fun r14 w15 =>
  bnd2 (f_X9_endText w15) fun r17 w18 =>
  if (MVFa w18) ≤ 0 then
    bnd2 (f_X9_clearCounters w18) fun r21 w22 =>
    if oob 2 500 then none else
    some (((MVSt w22) (Int32.toNatClampNeg 2)), (MV_sIs (MV_sPc w22 0) 0))
  else
    bnd2 (f_X9_copyFrom_2 w18) fun r25 w26 =>
    some ((-1), w26)
def f_X9_loadSetup_j65 (v : MV) : Option (Int32 × MV) :=
  f_X9_loadSetup_j66 0 v
def f_X9_loadSetup_j42 (v : MV) : Option (Int32 × MV) :=
  if oob 0 500 then none else
  if ((MVSt v) (Int32.toNatClampNeg 0)) ≤ 0 then
    f_X9_loadSetup_j65 v
  else
    if oob 1 500 then none else
    if ((MVSt v) (Int32.toNatClampNeg 1)) ≤ 0 then
      f_X9_loadSetup_j65 v
    else
      f_X9_loadSetup_j66 1 v
def f_X9_loadSetup_h21 : Nat → MV → Option (Int32 × MV)
  | 0, _ => none
  | n + 1, v =>
    if (MVFa v) = 0 then
      if (MVTk v) = 0 then
        f_X9_loadSetup_j42 v
      else
        bnd2 (f_X9_parsePart v) fun r31 w32 =>
        f_X9_loadSetup_h21 n w32
    else
      f_X9_loadSetup_j42 v
def f_X9_loadSetup (v : MV) : Option (Int32 × MV) :=
  bnd2 (f_X9_copyTo_2 (MV_sTh v 0)) fun r2 w3 =>
  bnd2 (f_X9_clear w3) fun r5 w6 =>
  bnd2 (f_X9_beginText w6) fun r8 w9 =>
  f_X9_loadSetup_h21 FU w9
def f_X9_meanRank_h9 : Nat → Int32 → Int32 → MV → Option (UInt64 × MV)
  | 0, _, _, _ => none
  | n + 1, l1, l2, v =>
    if oob 2 500 then none else
    if ((MVSt v) (Int32.toNatClampNeg 2)) ≤ l2 then
      (f_X9_waitingCount v).bind fun r4 =>
      if r4 = 0 then
        some (FP.dconst0, v)
      else
        if ¬ ((FP.ddiv (FP.i2d l1) (FP.i2d r4)) &&& 0x7fffffffffffffff ≤ 0x7ff0000000000000) then none else
        some ((FP.ddiv (FP.i2d l1) (FP.i2d r4)), v)
    else
      (f_X9_waits v l2).bind fun r9 =>
      if r9 = 0 then
        f_X9_meanRank_h9 n (l1 + 0) (l2 + 1) v
      else
        (f_X9_get v l2 8).bind fun r13 =>
        f_X9_meanRank_h9 n (l1 + r13) (l2 + 1) v
def f_X9_meanRank (v : MV) : Option (UInt64 × MV) :=
  f_X9_meanRank_h9 FU 0 0 (MV_sTh v 0)
def f_X9_mergeCost (v : MV) (a : Int32) (b : Int32) : Option (Int32 × MV) :=
  bnd2 (f_X9_checkTwo v a b) fun r2 w3 =>
  if r2 = 0 then
    some (0, w3)
  else
    if oob 3 500 then none else
    bnd2 (f_X9_copyTo_2 w3) fun r7 w8 =>
    bnd2 (f_X9_mergeInto w8 a b) fun r10 w11 =>
    if oob 3 500 then none else
    bnd2 (f_X9_copyFrom_2 w11) fun r14 w15 =>
    some ((((MVSt w11) (Int32.toNatClampNeg 3)) - ((MVSt w3) (Int32.toNatClampNeg 3))), w15)
def f_X9_mergeQueues (v : MV) (a : Int32) (b : Int32) : Option (Int32 × MV) :=
  bnd2 (f_X9_checkTwo v a b) fun r2 w3 =>
  if r2 = 0 then
    some (0, w3)
  else
    bnd2 (f_X9_remember w3) fun r6 w7 =>
    bnd2 (f_X9_mergeInto w7 a b) fun r9 w10 =>
    some (r9, w10)
def f_X9_pagesAhead_h4 : Nat → Int32 → Int32 → Int32 → MV → Option (Int32)
  | 0, _, _, _, _ => none
  | n + 1, l1, l2, l3, v =>
    if oob 2 500 then none else
    if ((MVSt v) (Int32.toNatClampNeg 2)) ≤ l3 then
      some l2
    else
      (f_X9_get v l1 4).bind fun r4 =>
      (f_X9_isIn v l3 r4).bind fun r7 =>
      if r7 = 0 then
        f_X9_pagesAhead_h4 n l1 (l2 + 0) (l3 + 1) v
      else
        (f_X9_precedes v l3 l1).bind fun r12 =>
        if r12 = 0 then
          f_X9_pagesAhead_h4 n l1 (l2 + 0) (l3 + 1) v
        else
          (f_X9_get v l3 2).bind fun r18 =>
          f_X9_pagesAhead_h4 n l1 (l2 + r18) (l3 + 1) v
def f_X9_pagesAhead (v : MV) (a : Int32) : Option (Int32) :=
  f_X9_pagesAhead_h4 FU a 0 0 v
def f_X9_minutesUntilPrinted (v : MV) (a : Int32) : Option (Int32 × MV) :=
  bnd2 (f_X9_checkWaiting v a) fun r2 w3 =>
  if r2 = 0 then
    some (0, w3)
  else
    (f_X9_pagesAhead w3 a).bind fun r6 =>
    (f_X9_get w3 a 2).bind fun r9 =>
    (f_X9_get w3 a 4).bind fun r12 =>
    (f_X9_minutes w3 (r6 + r9) r12).bind fun r15 =>
    some (r15, w3)
def f_X9_moveJob_j50 (l1 : Int32) (l2 : Int32) (s0 : Int32) (s1 : Int32) (v : MV) : Option (Int32 × MV) :=
  bnd2 (f_X9_check v s1 s0 1) fun r7 w8 =>
  if r7 = 0 then
    some (0, w8)
  else
    bnd2 (f_X9_remember w8) fun r11 w12 =>
    bnd2 (f_X9_moveTo w12 l1 l2) fun r14 w15 =>
    some (r14, w15)
def f_X9_moveJob_j49 (l1 : Int32) (l2 : Int32) (s0 : Int32) (v : MV) : Option (Int32 × MV) :=
  f_X9_moveJob_j50 l1 l2 0 s0 v
def f_X9_moveJob_j21 (l1 : Int32) (l2 : Int32) (s0 : Int32) (v : MV) : Option (Int32 × MV) :=
  if s0 = 0 then
    f_X9_moveJob_j49 l1 l2 s0 v
  else
    (f_X9_waits v l1).bind fun r17 =>
    if r17 = 0 then
      f_X9_moveJob_j49 l1 l2 s0 v
    else
      (f_X9_isIn v l1 l2).bind fun r21 =>
      if r21 = 0 then
        f_X9_moveJob_j50 l1 l2 1 s0 v
      else
        f_X9_moveJob_j49 l1 l2 s0 v
def f_X9_moveJob_j20 (l1 : Int32) (l2 : Int32) (v : MV) : Option (Int32 × MV) :=
  f_X9_moveJob_j21 l1 l2 0 v
def f_X9_moveJob (v : MV) (a : Int32) (b : Int32) : Option (Int32 × MV) :=
  (f_X9_isJob v a).bind fun r2 =>
  if r2 = 0 then
    f_X9_moveJob_j20 a b v
  else
    (f_X9_isQueue v b).bind fun r25 =>
    if r25 = 0 then
      f_X9_moveJob_j20 a b v
    else
      f_X9_moveJob_j21 a b 1 v
def f_X9_outputByte (v : MV) (a : Int32) : Option (Int32 × MV) :=
  (f_X9_isWithin (Int32.toInt64 a) 0 (Int32.toInt64 ((MVOl v) - 1))).bind fun r2 =>
  if r2 = 0 then
    some ((-1), (MV_sTh v 0))
  else
    if oob a 240 then none else
    some (((MVOu v) (Int32.toNatClampNeg a)), (MV_sTh v 0))
def f_X9_ownerCount (v : MV) : Option (Int32 × MV) :=
  bnd2 (f_X9_numberOf v 1) fun r2 w3 =>
  some (r2, w3)
def f_X9_ownerNameByte (v : MV) (a : Int32) (b : Int32) : Option (Int32 × MV) :=
  (f_X9_isOwner v a).bind fun r2 =>
  bnd2 (f_X9_check v r2 1 1) fun r5 w6 =>
  if r5 = 0 then
    some (0, w6)
  else
    (f_X9_o a).bind fun r9 =>
    (f_X9_letterAt w6 r9 b).bind fun r12 =>
    some (r12, w6)
def f_X9_ownerOf (v : MV) (a : Int32) : Option (Int32 × MV) :=
  bnd2 (f_X9_checkJob v a) fun r2 w3 =>
  if r2 = 0 then
    some (0, w3)
  else
    (f_X9_get w3 a 0).bind fun r6 =>
    some (r6, w3)
def f_X9_pages (v : MV) (a : Int32) : Option (Int32 × MV) :=
  bnd2 (f_X9_checkJob v a) fun r2 w3 =>
  if r2 = 0 then
    some (0, w3)
  else
    (f_X9_get w3 a 2).bind fun r6 =>
    some (r6, w3)
def f_X9_pagesBefore (v : MV) (a : Int32) : Option (Int32 × MV) :=
  bnd2 (f_X9_checkWaiting v a) fun r2 w3 =>
  if r2 = 0 then
    some (0, w3)
  else
    (f_X9_pagesAhead w3 a).bind fun r6 =>
    some (r6, w3)
def f_X9_pagesOfOwner_h5 : Nat → Int32 → Int32 → Int32 → Int32 → MV → Option (Int32)
  | 0, _, _, _, _, _ => none
  | n + 1, l1, l2, l3, l4, v =>
    if oob 2 500 then none else
    if ((MVSt v) (Int32.toNatClampNeg 2)) ≤ l4 then
      some l3
    else
      (f_X9_get v l4 0).bind fun r4 =>
      if r4 = l1 then
        (f_X9_get v l4 3).bind fun r9 =>
        if r9 = l2 then
          (f_X9_get v l4 2).bind fun r15 =>
          f_X9_pagesOfOwner_h5 n l1 l2 (l3 + r15) (l4 + 1) v
        else
          f_X9_pagesOfOwner_h5 n l1 l2 (l3 + 0) (l4 + 1) v
      else
        f_X9_pagesOfOwner_h5 n l1 l2 (l3 + 0) (l4 + 1) v
def f_X9_pagesOfOwner (v : MV) (a : Int32) (b : Int32) : Option (Int32) :=
  f_X9_pagesOfOwner_h5 FU a b 0 0 v
def f_X9_parent (v : MV) (a : Int32) : Option (Int32 × MV) :=
  bnd2 (f_X9_checkJob v a) fun r2 w3 =>
  if r2 = 0 then
    some (0, w3)
  else
    (f_X9_get w3 a 7).bind fun r6 =>
    some (r6, w3)
def f_X9_parseHandle (v : MV) : Option (Int32 × MV) :=
  bnd2 (f_X9_parseNumber v 0 39) fun r2 w3 =>
  some (r2, w3)
def f_X9_statementKind (v : MV) : Option (Int32) :=
  (f_X9_isWord v 30).bind fun r2 =>
  if r2 = 0 then
    (f_X9_isWord v 31).bind fun r6 =>
    if r6 = 0 then
      (f_X9_isWord v 32).bind fun r10 =>
      if r10 = 0 then
        (f_X9_isWord v 33).bind fun r14 =>
        if r14 = 0 then
          (f_X9_isWord v 34).bind fun r18 =>
          if r18 = 0 then
            (f_X9_isWord v 35).bind fun r22 =>
            if r22 = 0 then
              (f_X9_isWord v 36).bind fun r26 =>
              if r26 = 0 then
                (f_X9_isWord v 37).bind fun r30 =>
                if r30 = 0 then
                  some (-1)
                else
                  some 7
              else
                some 6
            else
              some 5
          else
            some 4
        else
          some 3
      else
        some 2
    else
      some 1
  else
    some 0
def f_X9_parseStatement_j284 (v : MV) : Option (Unit × MV) :=
  bnd2 (f_X9_parseSemicolon v) fun r35 w36 =>
  some ((), (MV_sSc w36 ((MVSc w36) + 1)))
def f_X9_parseStatement_j271 (l2 : Int32) (v : MV) : Option (Unit × MV) :=
  bnd2 (f_X9_parseKnownQueue v (-1)) fun r39 w40 =>
  if oob (l2 + 1) 150 then none else
  f_X9_parseStatement_j284 (MV_sSm w40 (upd (MVSm w40) (Int32.toNatClampNeg (l2 + 1)) r39))
def f_X9_parseStatement_j35 (l1 : Int32) (s0 : Int32) (v : MV) : Option (Unit × MV) :=
  bnd2 (f_X9_expect v s0 4) fun r10 w11 =>
  bnd2 (f_X9_advanceToken w11) fun r13 w14 =>
  if (MVFa w14) ≤ 0 then
    if oob (5 * (MVSc w14)) 150 then none else
    if l1 = 0 then
      bnd2 (f_X9_parseKnownQueue (MV_sSm w14 (upd (MVSm w14) (Int32.toNatClampNeg (5 * (MVSc w14))) l1)) (-1)) fun r19 w20 =>
      if oob ((5 * (MVSc w14)) + 1) 150 then none else
      bnd2 (f_X9_parseKnownOwner (MV_sSm w20 (upd (MVSm w20) (Int32.toNatClampNeg ((5 * (MVSc w14)) + 1)) r19))) fun r23 w24 =>
      if oob ((5 * (MVSc w14)) + 2) 150 then none else
      bnd2 (f_X9_parseNumber (MV_sSm w24 (upd (MVSm w24) (Int32.toNatClampNeg ((5 * (MVSc w14)) + 2)) r23)) 0 99) fun r27 w28 =>
      if oob ((5 * (MVSc w14)) + 3) 150 then none else
      bnd2 (f_X9_parseNumber (MV_sSm w28 (upd (MVSm w28) (Int32.toNatClampNeg ((5 * (MVSc w14)) + 3)) r27)) 1 99) fun r31 w32 =>
      if oob ((5 * (MVSc w14)) + 4) 150 then none else
      f_X9_parseStatement_j284 (MV_sSm w32 (upd (MVSm w32) (Int32.toNatClampNeg ((5 * (MVSc w14)) + 4)) r31))
    else
    if l1 = 1 then
      f_X9_parseStatement_j271 (5 * (MVSc w14)) (MV_sSm w14 (upd (MVSm w14) (Int32.toNatClampNeg (5 * (MVSc w14))) l1))
    else
    if l1 = 2 then
      bnd2 (f_X9_parseHandle (MV_sSm w14 (upd (MVSm w14) (Int32.toNatClampNeg (5 * (MVSc w14))) l1))) fun r44 w45 =>
      if oob ((5 * (MVSc w14)) + 1) 150 then none else
      f_X9_parseStatement_j284 (MV_sSm w45 (upd (MVSm w45) (Int32.toNatClampNeg ((5 * (MVSc w14)) + 1)) r44))
    else
    if l1 = 3 then
      bnd2 (f_X9_parseHandle (MV_sSm w14 (upd (MVSm w14) (Int32.toNatClampNeg (5 * (MVSc w14))) l1))) fun r49 w50 =>
      if oob ((5 * (MVSc w14)) + 1) 150 then none else
      bnd2 (f_X9_parseNumber (MV_sSm w50 (upd (MVSm w50) (Int32.toNatClampNeg ((5 * (MVSc w14)) + 1)) r49)) 0 99) fun r53 w54 =>
      if oob ((5 * (MVSc w14)) + 2) 150 then none else
      f_X9_parseStatement_j284 (MV_sSm w54 (upd (MVSm w54) (Int32.toNatClampNeg ((5 * (MVSc w14)) + 2)) r53))
    else
    if l1 = 4 then
      bnd2 (f_X9_parseHandle (MV_sSm w14 (upd (MVSm w14) (Int32.toNatClampNeg (5 * (MVSc w14))) l1))) fun r58 w59 =>
      if oob ((5 * (MVSc w14)) + 1) 150 then none else
      bnd2 (f_X9_parseKnownQueue (MV_sSm w59 (upd (MVSm w59) (Int32.toNatClampNeg ((5 * (MVSc w14)) + 1)) r58)) (-1)) fun r62 w63 =>
      if oob ((5 * (MVSc w14)) + 2) 150 then none else
      f_X9_parseStatement_j284 (MV_sSm w63 (upd (MVSm w63) (Int32.toNatClampNeg ((5 * (MVSc w14)) + 2)) r62))
    else
    if l1 = 5 then
      bnd2 (f_X9_parseKnownQueue (MV_sSm w14 (upd (MVSm w14) (Int32.toNatClampNeg (5 * (MVSc w14))) l1)) (-1)) fun r67 w68 =>
      if oob ((5 * (MVSc w14)) + 1) 150 then none else
      if oob ((5 * (MVSc w14)) + 1) 150 then none else
      bnd2 (f_X9_parseKnownQueue (MV_sSm w68 (upd (MVSm w68) (Int32.toNatClampNeg ((5 * (MVSc w14)) + 1)) r67)) ((upd (MVSm w68) (Int32.toNatClampNeg ((5 * (MVSc w14)) + 1)) r67) (Int32.toNatClampNeg ((5 * (MVSc w14)) + 1)))) fun r72 w73 =>
      if oob ((5 * (MVSc w14)) + 2) 150 then none else
      f_X9_parseStatement_j284 (MV_sSm w73 (upd (MVSm w73) (Int32.toNatClampNeg ((5 * (MVSc w14)) + 2)) r72))
    else
    f_X9_parseStatement_j271 (5 * (MVSc w14)) (MV_sSm w14 (upd (MVSm w14) (Int32.toNatClampNeg (5 * (MVSc w14))) l1))
  else
    some ((), w14)
def f_X9_parseStatement_j16 (l1 : Int32) (s0 : Int32) (v : MV) : Option (Unit × MV) :=
  bnd2 (f_X9_expect v s0 1) fun r6 w7 =>
  if 30 ≤ (MVSc w7) then
    f_X9_parseStatement_j35 l1 0 w7
  else
    f_X9_parseStatement_j35 l1 1 w7
def f_X9_parseStatement (v : MV) : Option (Unit × MV) :=
  (f_X9_statementKind v).bind fun r2 =>
  if r2 = (-1) then
    f_X9_parseStatement_j16 r2 0 v
  else
    f_X9_parseStatement_j16 r2 1 v
def f_X9_positionOf (v : MV) (a : Int32) : Option (Int32 × MV) :=
  bnd2 (f_X9_checkWaiting v a) fun r2 w3 =>
  if r2 = 0 then
    some (0, w3)
  else
    (f_X9_positionIn w3 a).bind fun r6 =>
    some (r6, w3)
def f_X9_positionWith_j34 (l1 : Int32) (l2 : Int32) (s0 : Int32) (s1 : Int32) (s2 : Int32) (v : MV) : Option (Int32 × MV) :=
  bnd2 (f_X9_check v s2 s1 s0) fun r9 w10 =>
  if r9 = 0 then
    some (0, w10)
  else
    (f_X9_get w10 l1 1).bind fun r13 =>
    bnd2 (f_X9_set w10 l1 1 l2) fun r16 w17 =>
    (f_X9_positionIn w17 l1).bind fun r19 =>
    bnd2 (f_X9_set w17 l1 1 r13) fun r22 w23 =>
    some (r19, w23)
def f_X9_positionWith_j33 (l1 : Int32) (l2 : Int32) (s0 : Int32) (s1 : Int32) (v : MV) : Option (Int32 × MV) :=
  f_X9_positionWith_j34 l1 l2 0 s0 s1 v
def f_X9_positionWith (v : MV) (a : Int32) (b : Int32) : Option (Int32 × MV) :=
  (f_X9_isJob v a).bind fun r2 =>
  (f_X9_isWithin (Int32.toInt64 b) 0 99).bind fun r5 =>
  if r2 = 0 then
    f_X9_positionWith_j33 a b r5 r2 v
  else
    (f_X9_waits v a).bind fun r25 =>
    if r25 = 0 then
      f_X9_positionWith_j33 a b r5 r2 v
    else
      f_X9_positionWith_j34 a b 1 r5 r2 v
def f_X9_printNext_j25 (l1 : Int32) (s0 : Int32) (s1 : Int32) (v : MV) : Option (Int32 × MV) :=
  bnd2 (f_X9_check v s1 s0 1) fun r6 w7 =>
  if r6 = 0 then
    some (0, w7)
  else
    bnd2 (f_X9_remember w7) fun r10 w11 =>
    bnd2 (f_X9_printRoot w11 l1) fun r13 w14 =>
    some (r13, w14)
def f_X9_printNext_j24 (l1 : Int32) (s0 : Int32) (v : MV) : Option (Int32 × MV) :=
  f_X9_printNext_j25 l1 0 s0 v
def f_X9_printNext (v : MV) (a : Int32) : Option (Int32 × MV) :=
  (f_X9_isQueue v a).bind fun r2 =>
  if r2 = 0 then
    f_X9_printNext_j24 a r2 v
  else
    (f_X9_obstacle v a).bind fun r16 =>
    if r16 = 0 then
      f_X9_printNext_j25 a 1 r2 v
    else
      f_X9_printNext_j24 a r2 v
def f_X9_printedPages (v : MV) (a : Int32) : Option (Int32 × MV) :=
  bnd2 (f_X9_checkQueue v a) fun r2 w3 =>
  if r2 = 0 then
    some (0, w3)
  else
    (f_X9_q a).bind fun r6 =>
    if oob (r6 + 10) 500 then none else
    some (((MVSt w3) (Int32.toNatClampNeg (r6 + 10))), w3)
def f_X9_printedPagesOfOwner (v : MV) (a : Int32) : Option (Int32 × MV) :=
  (f_X9_isOwner v a).bind fun r2 =>
  bnd2 (f_X9_check v r2 1 1) fun r5 w6 =>
  if r5 = 0 then
    some (0, w6)
  else
    (f_X9_pagesOfOwner w6 a 1).bind fun r9 =>
    some (r9, w6)
def f_X9_printedPart_h44 : Nat → Int32 → Int32 → Int32 → MV → Option (UInt32 × MV)
  | 0, _, _, _, _ => none
  | n + 1, l1, l2, l3, v =>
    if oob 2 500 then none else
    if ((MVSt v) (Int32.toNatClampNeg 2)) ≤ l3 then
      if l2 = 0 then
        some (FP.fconst0, v)
      else
        if ¬ ((FP.fdiv (FP.i2f l1) (FP.i2f l2)) &&& 0x7fffffff ≤ 0x7f800000) then none else
        some ((FP.fdiv (FP.i2f l1) (FP.i2f l2)), v)
    else
      (f_X9_get v l3 2).bind fun r8 =>
      f_X9_printedPart_h44 n l1 (l2 + r8) (l3 + 1) v
def f_X9_printedPart_h9 : Nat → Int32 → Int32 → MV → Option (UInt32 × MV)
  | 0, _, _, _ => none
  | n + 1, l1, l2, v =>
    if oob 0 500 then none else
    if ((MVSt v) (Int32.toNatClampNeg 0)) ≤ l2 then
      f_X9_printedPart_h44 FU l1 0 0 v
    else
      (f_X9_q l2).bind fun r11 =>
      if oob (r11 + 10) 500 then none else
      f_X9_printedPart_h9 n (l1 + ((MVSt v) (Int32.toNatClampNeg (r11 + 10)))) (l2 + 1) v
def f_X9_printedPart (v : MV) : Option (UInt32 × MV) :=
  f_X9_printedPart_h9 FU 0 0 (MV_sTh v 0)
def f_X9_printingObstacle (v : MV) (a : Int32) : Option (Int32 × MV) :=
  bnd2 (f_X9_checkQueue v a) fun r2 w3 =>
  if r2 = 0 then
    some (0, w3)
  else
    (f_X9_obstacle w3 a).bind fun r6 =>
    some (r6, w3)
def f_X9_priority (v : MV) (a : Int32) : Option (Int32 × MV) :=
  bnd2 (f_X9_checkJob v a) fun r2 w3 =>
  if r2 = 0 then
    some (0, w3)
  else
    (f_X9_get w3 a 1).bind fun r6 =>
    some (r6, w3)
def f_X9_queueCount (v : MV) : Option (Int32 × MV) :=
  bnd2 (f_X9_numberOf v 0) fun r2 w3 =>
  some (r2, w3)
def f_X9_queueNameByte (v : MV) (a : Int32) (b : Int32) : Option (Int32 × MV) :=
  bnd2 (f_X9_checkQueue v a) fun r2 w3 =>
  if r2 = 0 then
    some (0, w3)
  else
    (f_X9_q a).bind fun r6 =>
    (f_X9_letterAt w3 r6 b).bind fun r9 =>
    some (r9, w3)
def f_X9_queueOf (v : MV) (a : Int32) : Option (Int32 × MV) :=
  bnd2 (f_X9_checkJob v a) fun r2 w3 =>
  if r2 = 0 then
    some (0, w3)
  else
    (f_X9_waits w3 a).bind fun r6 =>
    if r6 = 0 then
      some ((-1), w3)
    else
      (f_X9_get w3 a 4).bind fun r10 =>
      some (r10, w3)
def f_X9_rank (v : MV) (a : Int32) : Option (Int32 × MV) :=
  bnd2 (f_X9_checkJob v a) fun r2 w3 =>
  if r2 = 0 then
    some (0, w3)
  else
    (f_X9_get w3 a 8).bind fun r6 =>
    some (r6, w3)
def f_X9_rankAfterMerge (v : MV) (a : Int32) (b : Int32) : Option (Int32 × MV) :=
  bnd2 (f_X9_checkTwo v a b) fun r2 w3 =>
  if r2 = 0 then
    some (0, w3)
  else
    bnd2 (f_X9_copyTo_2 w3) fun r6 w7 =>
    bnd2 (f_X9_mergeInto w7 a b) fun r9 w10 =>
    (f_X9_rootOf w10 b).bind fun r12 =>
    (f_X9_rankOf w10 r12).bind fun r15 =>
    bnd2 (f_X9_copyFrom_2 w10) fun r18 w19 =>
    some (r15, w19)
def f_X9_copyFrom_3_h2 : Nat → Int32 → MV → Option (Unit × MV)
  | 0, _, _ => none
  | n + 1, l2, v =>
    if 500 ≤ l2 then
      some ((), v)
    else
      if oob l2 500 then none else
      if oob l2 500 then none else
      f_X9_copyFrom_3_h2 n (l2 + 1) (MV_sSt v (upd (MVSt v) (Int32.toNatClampNeg l2) ((MVSv v) (Int32.toNatClampNeg l2))))
def f_X9_copyFrom_3 (v : MV) : Option (Unit × MV) :=
  f_X9_copyFrom_3_h2 FU 0 v
def f_X9_restoreState (v : MV) : Option (Int32 × MV) :=
  bnd2 (f_X9_check v (MVIs v) 1 1) fun r2 w3 =>
  if r2 = 0 then
    some (0, w3)
  else
    bnd2 (f_X9_copyFrom_3 w3) fun r6 w7 =>
    if oob 2 500 then none else
    some (((MVSt w7) (Int32.toNatClampNeg 2)), (MV_sPc w7 0))
def f_X9_rightChild (v : MV) (a : Int32) : Option (Int32 × MV) :=
  bnd2 (f_X9_checkJob v a) fun r2 w3 =>
  if r2 = 0 then
    some (0, w3)
  else
    (f_X9_get w3 a 6).bind fun r6 =>
    some (r6, w3)
def f_X9_root (v : MV) (a : Int32) : Option (Int32 × MV) :=
  bnd2 (f_X9_checkQueue v a) fun r2 w3 =>
  if r2 = 0 then
    some (0, w3)
  else
    (f_X9_rootOf w3 a).bind fun r6 =>
    some (r6, w3)
def f_X9_runScript_h54 : Nat → Int32 → MV → Option (Int32 × MV)
  | 0, _, _ => none
  | n + 1, l1, v =>
    if (MVSc v) ≤ l1 then
      some (l1, v)
    else
      bnd2 (f_X9_execute v l1) fun r14 w15 =>
      if r14 = 0 then
        some (l1, w15)
      else
        f_X9_runScript_h54 n (l1 + 1) w15
def f_X9_runScript_h14 : Nat → MV → Option (Int32 × MV)
  | 0, _ => none
  | n + 1, v =>
    if (MVFa v) = 0 then
      if (MVTk v) = 0 then
        bnd2 (f_X9_endText v) fun r19 w20 =>
        if (MVFa w20) ≤ 0 then
          bnd2 (f_X9_remember w20) fun r23 w24 =>
          f_X9_runScript_h54 FU 0 w24
        else
          some ((-1), w20)
      else
        bnd2 (f_X9_parseStatement v) fun r26 w27 =>
        f_X9_runScript_h14 n w27
    else
      bnd2 (f_X9_endText v) fun r6 w7 =>
      if (MVFa w7) ≤ 0 then
        bnd2 (f_X9_remember w7) fun r10 w11 =>
        f_X9_runScript_h54 FU 0 w11
      else
        some ((-1), w7)
def f_X9_runScript (v : MV) : Option (Int32 × MV) :=
  bnd2 (f_X9_beginText (MV_sSc (MV_sTh v 0) 0)) fun r2 w3 =>
  f_X9_runScript_h14 FU w3
def f_X9_copyTo_3_h2 : Nat → Int32 → MV → Option (Unit × MV)
  | 0, _, _ => none
  | n + 1, l2, v =>
    if 500 ≤ l2 then
      some ((), v)
    else
      if oob l2 500 then none else
      if oob l2 500 then none else
      f_X9_copyTo_3_h2 n (l2 + 1) (MV_sSv v (upd (MVSv v) (Int32.toNatClampNeg l2) ((MVSt v) (Int32.toNatClampNeg l2))))
def f_X9_copyTo_3 (v : MV) : Option (Unit × MV) :=
  f_X9_copyTo_3_h2 FU 0 v
def f_X9_saveState (v : MV) : Option (Int32 × MV) :=
  bnd2 (f_X9_copyTo_3 (MV_sTh v 0)) fun r2 w3 =>
  if oob 2 500 then none else
  some (((MVSt w3) (Int32.toNatClampNeg 2)), (MV_sIs w3 1))
def f_X9_setPaused (v : MV) (a : Int32) (b : Int32) : Option (Int32 × MV) :=
  bnd2 (f_X9_checkQueue v a) fun r2 w3 =>
  if r2 = 0 then
    some (0, w3)
  else
    bnd2 (f_X9_remember w3) fun r6 w7 =>
    bnd2 (f_X9_pause w7 a b) fun r9 w10 =>
    if ¬ (r9 = 0 ∨ r9 = 1) then none else
    some (r9, w10)
def f_X9_size (v : MV) (a : Int32) : Option (Int32 × MV) :=
  bnd2 (f_X9_checkQueue v a) fun r2 w3 =>
  if r2 = 0 then
    some (0, w3)
  else
    (f_X9_sizeOf w3 a).bind fun r6 =>
    some (r6, w3)
def f_X9_speed (v : MV) (a : Int32) : Option (Int32 × MV) :=
  bnd2 (f_X9_checkQueue v a) fun r2 w3 =>
  if r2 = 0 then
    some (0, w3)
  else
    (f_X9_q a).bind fun r6 =>
    if oob (r6 + 7) 500 then none else
    some (((MVSt w3) (Int32.toNatClampNeg (r6 + 7))), w3)
def f_X9_submit_j76 (l1 : Int32) (l2 : Int32) (l3 : Int32) (l4 : Int32) (s0 : Int32) (s1 : Int32) (s2 : Int32) (v : MV) : Option (Int32 × MV) :=
  bnd2 (f_X9_check v s2 s1 s0) fun r12 w13 =>
  if r12 = 0 then
    some (0, w13)
  else
    bnd2 (f_X9_remember w13) fun r16 w17 =>
    bnd2 (f_X9_addJob w17 l1 l2 l3 l4) fun r19 w20 =>
    some (r19, w20)
def f_X9_submit_j53 (l1 : Int32) (l2 : Int32) (l3 : Int32) (l4 : Int32) (l5 : Int32) (s0 : Int32) (v : MV) : Option (Int32 × MV) :=
  if oob 2 500 then none else
  if 40 ≤ ((MVSt v) (Int32.toNatClampNeg 2)) then
    f_X9_submit_j76 l1 l2 l3 l4 0 s0 l5 v
  else
    f_X9_submit_j76 l1 l2 l3 l4 1 s0 l5 v
def f_X9_submit_j52 (l1 : Int32) (l2 : Int32) (l3 : Int32) (l4 : Int32) (l5 : Int32) (v : MV) : Option (Int32 × MV) :=
  f_X9_submit_j53 l1 l2 l3 l4 l5 0 v
def f_X9_submit_j21 (l1 : Int32) (l2 : Int32) (l3 : Int32) (l4 : Int32) (s0 : Int32) (v : MV) : Option (Int32 × MV) :=
  (f_X9_isWithin (Int32.toInt64 l3) 0 99).bind fun r6 =>
  if r6 = 0 then
    f_X9_submit_j52 l1 l2 l3 l4 s0 v
  else
    (f_X9_isWithin (Int32.toInt64 l4) 1 99).bind fun r22 =>
    if r22 = 0 then
      f_X9_submit_j52 l1 l2 l3 l4 s0 v
    else
      f_X9_submit_j53 l1 l2 l3 l4 s0 1 v
def f_X9_submit_j20 (l1 : Int32) (l2 : Int32) (l3 : Int32) (l4 : Int32) (v : MV) : Option (Int32 × MV) :=
  f_X9_submit_j21 l1 l2 l3 l4 0 v
def f_X9_submit (v : MV) (a : Int32) (b : Int32) (c : Int32) (d : Int32) : Option (Int32 × MV) :=
  (f_X9_isQueue v a).bind fun r2 =>
  if r2 = 0 then
    f_X9_submit_j20 a b c d v
  else
    (f_X9_isOwner v b).bind fun r26 =>
    if r26 = 0 then
      f_X9_submit_j20 a b c d v
    else
      f_X9_submit_j21 a b c d 1 v
def f_X9_swaps (v : MV) : Option (Int32 × MV) :=
  bnd2 (f_X9_numberOf v 4) fun r2 w3 =>
  some (r2, w3)
def f_X9_thrown (v : MV) : Option (Int32) :=
  some (MVTh v)
def f_X9_truncateInput (v : MV) (a : Int32) : Option (Int32 × MV) :=
  (f_X9_isWithin (Int32.toInt64 a) 0 (Int32.toInt64 (MVLn v))).bind fun r2 =>
  if r2 = 0 then
    some (0, (MV_sTh v 0))
  else
    some (1, (MV_sLn (MV_sTh v 0) a))
def f_X9_undo_h35 : Nat → Int32 → MV → Option (Int32 × MV)
  | 0, _, _ => none
  | n + 1, l1, v =>
    if 500 ≤ l1 then
      some ((MVPc v), v)
    else
      if oob ((500 * (MVPc v)) + l1) 4000 then none else
      if oob l1 500 then none else
      f_X9_undo_h35 n (l1 + 1) (MV_sSt v (upd (MVSt v) (Int32.toNatClampNeg l1) ((MVPt v) (Int32.toNatClampNeg ((500 * (MVPc v)) + l1)))))
def f_X9_undo (v : MV) : Option (Int32 × MV) :=
  if (MVPc v) ≤ 0 then
    bnd2 (f_X9_check v 0 1 1) fun r3 w4 =>
    if r3 = 0 then
      some (0, w4)
    else
      f_X9_undo_h35 FU 0 (MV_sPc w4 ((MVPc w4) - 1))
  else
    bnd2 (f_X9_check v 1 1 1) fun r10 w11 =>
    if r10 = 0 then
      some (0, w11)
    else
      f_X9_undo_h35 FU 0 (MV_sPc w11 ((MVPc w11) - 1))
def f_X9_waitingPages (v : MV) (a : Int32) : Option (Int32 × MV) :=
  bnd2 (f_X9_checkQueue v a) fun r2 w3 =>
  if r2 = 0 then
    some (0, w3)
  else
    (f_X9_pagesIn w3 a).bind fun r6 =>
    some (r6, w3)
def f_X9_waitingPagesOfOwner (v : MV) (a : Int32) : Option (Int32 × MV) :=
  (f_X9_isOwner v a).bind fun r2 =>
  bnd2 (f_X9_check v r2 1 1) fun r5 w6 =>
  if r5 = 0 then
    some (0, w6)
  else
    (f_X9_pagesOfOwner w6 a 0).bind fun r9 =>
    some (r9, w6)
def f_X9_write (v : MV) (a : Int32) : Option (Unit × MV) :=
  if oob (MVOl v) 240 then none else
  some ((), (MV_sOl (MV_sOu v (upd (MVOu v) (Int32.toNatClampNeg (MVOl v)) (vp_nar .byte (Int8.toInt32 (Int32.toInt8 a))))) ((MVOl v) + 1)))
def f_X9_writeNumber (v : MV) (a : Int32) : Option (Unit × MV) :=
  if a ≤ 9 then
    if (10 : Int32) = 0 then none else
    bnd2 (f_X9_write v (48 + (a - a / 10 * 10))) fun r4 w5 =>
    some ((), w5)
  else
    if (10 : Int32) = 0 then none else
    bnd2 (f_X9_write v (48 + (a / 10))) fun r8 w9 =>
    if (10 : Int32) = 0 then none else
    bnd2 (f_X9_write w9 (48 + (a - a / 10 * 10))) fun r12 w13 =>
    some ((), w13)
def f_X9_writeFrom : Nat → MV → Int32 → Option (Unit × MV)
  | 0, _, _ => none
  | n + 1, v, a =>
    if a = (-1) then
      some ((), v)
    else
      bnd2 (f_X9_writeNumber v a) fun r3 w4 =>
      (f_X9_get w4 a 5).bind fun r6 =>
      if r6 = (-1) then
        some ((), w4)
      else
        bnd2 (f_X9_write w4 40) fun r10 w11 =>
        (f_X9_get w11 a 5).bind fun r13 =>
        bnd2 (f_X9_writeFrom n w11 r13) fun r16 w17 =>
        bnd2 (f_X9_write w17 44) fun r19 w20 =>
        (f_X9_get w20 a 6).bind fun r22 =>
        bnd2 (f_X9_writeFrom n w20 r22) fun r25 w26 =>
        bnd2 (f_X9_write w26 41) fun r28 w29 =>
        some ((), w29)
def f_X9_writeHeap (v : MV) (a : Int32) : Option (Int32 × MV) :=
  bnd2 (f_X9_checkQueue v a) fun r2 w3 =>
  if r2 = 0 then
    some (0, w3)
  else
    (f_X9_rootOf (MV_sOl w3 0) a).bind fun r6 =>
    bnd2 (f_X9_writeFrom 50 (MV_sOl w3 0) r6) fun r9 w10 =>
    some ((MVOl w10), w10)
