/-! ===== 69i: the cases of the law (gen69h.py) ===== -/
set_option maxRecDepth 20000 in
set_option maxHeartbeats 2000000 in
theorem W_24 {κ : KX} {Q : State → Prop} {nm : String} (X : CX κ (z_W_h nm)) (hR : κR κ = room_1) {L : Nat} {xs : Nat → Int32} (SX : SCX κ L xs) (hT : H_th) (H : H_24) {i : Int32} (hi : SI L i) {nc ns : Nat} (hnc : nc + 4 ≤ 601024) (hns : ns + 24 ≤ 7293034) {b : Bool} {jf : Nat → Int32} {hs : Int32} {R : RV} {T : TV} {O : OV} {Y : YV} {S C K : SV} {U D : UV} {v : MV} {A : Nat → Int64} (hA : ALL' hs R O Y S C K U v) (hk : KONT κ Q i nc ns) : AW κ Q 1362 (L0 i) [] (LW b jf hs R T O Y S C K U D v A) nc ns := by
  replace X := CX.swap (z' := z_W_24 nm) X rfl rfl rfl rfl (zo_W_24 nm)
  obtain ⟨i0, i1, i2, i3, i4, i5⟩ := hi
  obtain ⟨rc, x, w, h1, h2, hg, hA9⟩ := A_height hA (xs (i + 1).toNatClampNeg)
  obtain ⟨A', hM, hA0⟩ := s_L_height H (hs, S, U) A (xs (i + 1).toNatClampNeg) rc x _ h1 hg
  obtain ⟨pk, e0, eq, sb, pu⟩ := vw_suo b (jf := jf) (hs := hs) (R := R) (T := T) (O := O) (Y := Y) (S := S) (C := C) (K := K) (U := U) (D := D) (v := v) (A := A)
  refine go_s 1 X (pc2 := 1363) (st2 := [.ref 0]) rfl ?_
  refine r_arg X SX (i := i) (c9 := 1) (pc2 := 1368) rfl rfl i1 ?_
  refine go_s 1 X (pc2 := 1370) (st2 := [.ref 201, .int (xs (i + 1).toNatClampNeg), .ref 0]) rfl ?_
  refine lcS X _ _ [.int (xs (i + 1).toNatClampNeg)] hM pk e0 eq sb (pu hs S U A') rfl k_L_height l_L_239 rfl rfl rfl rfl rfl (fitL hR (by decide) (by decide) (by omega) (by omega)) (Nat.le_of_ble_eq_true rfl) ?_
  refine go_l 2 X (pc2 := 1376) (ls2 := [some (.ref (SB + 201)), some (.ref 0), some (.ref 190), some (.ref 201), some (.int i), some (.int (MVTh w)), none, none, none]) (st2 := [.ref 190]) rfl ?_
  refine r_arg X SX (i := i) (c9 := 1) (pc2 := 1381) rfl rfl i1 ?_
  obtain ⟨pm, em, sm, um⟩ := vw_m b (jf := jf) (hs := hs) (R := R) (T := T) (O := O) (Y := Y) (S := S) (C := C) (K := K) (U := U) (D := D) (v := v) (A := A')
  refine lcV X _ _ (As := [.int (xs (i + 1).toNatClampNeg)]) (H.2.2 v (xs (i + 1).toNatClampNeg) x w h2) pm em sm (um w) rfl k_X9_height l_L_241 rfl rfl rfl rfl rfl rfl rfl rfl rfl (fitL hR (by decide) (by decide) (by omega) (by omega)) (Nat.le_of_ble_eq_true rfl) ?_
  refine go_l 2 X (pc2 := 1388) (ls2 := [some (.ref (SB + 201)), some (.ref 0), some (.ref 190), some (.ref 201), some (.int i), some (.int (MVTh w)), some (.int x), none, none]) (st2 := [.ref 190]) rfl ?_
  obtain ⟨pt, et, sn, ut⟩ := vw_m b (jf := jf) (hs := hs) (R := R) (T := T) (O := O) (Y := Y) (S := S) (C := C) (K := K) (U := U) (D := D) (v := w) (A := A')
  refine lcV X _ _ (As := []) (hT w (MVTh w) rfl) pt et sn (ut w) rfl k_X9_thrown l_L_193 rfl rfl rfl rfl rfl rfl rfl rfl rfl (fitL hR (by decide) (by decide) (by omega) (by omega)) (Nat.le_of_ble_eq_true rfl) ?_
  refine go_s 1 X (pc2 := 1393) (st2 := [.int (MVTh w), .int (MVTh w)]) rfl ?_
  refine r_icmp_eq X 1398 rfl rfl (fun _ => ?_) (fun h => absurd rfl h)
  refine go_s 1 X (pc2 := 1400) (st2 := [.int (MVTh w)]) rfl ?_
  have fin : AW κ Q 1415 [some (.ref (SB + 201)), some (.ref 0), some (.ref 190), some (.ref 201), some (.int i), some (.int (MVTh w)), some (.int x), none, none] [] (LW b jf hs R T O Y S C K U D w A') (nc + 1 + 0 + 0) (ns + 6 + 0 + 0) := go_s 1 X (pc2 := 3130) (st2 := []) rfl (kfin hk hA9 (by omega) (by omega))
  refine r_if_ne X 1415 rfl rfl (fun _ => fin) (fun h0 => ?_)
  refine go_s 2 X (pc2 := 1405) (st2 := [.int 0, .ref 201]) rfl ?_
  refine r_lald X (o := 201) (n := 1) rfl (lw_x b) in01 ?_
  refine AW.eq (st' := [.long (Int32.toInt64 x)]) ?_ rfl rfl (congrArg (fun q => [Value.long q]) (hA0 h0)) rfl
  refine go_s 3 X (pc2 := 1410) (st2 := [.int (lg_cmp (Int32.toInt64 x) (Int32.toInt64 x))]) rfl ?_
  exact r_if_eq X 1415 rfl rfl (fun _ => fin) (fun h => absurd (lg_self _) h)
set_option maxRecDepth 20000 in
set_option maxHeartbeats 2000000 in
theorem W_25 {κ : KX} {Q : State → Prop} {nm : String} (X : CX κ (z_W_h nm)) (hR : κR κ = room_1) {L : Nat} {xs : Nat → Int32} (SX : SCX κ L xs) (hT : H_th) (H : H_25) {i : Int32} (hi : SI L i) {nc ns : Nat} (hnc : nc + 4 ≤ 601024) (hns : ns + 24 ≤ 7293034) {b : Bool} {jf : Nat → Int32} {hs : Int32} {R : RV} {T : TV} {O : OV} {Y : YV} {S C K : SV} {U D : UV} {v : MV} {A : Nat → Int64} (hA : ALL' hs R O Y S C K U v) (hk : KONT κ Q i nc ns) : AW κ Q 1418 (L0 i) [] (LW b jf hs R T O Y S C K U D v A) nc ns := by
  replace X := CX.swap (z' := z_W_25 nm) X rfl rfl rfl rfl (zo_W_25 nm)
  obtain ⟨i0, i1, i2, i3, i4, i5⟩ := hi
  obtain ⟨rc, x, w, h1, h2, hg, hA9⟩ := A_size hA (xs (i + 1).toNatClampNeg)
  obtain ⟨A', hM, hA0⟩ := s_L_size H (hs, S, U) A (xs (i + 1).toNatClampNeg) rc x _ h1 hg
  obtain ⟨pk, e0, eq, sb, pu⟩ := vw_suo b (jf := jf) (hs := hs) (R := R) (T := T) (O := O) (Y := Y) (S := S) (C := C) (K := K) (U := U) (D := D) (v := v) (A := A)
  refine go_s 1 X (pc2 := 1419) (st2 := [.ref 0]) rfl ?_
  refine r_arg X SX (i := i) (c9 := 1) (pc2 := 1424) rfl rfl i1 ?_
  refine go_s 1 X (pc2 := 1426) (st2 := [.ref 201, .int (xs (i + 1).toNatClampNeg), .ref 0]) rfl ?_
  refine lcS X _ _ [.int (xs (i + 1).toNatClampNeg)] hM pk e0 eq sb (pu hs S U A') rfl k_L_size l_L_242 rfl rfl rfl rfl rfl (fitL hR (by decide) (by decide) (by omega) (by omega)) (Nat.le_of_ble_eq_true rfl) ?_
  refine go_l 2 X (pc2 := 1432) (ls2 := [some (.ref (SB + 201)), some (.ref 0), some (.ref 190), some (.ref 201), some (.int i), some (.int (MVTh w)), none, none, none]) (st2 := [.ref 190]) rfl ?_
  refine r_arg X SX (i := i) (c9 := 1) (pc2 := 1437) rfl rfl i1 ?_
  obtain ⟨pm, em, sm, um⟩ := vw_m b (jf := jf) (hs := hs) (R := R) (T := T) (O := O) (Y := Y) (S := S) (C := C) (K := K) (U := U) (D := D) (v := v) (A := A')
  refine lcV X _ _ (As := [.int (xs (i + 1).toNatClampNeg)]) (H.2.2 v (xs (i + 1).toNatClampNeg) x w h2) pm em sm (um w) rfl k_X9_size l_L_244 rfl rfl rfl rfl rfl rfl rfl rfl rfl (fitL hR (by decide) (by decide) (by omega) (by omega)) (Nat.le_of_ble_eq_true rfl) ?_
  refine go_l 2 X (pc2 := 1444) (ls2 := [some (.ref (SB + 201)), some (.ref 0), some (.ref 190), some (.ref 201), some (.int i), some (.int (MVTh w)), some (.int x), none, none]) (st2 := [.ref 190]) rfl ?_
  obtain ⟨pt, et, sn, ut⟩ := vw_m b (jf := jf) (hs := hs) (R := R) (T := T) (O := O) (Y := Y) (S := S) (C := C) (K := K) (U := U) (D := D) (v := w) (A := A')
  refine lcV X _ _ (As := []) (hT w (MVTh w) rfl) pt et sn (ut w) rfl k_X9_thrown l_L_193 rfl rfl rfl rfl rfl rfl rfl rfl rfl (fitL hR (by decide) (by decide) (by omega) (by omega)) (Nat.le_of_ble_eq_true rfl) ?_
  refine go_s 1 X (pc2 := 1449) (st2 := [.int (MVTh w), .int (MVTh w)]) rfl ?_
  refine r_icmp_eq X 1454 rfl rfl (fun _ => ?_) (fun h => absurd rfl h)
  refine go_s 1 X (pc2 := 1456) (st2 := [.int (MVTh w)]) rfl ?_
  have fin : AW κ Q 1471 [some (.ref (SB + 201)), some (.ref 0), some (.ref 190), some (.ref 201), some (.int i), some (.int (MVTh w)), some (.int x), none, none] [] (LW b jf hs R T O Y S C K U D w A') (nc + 1 + 0 + 0) (ns + 6 + 0 + 0) := go_s 1 X (pc2 := 3130) (st2 := []) rfl (kfin hk hA9 (by omega) (by omega))
  refine r_if_ne X 1471 rfl rfl (fun _ => fin) (fun h0 => ?_)
  refine go_s 2 X (pc2 := 1461) (st2 := [.int 0, .ref 201]) rfl ?_
  refine r_lald X (o := 201) (n := 1) rfl (lw_x b) in01 ?_
  refine AW.eq (st' := [.long (Int32.toInt64 x)]) ?_ rfl rfl (congrArg (fun q => [Value.long q]) (hA0 h0)) rfl
  refine go_s 3 X (pc2 := 1466) (st2 := [.int (lg_cmp (Int32.toInt64 x) (Int32.toInt64 x))]) rfl ?_
  exact r_if_eq X 1471 rfl rfl (fun _ => fin) (fun h => absurd (lg_self _) h)
set_option maxRecDepth 20000 in
set_option maxHeartbeats 2000000 in
theorem W_26 {κ : KX} {Q : State → Prop} {nm : String} (X : CX κ (z_W_h nm)) (hR : κR κ = room_1) {L : Nat} {xs : Nat → Int32} (SX : SCX κ L xs) (hT : H_th) (H : H_26) {i : Int32} (hi : SI L i) {nc ns : Nat} (hnc : nc + 4 ≤ 601024) (hns : ns + 24 ≤ 7293034) {b : Bool} {jf : Nat → Int32} {hs : Int32} {R : RV} {T : TV} {O : OV} {Y : YV} {S C K : SV} {U D : UV} {v : MV} {A : Nat → Int64} (hA : ALL' hs R O Y S C K U v) (hk : KONT κ Q i nc ns) : AW κ Q 1474 (L0 i) [] (LW b jf hs R T O Y S C K U D v A) nc ns := by
  replace X := CX.swap (z' := z_W_26 nm) X rfl rfl rfl rfl (zo_W_26 nm)
  obtain ⟨i0, i1, i2, i3, i4, i5⟩ := hi
  obtain ⟨rc, x, w, h1, h2, hg, hA9⟩ := A_jobAt hA (xs (i + 1).toNatClampNeg) (xs (i + 2).toNatClampNeg)
  obtain ⟨A', hM, hA0⟩ := s_L_jobAt H (hs, S, U) A (xs (i + 1).toNatClampNeg) (xs (i + 2).toNatClampNeg) rc x _ h1 hg
  obtain ⟨pk, e0, eq, sb, pu⟩ := vw_suo b (jf := jf) (hs := hs) (R := R) (T := T) (O := O) (Y := Y) (S := S) (C := C) (K := K) (U := U) (D := D) (v := v) (A := A)
  refine go_s 1 X (pc2 := 1475) (st2 := [.ref 0]) rfl ?_
  refine r_arg X SX (i := i) (c9 := 1) (pc2 := 1480) rfl rfl i1 ?_
  refine r_arg X SX (i := i) (c9 := 2) (pc2 := 1486) rfl rfl i2 ?_
  refine go_s 1 X (pc2 := 1488) (st2 := [.ref 201, .int (xs (i + 2).toNatClampNeg), .int (xs (i + 1).toNatClampNeg), .ref 0]) rfl ?_
  refine lcS X _ _ [.int (xs (i + 1).toNatClampNeg), .int (xs (i + 2).toNatClampNeg)] hM pk e0 eq sb (pu hs S U A') rfl k_L_jobAt l_L_245 rfl rfl rfl rfl rfl (fitL hR (by decide) (by decide) (by omega) (by omega)) (Nat.le_of_ble_eq_true rfl) ?_
  refine go_l 2 X (pc2 := 1494) (ls2 := [some (.ref (SB + 201)), some (.ref 0), some (.ref 190), some (.ref 201), some (.int i), some (.int (MVTh w)), none, none, none]) (st2 := [.ref 190]) rfl ?_
  refine r_arg X SX (i := i) (c9 := 1) (pc2 := 1499) rfl rfl i1 ?_
  refine r_arg X SX (i := i) (c9 := 2) (pc2 := 1505) rfl rfl i2 ?_
  obtain ⟨pm, em, sm, um⟩ := vw_m b (jf := jf) (hs := hs) (R := R) (T := T) (O := O) (Y := Y) (S := S) (C := C) (K := K) (U := U) (D := D) (v := v) (A := A')
  refine lcV X _ _ (As := [.int (xs (i + 1).toNatClampNeg), .int (xs (i + 2).toNatClampNeg)]) (H.2.2 v (xs (i + 1).toNatClampNeg) (xs (i + 2).toNatClampNeg) x w h2) pm em sm (um w) rfl k_X9_jobAt l_L_247 rfl rfl rfl rfl rfl rfl rfl rfl rfl (fitL hR (by decide) (by decide) (by omega) (by omega)) (Nat.le_of_ble_eq_true rfl) ?_
  refine go_l 2 X (pc2 := 1512) (ls2 := [some (.ref (SB + 201)), some (.ref 0), some (.ref 190), some (.ref 201), some (.int i), some (.int (MVTh w)), some (.int x), none, none]) (st2 := [.ref 190]) rfl ?_
  obtain ⟨pt, et, sn, ut⟩ := vw_m b (jf := jf) (hs := hs) (R := R) (T := T) (O := O) (Y := Y) (S := S) (C := C) (K := K) (U := U) (D := D) (v := w) (A := A')
  refine lcV X _ _ (As := []) (hT w (MVTh w) rfl) pt et sn (ut w) rfl k_X9_thrown l_L_193 rfl rfl rfl rfl rfl rfl rfl rfl rfl (fitL hR (by decide) (by decide) (by omega) (by omega)) (Nat.le_of_ble_eq_true rfl) ?_
  refine go_s 1 X (pc2 := 1517) (st2 := [.int (MVTh w), .int (MVTh w)]) rfl ?_
  refine r_icmp_eq X 1522 rfl rfl (fun _ => ?_) (fun h => absurd rfl h)
  refine go_s 1 X (pc2 := 1524) (st2 := [.int (MVTh w)]) rfl ?_
  have fin : AW κ Q 1539 [some (.ref (SB + 201)), some (.ref 0), some (.ref 190), some (.ref 201), some (.int i), some (.int (MVTh w)), some (.int x), none, none] [] (LW b jf hs R T O Y S C K U D w A') (nc + 1 + 0 + 0) (ns + 6 + 0 + 0) := go_s 1 X (pc2 := 3130) (st2 := []) rfl (kfin hk hA9 (by omega) (by omega))
  refine r_if_ne X 1539 rfl rfl (fun _ => fin) (fun h0 => ?_)
  refine go_s 2 X (pc2 := 1529) (st2 := [.int 0, .ref 201]) rfl ?_
  refine r_lald X (o := 201) (n := 1) rfl (lw_x b) in01 ?_
  refine AW.eq (st' := [.long (Int32.toInt64 x)]) ?_ rfl rfl (congrArg (fun q => [Value.long q]) (hA0 h0)) rfl
  refine go_s 3 X (pc2 := 1534) (st2 := [.int (lg_cmp (Int32.toInt64 x) (Int32.toInt64 x))]) rfl ?_
  exact r_if_eq X 1539 rfl rfl (fun _ => fin) (fun h => absurd (lg_self _) h)
set_option maxRecDepth 20000 in
set_option maxHeartbeats 2000000 in
theorem W_27 {κ : KX} {Q : State → Prop} {nm : String} (X : CX κ (z_W_h nm)) (hR : κR κ = room_1) {L : Nat} {xs : Nat → Int32} (SX : SCX κ L xs) (hT : H_th) (H : H_27) {i : Int32} (hi : SI L i) {nc ns : Nat} (hnc : nc + 4 ≤ 601024) (hns : ns + 24 ≤ 7293034) {b : Bool} {jf : Nat → Int32} {hs : Int32} {R : RV} {T : TV} {O : OV} {Y : YV} {S C K : SV} {U D : UV} {v : MV} {A : Nat → Int64} (hA : ALL' hs R O Y S C K U v) (hk : KONT κ Q i nc ns) : AW κ Q 1542 (L0 i) [] (LW b jf hs R T O Y S C K U D v A) nc ns := by
  replace X := CX.swap (z' := z_W_27 nm) X rfl rfl rfl rfl (zo_W_27 nm)
  obtain ⟨i0, i1, i2, i3, i4, i5⟩ := hi
  obtain ⟨rc, x, w, h1, h2, hg, hA9⟩ := A_positionOf hA (xs (i + 1).toNatClampNeg)
  obtain ⟨A', hM, hA0⟩ := s_L_positionOf H (hs, S) A (xs (i + 1).toNatClampNeg) rc x _ h1 hg
  obtain ⟨pk, e0, eq, sb, pu⟩ := vw_so b (jf := jf) (hs := hs) (R := R) (T := T) (O := O) (Y := Y) (S := S) (C := C) (K := K) (U := U) (D := D) (v := v) (A := A)
  refine go_s 1 X (pc2 := 1543) (st2 := [.ref 0]) rfl ?_
  refine r_arg X SX (i := i) (c9 := 1) (pc2 := 1548) rfl rfl i1 ?_
  refine go_s 1 X (pc2 := 1550) (st2 := [.ref 201, .int (xs (i + 1).toNatClampNeg), .ref 0]) rfl ?_
  refine lcS X _ _ [.int (xs (i + 1).toNatClampNeg)] hM pk e0 eq sb (pu hs S A') rfl k_L_positionOf l_L_248 rfl rfl rfl rfl rfl (fitL hR (by decide) (by decide) (by omega) (by omega)) (Nat.le_of_ble_eq_true rfl) ?_
  refine go_l 2 X (pc2 := 1556) (ls2 := [some (.ref (SB + 201)), some (.ref 0), some (.ref 190), some (.ref 201), some (.int i), some (.int (MVTh w)), none, none, none]) (st2 := [.ref 190]) rfl ?_
  refine r_arg X SX (i := i) (c9 := 1) (pc2 := 1561) rfl rfl i1 ?_
  obtain ⟨pm, em, sm, um⟩ := vw_m b (jf := jf) (hs := hs) (R := R) (T := T) (O := O) (Y := Y) (S := S) (C := C) (K := K) (U := U) (D := D) (v := v) (A := A')
  refine lcV X _ _ (As := [.int (xs (i + 1).toNatClampNeg)]) (H.2.2.2 v (xs (i + 1).toNatClampNeg) x w h2) pm em sm (um w) rfl k_X9_positionOf l_L_250 rfl rfl rfl rfl rfl rfl rfl rfl rfl (fitL hR (by decide) (by decide) (by omega) (by omega)) (Nat.le_of_ble_eq_true rfl) ?_
  refine go_l 2 X (pc2 := 1568) (ls2 := [some (.ref (SB + 201)), some (.ref 0), some (.ref 190), some (.ref 201), some (.int i), some (.int (MVTh w)), some (.int x), none, none]) (st2 := [.ref 190]) rfl ?_
  obtain ⟨pt, et, sn, ut⟩ := vw_m b (jf := jf) (hs := hs) (R := R) (T := T) (O := O) (Y := Y) (S := S) (C := C) (K := K) (U := U) (D := D) (v := w) (A := A')
  refine lcV X _ _ (As := []) (hT w (MVTh w) rfl) pt et sn (ut w) rfl k_X9_thrown l_L_193 rfl rfl rfl rfl rfl rfl rfl rfl rfl (fitL hR (by decide) (by decide) (by omega) (by omega)) (Nat.le_of_ble_eq_true rfl) ?_
  refine go_s 1 X (pc2 := 1573) (st2 := [.int (MVTh w), .int (MVTh w)]) rfl ?_
  refine r_icmp_eq X 1578 rfl rfl (fun _ => ?_) (fun h => absurd rfl h)
  refine go_s 1 X (pc2 := 1580) (st2 := [.int (MVTh w)]) rfl ?_
  have fin : AW κ Q 1595 [some (.ref (SB + 201)), some (.ref 0), some (.ref 190), some (.ref 201), some (.int i), some (.int (MVTh w)), some (.int x), none, none] [] (LW b jf hs R T O Y S C K U D w A') (nc + 2 + 0 + 0) (ns + 12 + 0 + 0) := go_s 1 X (pc2 := 3130) (st2 := []) rfl (kfin hk hA9 (by omega) (by omega))
  refine r_if_ne X 1595 rfl rfl (fun _ => fin) (fun h0 => ?_)
  refine go_s 2 X (pc2 := 1585) (st2 := [.int 0, .ref 201]) rfl ?_
  refine r_lald X (o := 201) (n := 1) rfl (lw_x b) in01 ?_
  refine AW.eq (st' := [.long (Int32.toInt64 x)]) ?_ rfl rfl (congrArg (fun q => [Value.long q]) (hA0 h0)) rfl
  refine go_s 3 X (pc2 := 1590) (st2 := [.int (lg_cmp (Int32.toInt64 x) (Int32.toInt64 x))]) rfl ?_
  exact r_if_eq X 1595 rfl rfl (fun _ => fin) (fun h => absurd (lg_self _) h)
set_option maxRecDepth 20000 in
set_option maxHeartbeats 2000000 in
theorem W_28 {κ : KX} {Q : State → Prop} {nm : String} (X : CX κ (z_W_h nm)) (hR : κR κ = room_1) {L : Nat} {xs : Nat → Int32} (SX : SCX κ L xs) (hT : H_th) (H : H_28) {i : Int32} (hi : SI L i) {nc ns : Nat} (hnc : nc + 4 ≤ 601024) (hns : ns + 24 ≤ 7293034) {b : Bool} {jf : Nat → Int32} {hs : Int32} {R : RV} {T : TV} {O : OV} {Y : YV} {S C K : SV} {U D : UV} {v : MV} {A : Nat → Int64} (hA : ALL' hs R O Y S C K U v) (hk : KONT κ Q i nc ns) : AW κ Q 1598 (L0 i) [] (LW b jf hs R T O Y S C K U D v A) nc ns := by
  replace X := CX.swap (z' := z_W_28 nm) X rfl rfl rfl rfl (zo_W_28 nm)
  obtain ⟨i0, i1, i2, i3, i4, i5⟩ := hi
  obtain ⟨rc, x, w, h1, h2, hg, hA9⟩ := A_pagesBefore hA (xs (i + 1).toNatClampNeg)
  obtain ⟨A', hM, hA0⟩ := s_L_pagesBefore H (hs, S) A (xs (i + 1).toNatClampNeg) rc x _ h1 hg
  obtain ⟨pk, e0, eq, sb, pu⟩ := vw_so b (jf := jf) (hs := hs) (R := R) (T := T) (O := O) (Y := Y) (S := S) (C := C) (K := K) (U := U) (D := D) (v := v) (A := A)
  refine go_s 1 X (pc2 := 1599) (st2 := [.ref 0]) rfl ?_
  refine r_arg X SX (i := i) (c9 := 1) (pc2 := 1604) rfl rfl i1 ?_
  refine go_s 1 X (pc2 := 1606) (st2 := [.ref 201, .int (xs (i + 1).toNatClampNeg), .ref 0]) rfl ?_
  refine lcS X _ _ [.int (xs (i + 1).toNatClampNeg)] hM pk e0 eq sb (pu hs S A') rfl k_L_pagesBefore l_L_251 rfl rfl rfl rfl rfl (fitL hR (by decide) (by decide) (by omega) (by omega)) (Nat.le_of_ble_eq_true rfl) ?_
  refine go_l 2 X (pc2 := 1612) (ls2 := [some (.ref (SB + 201)), some (.ref 0), some (.ref 190), some (.ref 201), some (.int i), some (.int (MVTh w)), none, none, none]) (st2 := [.ref 190]) rfl ?_
  refine r_arg X SX (i := i) (c9 := 1) (pc2 := 1617) rfl rfl i1 ?_
  obtain ⟨pm, em, sm, um⟩ := vw_m b (jf := jf) (hs := hs) (R := R) (T := T) (O := O) (Y := Y) (S := S) (C := C) (K := K) (U := U) (D := D) (v := v) (A := A')
  refine lcV X _ _ (As := [.int (xs (i + 1).toNatClampNeg)]) (H.2.2.2 v (xs (i + 1).toNatClampNeg) x w h2) pm em sm (um w) rfl k_X9_pagesBefore l_L_253 rfl rfl rfl rfl rfl rfl rfl rfl rfl (fitL hR (by decide) (by decide) (by omega) (by omega)) (Nat.le_of_ble_eq_true rfl) ?_
  refine go_l 2 X (pc2 := 1624) (ls2 := [some (.ref (SB + 201)), some (.ref 0), some (.ref 190), some (.ref 201), some (.int i), some (.int (MVTh w)), some (.int x), none, none]) (st2 := [.ref 190]) rfl ?_
  obtain ⟨pt, et, sn, ut⟩ := vw_m b (jf := jf) (hs := hs) (R := R) (T := T) (O := O) (Y := Y) (S := S) (C := C) (K := K) (U := U) (D := D) (v := w) (A := A')
  refine lcV X _ _ (As := []) (hT w (MVTh w) rfl) pt et sn (ut w) rfl k_X9_thrown l_L_193 rfl rfl rfl rfl rfl rfl rfl rfl rfl (fitL hR (by decide) (by decide) (by omega) (by omega)) (Nat.le_of_ble_eq_true rfl) ?_
  refine go_s 1 X (pc2 := 1629) (st2 := [.int (MVTh w), .int (MVTh w)]) rfl ?_
  refine r_icmp_eq X 1634 rfl rfl (fun _ => ?_) (fun h => absurd rfl h)
  refine go_s 1 X (pc2 := 1636) (st2 := [.int (MVTh w)]) rfl ?_
  have fin : AW κ Q 1651 [some (.ref (SB + 201)), some (.ref 0), some (.ref 190), some (.ref 201), some (.int i), some (.int (MVTh w)), some (.int x), none, none] [] (LW b jf hs R T O Y S C K U D w A') (nc + 2 + 0 + 0) (ns + 12 + 0 + 0) := go_s 1 X (pc2 := 3130) (st2 := []) rfl (kfin hk hA9 (by omega) (by omega))
  refine r_if_ne X 1651 rfl rfl (fun _ => fin) (fun h0 => ?_)
  refine go_s 2 X (pc2 := 1641) (st2 := [.int 0, .ref 201]) rfl ?_
  refine r_lald X (o := 201) (n := 1) rfl (lw_x b) in01 ?_
  refine AW.eq (st' := [.long (Int32.toInt64 x)]) ?_ rfl rfl (congrArg (fun q => [Value.long q]) (hA0 h0)) rfl
  refine go_s 3 X (pc2 := 1646) (st2 := [.int (lg_cmp (Int32.toInt64 x) (Int32.toInt64 x))]) rfl ?_
  exact r_if_eq X 1651 rfl rfl (fun _ => fin) (fun h => absurd (lg_self _) h)
set_option maxRecDepth 20000 in
set_option maxHeartbeats 2000000 in
theorem W_29 {κ : KX} {Q : State → Prop} {nm : String} (X : CX κ (z_W_h nm)) (hR : κR κ = room_1) {L : Nat} {xs : Nat → Int32} (SX : SCX κ L xs) (hT : H_th) (H : H_29) {i : Int32} (hi : SI L i) {nc ns : Nat} (hnc : nc + 4 ≤ 601024) (hns : ns + 24 ≤ 7293034) {b : Bool} {jf : Nat → Int32} {hs : Int32} {R : RV} {T : TV} {O : OV} {Y : YV} {S C K : SV} {U D : UV} {v : MV} {A : Nat → Int64} (hA : ALL' hs R O Y S C K U v) (hk : KONT κ Q i nc ns) : AW κ Q 1654 (L0 i) [] (LW b jf hs R T O Y S C K U D v A) nc ns := by
  replace X := CX.swap (z' := z_W_29 nm) X rfl rfl rfl rfl (zo_W_29 nm)
  obtain ⟨i0, i1, i2, i3, i4, i5⟩ := hi
  obtain ⟨rc, x, w, h1, h2, hg, hA9⟩ := A_minutesUntilPrinted hA (xs (i + 1).toNatClampNeg)
  obtain ⟨A', hM, hA0⟩ := s_L_minutesUntilPrinted H (hs, S, U) A (xs (i + 1).toNatClampNeg) rc x _ h1 hg
  obtain ⟨pk, e0, eq, sb, pu⟩ := vw_suo b (jf := jf) (hs := hs) (R := R) (T := T) (O := O) (Y := Y) (S := S) (C := C) (K := K) (U := U) (D := D) (v := v) (A := A)
  refine go_s 1 X (pc2 := 1655) (st2 := [.ref 0]) rfl ?_
  refine r_arg X SX (i := i) (c9 := 1) (pc2 := 1660) rfl rfl i1 ?_
  refine go_s 1 X (pc2 := 1662) (st2 := [.ref 201, .int (xs (i + 1).toNatClampNeg), .ref 0]) rfl ?_
  refine lcS X _ _ [.int (xs (i + 1).toNatClampNeg)] hM pk e0 eq sb (pu hs S U A') rfl k_L_minutesUntilPrinted l_L_254 rfl rfl rfl rfl rfl (fitL hR (by decide) (by decide) (by omega) (by omega)) (Nat.le_of_ble_eq_true rfl) ?_
  refine go_l 2 X (pc2 := 1668) (ls2 := [some (.ref (SB + 201)), some (.ref 0), some (.ref 190), some (.ref 201), some (.int i), some (.int (MVTh w)), none, none, none]) (st2 := [.ref 190]) rfl ?_
  refine r_arg X SX (i := i) (c9 := 1) (pc2 := 1673) rfl rfl i1 ?_
  obtain ⟨pm, em, sm, um⟩ := vw_m b (jf := jf) (hs := hs) (R := R) (T := T) (O := O) (Y := Y) (S := S) (C := C) (K := K) (U := U) (D := D) (v := v) (A := A')
  refine lcV X _ _ (As := [.int (xs (i + 1).toNatClampNeg)]) (H.2.2.2 v (xs (i + 1).toNatClampNeg) x w h2) pm em sm (um w) rfl k_X9_minutesUntilPrinted l_L_256 rfl rfl rfl rfl rfl rfl rfl rfl rfl (fitL hR (by decide) (by decide) (by omega) (by omega)) (Nat.le_of_ble_eq_true rfl) ?_
  refine go_l 2 X (pc2 := 1680) (ls2 := [some (.ref (SB + 201)), some (.ref 0), some (.ref 190), some (.ref 201), some (.int i), some (.int (MVTh w)), some (.int x), none, none]) (st2 := [.ref 190]) rfl ?_
  obtain ⟨pt, et, sn, ut⟩ := vw_m b (jf := jf) (hs := hs) (R := R) (T := T) (O := O) (Y := Y) (S := S) (C := C) (K := K) (U := U) (D := D) (v := w) (A := A')
  refine lcV X _ _ (As := []) (hT w (MVTh w) rfl) pt et sn (ut w) rfl k_X9_thrown l_L_193 rfl rfl rfl rfl rfl rfl rfl rfl rfl (fitL hR (by decide) (by decide) (by omega) (by omega)) (Nat.le_of_ble_eq_true rfl) ?_
  refine go_s 1 X (pc2 := 1685) (st2 := [.int (MVTh w), .int (MVTh w)]) rfl ?_
  refine r_icmp_eq X 1690 rfl rfl (fun _ => ?_) (fun h => absurd rfl h)
  refine go_s 1 X (pc2 := 1692) (st2 := [.int (MVTh w)]) rfl ?_
  have fin : AW κ Q 1707 [some (.ref (SB + 201)), some (.ref 0), some (.ref 190), some (.ref 201), some (.int i), some (.int (MVTh w)), some (.int x), none, none] [] (LW b jf hs R T O Y S C K U D w A') (nc + 2 + 0 + 0) (ns + 12 + 0 + 0) := go_s 1 X (pc2 := 3130) (st2 := []) rfl (kfin hk hA9 (by omega) (by omega))
  refine r_if_ne X 1707 rfl rfl (fun _ => fin) (fun h0 => ?_)
  refine go_s 2 X (pc2 := 1697) (st2 := [.int 0, .ref 201]) rfl ?_
  refine r_lald X (o := 201) (n := 1) rfl (lw_x b) in01 ?_
  refine AW.eq (st' := [.long (Int32.toInt64 x)]) ?_ rfl rfl (congrArg (fun q => [Value.long q]) (hA0 h0)) rfl
  refine go_s 3 X (pc2 := 1702) (st2 := [.int (lg_cmp (Int32.toInt64 x) (Int32.toInt64 x))]) rfl ?_
  exact r_if_eq X 1707 rfl rfl (fun _ => fin) (fun h => absurd (lg_self _) h)
set_option maxRecDepth 20000 in
set_option maxHeartbeats 2000000 in
theorem W_30 {κ : KX} {Q : State → Prop} {nm : String} (X : CX κ (z_W_h nm)) (hR : κR κ = room_1) {L : Nat} {xs : Nat → Int32} (SX : SCX κ L xs) (hT : H_th) (H : H_30) {i : Int32} (hi : SI L i) {nc ns : Nat} (hnc : nc + 4 ≤ 601024) (hns : ns + 24 ≤ 7293034) {b : Bool} {jf : Nat → Int32} {hs : Int32} {R : RV} {T : TV} {O : OV} {Y : YV} {S C K : SV} {U D : UV} {v : MV} {A : Nat → Int64} (hA : ALL' hs R O Y S C K U v) (hk : KONT κ Q i nc ns) : AW κ Q 1710 (L0 i) [] (LW b jf hs R T O Y S C K U D v A) nc ns := by
  replace X := CX.swap (z' := z_W_30 nm) X rfl rfl rfl rfl (zo_W_30 nm)
  obtain ⟨i0, i1, i2, i3, i4, i5⟩ := hi
  obtain ⟨rc, x, w, h1, h2, hg, hA9⟩ := A_waitingPages hA (xs (i + 1).toNatClampNeg)
  obtain ⟨A', hM, hA0⟩ := s_L_waitingPages H (hs, S, U) A (xs (i + 1).toNatClampNeg) rc x _ h1 hg
  obtain ⟨pk, e0, eq, sb, pu⟩ := vw_suo b (jf := jf) (hs := hs) (R := R) (T := T) (O := O) (Y := Y) (S := S) (C := C) (K := K) (U := U) (D := D) (v := v) (A := A)
  refine go_s 1 X (pc2 := 1711) (st2 := [.ref 0]) rfl ?_
  refine r_arg X SX (i := i) (c9 := 1) (pc2 := 1716) rfl rfl i1 ?_
  refine go_s 1 X (pc2 := 1718) (st2 := [.ref 201, .int (xs (i + 1).toNatClampNeg), .ref 0]) rfl ?_
  refine lcS X _ _ [.int (xs (i + 1).toNatClampNeg)] hM pk e0 eq sb (pu hs S U A') rfl k_L_waitingPages l_L_257 rfl rfl rfl rfl rfl (fitL hR (by decide) (by decide) (by omega) (by omega)) (Nat.le_of_ble_eq_true rfl) ?_
  refine go_l 2 X (pc2 := 1724) (ls2 := [some (.ref (SB + 201)), some (.ref 0), some (.ref 190), some (.ref 201), some (.int i), some (.int (MVTh w)), none, none, none]) (st2 := [.ref 190]) rfl ?_
  refine r_arg X SX (i := i) (c9 := 1) (pc2 := 1729) rfl rfl i1 ?_
  obtain ⟨pm, em, sm, um⟩ := vw_m b (jf := jf) (hs := hs) (R := R) (T := T) (O := O) (Y := Y) (S := S) (C := C) (K := K) (U := U) (D := D) (v := v) (A := A')
  refine lcV X _ _ (As := [.int (xs (i + 1).toNatClampNeg)]) (H.2.2 v (xs (i + 1).toNatClampNeg) x w h2) pm em sm (um w) rfl k_X9_waitingPages l_L_259 rfl rfl rfl rfl rfl rfl rfl rfl rfl (fitL hR (by decide) (by decide) (by omega) (by omega)) (Nat.le_of_ble_eq_true rfl) ?_
  refine go_l 2 X (pc2 := 1736) (ls2 := [some (.ref (SB + 201)), some (.ref 0), some (.ref 190), some (.ref 201), some (.int i), some (.int (MVTh w)), some (.int x), none, none]) (st2 := [.ref 190]) rfl ?_
  obtain ⟨pt, et, sn, ut⟩ := vw_m b (jf := jf) (hs := hs) (R := R) (T := T) (O := O) (Y := Y) (S := S) (C := C) (K := K) (U := U) (D := D) (v := w) (A := A')
  refine lcV X _ _ (As := []) (hT w (MVTh w) rfl) pt et sn (ut w) rfl k_X9_thrown l_L_193 rfl rfl rfl rfl rfl rfl rfl rfl rfl (fitL hR (by decide) (by decide) (by omega) (by omega)) (Nat.le_of_ble_eq_true rfl) ?_
  refine go_s 1 X (pc2 := 1741) (st2 := [.int (MVTh w), .int (MVTh w)]) rfl ?_
  refine r_icmp_eq X 1746 rfl rfl (fun _ => ?_) (fun h => absurd rfl h)
  refine go_s 1 X (pc2 := 1748) (st2 := [.int (MVTh w)]) rfl ?_
  have fin : AW κ Q 1763 [some (.ref (SB + 201)), some (.ref 0), some (.ref 190), some (.ref 201), some (.int i), some (.int (MVTh w)), some (.int x), none, none] [] (LW b jf hs R T O Y S C K U D w A') (nc + 1 + 0 + 0) (ns + 6 + 0 + 0) := go_s 1 X (pc2 := 3130) (st2 := []) rfl (kfin hk hA9 (by omega) (by omega))
  refine r_if_ne X 1763 rfl rfl (fun _ => fin) (fun h0 => ?_)
  refine go_s 2 X (pc2 := 1753) (st2 := [.int 0, .ref 201]) rfl ?_
  refine r_lald X (o := 201) (n := 1) rfl (lw_x b) in01 ?_
  refine AW.eq (st' := [.long (Int32.toInt64 x)]) ?_ rfl rfl (congrArg (fun q => [Value.long q]) (hA0 h0)) rfl
  refine go_s 3 X (pc2 := 1758) (st2 := [.int (lg_cmp (Int32.toInt64 x) (Int32.toInt64 x))]) rfl ?_
  exact r_if_eq X 1763 rfl rfl (fun _ => fin) (fun h => absurd (lg_self _) h)
set_option maxRecDepth 20000 in
set_option maxHeartbeats 2000000 in
theorem W_31 {κ : KX} {Q : State → Prop} {nm : String} (X : CX κ (z_W_h nm)) (hR : κR κ = room_1) {L : Nat} {xs : Nat → Int32} (SX : SCX κ L xs) (hT : H_th) (H : H_31) {i : Int32} (hi : SI L i) {nc ns : Nat} (hnc : nc + 4 ≤ 601024) (hns : ns + 24 ≤ 7293034) {b : Bool} {jf : Nat → Int32} {hs : Int32} {R : RV} {T : TV} {O : OV} {Y : YV} {S C K : SV} {U D : UV} {v : MV} {A : Nat → Int64} (hA : ALL' hs R O Y S C K U v) (hk : KONT κ Q i nc ns) : AW κ Q 1766 (L0 i) [] (LW b jf hs R T O Y S C K U D v A) nc ns := by
  replace X := CX.swap (z' := z_W_31 nm) X rfl rfl rfl rfl (zo_W_31 nm)
  obtain ⟨i0, i1, i2, i3, i4, i5⟩ := hi
  obtain ⟨rc, x, w, h1, h2, hg, hA9⟩ := A_printedPages hA (xs (i + 1).toNatClampNeg)
  obtain ⟨A', hM, hA0⟩ := s_L_printedPages H (hs, S, U) A (xs (i + 1).toNatClampNeg) rc x _ h1 hg
  obtain ⟨pk, e0, eq, sb, pu⟩ := vw_suo b (jf := jf) (hs := hs) (R := R) (T := T) (O := O) (Y := Y) (S := S) (C := C) (K := K) (U := U) (D := D) (v := v) (A := A)
  refine go_s 1 X (pc2 := 1767) (st2 := [.ref 0]) rfl ?_
  refine r_arg X SX (i := i) (c9 := 1) (pc2 := 1772) rfl rfl i1 ?_
  refine go_s 1 X (pc2 := 1774) (st2 := [.ref 201, .int (xs (i + 1).toNatClampNeg), .ref 0]) rfl ?_
  refine lcS X _ _ [.int (xs (i + 1).toNatClampNeg)] hM pk e0 eq sb (pu hs S U A') rfl k_L_printedPages l_L_260 rfl rfl rfl rfl rfl (fitL hR (by decide) (by decide) (by omega) (by omega)) (Nat.le_of_ble_eq_true rfl) ?_
  refine go_l 2 X (pc2 := 1780) (ls2 := [some (.ref (SB + 201)), some (.ref 0), some (.ref 190), some (.ref 201), some (.int i), some (.int (MVTh w)), none, none, none]) (st2 := [.ref 190]) rfl ?_
  refine r_arg X SX (i := i) (c9 := 1) (pc2 := 1785) rfl rfl i1 ?_
  obtain ⟨pm, em, sm, um⟩ := vw_m b (jf := jf) (hs := hs) (R := R) (T := T) (O := O) (Y := Y) (S := S) (C := C) (K := K) (U := U) (D := D) (v := v) (A := A')
  refine lcV X _ _ (As := [.int (xs (i + 1).toNatClampNeg)]) (H.2.2 v (xs (i + 1).toNatClampNeg) x w h2) pm em sm (um w) rfl k_X9_printedPages l_L_262 rfl rfl rfl rfl rfl rfl rfl rfl rfl (fitL hR (by decide) (by decide) (by omega) (by omega)) (Nat.le_of_ble_eq_true rfl) ?_
  refine go_l 2 X (pc2 := 1792) (ls2 := [some (.ref (SB + 201)), some (.ref 0), some (.ref 190), some (.ref 201), some (.int i), some (.int (MVTh w)), some (.int x), none, none]) (st2 := [.ref 190]) rfl ?_
  obtain ⟨pt, et, sn, ut⟩ := vw_m b (jf := jf) (hs := hs) (R := R) (T := T) (O := O) (Y := Y) (S := S) (C := C) (K := K) (U := U) (D := D) (v := w) (A := A')
  refine lcV X _ _ (As := []) (hT w (MVTh w) rfl) pt et sn (ut w) rfl k_X9_thrown l_L_193 rfl rfl rfl rfl rfl rfl rfl rfl rfl (fitL hR (by decide) (by decide) (by omega) (by omega)) (Nat.le_of_ble_eq_true rfl) ?_
  refine go_s 1 X (pc2 := 1797) (st2 := [.int (MVTh w), .int (MVTh w)]) rfl ?_
  refine r_icmp_eq X 1802 rfl rfl (fun _ => ?_) (fun h => absurd rfl h)
  refine go_s 1 X (pc2 := 1804) (st2 := [.int (MVTh w)]) rfl ?_
  have fin : AW κ Q 1819 [some (.ref (SB + 201)), some (.ref 0), some (.ref 190), some (.ref 201), some (.int i), some (.int (MVTh w)), some (.int x), none, none] [] (LW b jf hs R T O Y S C K U D w A') (nc + 1 + 0 + 0) (ns + 6 + 0 + 0) := go_s 1 X (pc2 := 3130) (st2 := []) rfl (kfin hk hA9 (by omega) (by omega))
  refine r_if_ne X 1819 rfl rfl (fun _ => fin) (fun h0 => ?_)
  refine go_s 2 X (pc2 := 1809) (st2 := [.int 0, .ref 201]) rfl ?_
  refine r_lald X (o := 201) (n := 1) rfl (lw_x b) in01 ?_
  refine AW.eq (st' := [.long (Int32.toInt64 x)]) ?_ rfl rfl (congrArg (fun q => [Value.long q]) (hA0 h0)) rfl
  refine go_s 3 X (pc2 := 1814) (st2 := [.int (lg_cmp (Int32.toInt64 x) (Int32.toInt64 x))]) rfl ?_
  exact r_if_eq X 1819 rfl rfl (fun _ => fin) (fun h => absurd (lg_self _) h)
set_option maxRecDepth 20000 in
set_option maxHeartbeats 2000000 in
theorem W_32 {κ : KX} {Q : State → Prop} {nm : String} (X : CX κ (z_W_h nm)) (hR : κR κ = room_1) {L : Nat} {xs : Nat → Int32} (SX : SCX κ L xs) (hT : H_th) (H : H_32) {i : Int32} (hi : SI L i) {nc ns : Nat} (hnc : nc + 4 ≤ 601024) (hns : ns + 24 ≤ 7293034) {b : Bool} {jf : Nat → Int32} {hs : Int32} {R : RV} {T : TV} {O : OV} {Y : YV} {S C K : SV} {U D : UV} {v : MV} {A : Nat → Int64} (hA : ALL' hs R O Y S C K U v) (hk : KONT κ Q i nc ns) : AW κ Q 1822 (L0 i) [] (LW b jf hs R T O Y S C K U D v A) nc ns := by
  replace X := CX.swap (z' := z_W_32 nm) X rfl rfl rfl rfl (zo_W_32 nm)
  obtain ⟨i0, i1, i2, i3, i4, i5⟩ := hi
  obtain ⟨rc, x, w, h1, h2, hg, hA9⟩ := A_speed hA (xs (i + 1).toNatClampNeg)
  obtain ⟨A', hM, hA0⟩ := s_L_speed H (hs, U) A (xs (i + 1).toNatClampNeg) rc x _ h1 hg
  obtain ⟨pk, e0, eq, sb, pu⟩ := vw_uo b (jf := jf) (hs := hs) (R := R) (T := T) (O := O) (Y := Y) (S := S) (C := C) (K := K) (U := U) (D := D) (v := v) (A := A)
  refine go_s 1 X (pc2 := 1823) (st2 := [.ref 0]) rfl ?_
  refine r_arg X SX (i := i) (c9 := 1) (pc2 := 1828) rfl rfl i1 ?_
  refine go_s 1 X (pc2 := 1830) (st2 := [.ref 201, .int (xs (i + 1).toNatClampNeg), .ref 0]) rfl ?_
  refine lcS X _ _ [.int (xs (i + 1).toNatClampNeg)] hM pk e0 eq sb (pu hs U A') rfl k_L_speed l_L_263 rfl rfl rfl rfl rfl (fitL hR (by decide) (by decide) (by omega) (by omega)) (Nat.le_of_ble_eq_true rfl) ?_
  refine go_l 2 X (pc2 := 1836) (ls2 := [some (.ref (SB + 201)), some (.ref 0), some (.ref 190), some (.ref 201), some (.int i), some (.int (MVTh w)), none, none, none]) (st2 := [.ref 190]) rfl ?_
  refine r_arg X SX (i := i) (c9 := 1) (pc2 := 1841) rfl rfl i1 ?_
  obtain ⟨pm, em, sm, um⟩ := vw_m b (jf := jf) (hs := hs) (R := R) (T := T) (O := O) (Y := Y) (S := S) (C := C) (K := K) (U := U) (D := D) (v := v) (A := A')
  refine lcV X _ _ (As := [.int (xs (i + 1).toNatClampNeg)]) (H.2.2 v (xs (i + 1).toNatClampNeg) x w h2) pm em sm (um w) rfl k_X9_speed l_L_265 rfl rfl rfl rfl rfl rfl rfl rfl rfl (fitL hR (by decide) (by decide) (by omega) (by omega)) (Nat.le_of_ble_eq_true rfl) ?_
  refine go_l 2 X (pc2 := 1848) (ls2 := [some (.ref (SB + 201)), some (.ref 0), some (.ref 190), some (.ref 201), some (.int i), some (.int (MVTh w)), some (.int x), none, none]) (st2 := [.ref 190]) rfl ?_
  obtain ⟨pt, et, sn, ut⟩ := vw_m b (jf := jf) (hs := hs) (R := R) (T := T) (O := O) (Y := Y) (S := S) (C := C) (K := K) (U := U) (D := D) (v := w) (A := A')
  refine lcV X _ _ (As := []) (hT w (MVTh w) rfl) pt et sn (ut w) rfl k_X9_thrown l_L_193 rfl rfl rfl rfl rfl rfl rfl rfl rfl (fitL hR (by decide) (by decide) (by omega) (by omega)) (Nat.le_of_ble_eq_true rfl) ?_
  refine go_s 1 X (pc2 := 1853) (st2 := [.int (MVTh w), .int (MVTh w)]) rfl ?_
  refine r_icmp_eq X 1858 rfl rfl (fun _ => ?_) (fun h => absurd rfl h)
  refine go_s 1 X (pc2 := 1860) (st2 := [.int (MVTh w)]) rfl ?_
  have fin : AW κ Q 1875 [some (.ref (SB + 201)), some (.ref 0), some (.ref 190), some (.ref 201), some (.int i), some (.int (MVTh w)), some (.int x), none, none] [] (LW b jf hs R T O Y S C K U D w A') (nc + 1 + 0 + 0) (ns + 6 + 0 + 0) := go_s 1 X (pc2 := 3130) (st2 := []) rfl (kfin hk hA9 (by omega) (by omega))
  refine r_if_ne X 1875 rfl rfl (fun _ => fin) (fun h0 => ?_)
  refine go_s 2 X (pc2 := 1865) (st2 := [.int 0, .ref 201]) rfl ?_
  refine r_lald X (o := 201) (n := 1) rfl (lw_x b) in01 ?_
  refine AW.eq (st' := [.long (Int32.toInt64 x)]) ?_ rfl rfl (congrArg (fun q => [Value.long q]) (hA0 h0)) rfl
  refine go_s 3 X (pc2 := 1870) (st2 := [.int (lg_cmp (Int32.toInt64 x) (Int32.toInt64 x))]) rfl ?_
  exact r_if_eq X 1875 rfl rfl (fun _ => fin) (fun h => absurd (lg_self _) h)
set_option maxRecDepth 20000 in
set_option maxHeartbeats 2000000 in
theorem W_33 {κ : KX} {Q : State → Prop} {nm : String} (X : CX κ (z_W_h nm)) (hR : κR κ = room_1) {L : Nat} {xs : Nat → Int32} (SX : SCX κ L xs) (hT : H_th) (H : H_33) {i : Int32} (hi : SI L i) {nc ns : Nat} (hnc : nc + 4 ≤ 601024) (hns : ns + 24 ≤ 7293034) {b : Bool} {jf : Nat → Int32} {hs : Int32} {R : RV} {T : TV} {O : OV} {Y : YV} {S C K : SV} {U D : UV} {v : MV} {A : Nat → Int64} (hA : ALL' hs R O Y S C K U v) (hk : KONT κ Q i nc ns) : AW κ Q 1878 (L0 i) [] (LW b jf hs R T O Y S C K U D v A) nc ns := by
  replace X := CX.swap (z' := z_W_33 nm) X rfl rfl rfl rfl (zo_W_33 nm)
  obtain ⟨i0, i1, i2, i3, i4, i5⟩ := hi
  obtain ⟨rc, x, w, h1, h2, hg, hA9⟩ := A_isPaused hA (xs (i + 1).toNatClampNeg)
  obtain ⟨A', hM, hA0⟩ := s_L_isPaused H (hs, S, U) A (xs (i + 1).toNatClampNeg) rc x _ h1 hg
  obtain ⟨pk, e0, eq, sb, pu⟩ := vw_suo b (jf := jf) (hs := hs) (R := R) (T := T) (O := O) (Y := Y) (S := S) (C := C) (K := K) (U := U) (D := D) (v := v) (A := A)
  refine go_s 1 X (pc2 := 1879) (st2 := [.ref 0]) rfl ?_
  refine r_arg X SX (i := i) (c9 := 1) (pc2 := 1884) rfl rfl i1 ?_
  refine go_s 1 X (pc2 := 1886) (st2 := [.ref 201, .int (xs (i + 1).toNatClampNeg), .ref 0]) rfl ?_
  refine lcS X _ _ [.int (xs (i + 1).toNatClampNeg)] hM pk e0 eq sb (pu hs S U A') rfl k_L_isPaused l_L_266 rfl rfl rfl rfl rfl (fitL hR (by decide) (by decide) (by omega) (by omega)) (Nat.le_of_ble_eq_true rfl) ?_
  refine go_l 2 X (pc2 := 1892) (ls2 := [some (.ref (SB + 201)), some (.ref 0), some (.ref 190), some (.ref 201), some (.int i), some (.int (MVTh w)), none, none, none]) (st2 := [.ref 190]) rfl ?_
  refine r_arg X SX (i := i) (c9 := 1) (pc2 := 1897) rfl rfl i1 ?_
  obtain ⟨pm, em, sm, um⟩ := vw_m b (jf := jf) (hs := hs) (R := R) (T := T) (O := O) (Y := Y) (S := S) (C := C) (K := K) (U := U) (D := D) (v := v) (A := A')
  refine lcV X _ _ (As := [.int (xs (i + 1).toNatClampNeg)]) (H.2.2 v (xs (i + 1).toNatClampNeg) x w h2) pm em sm (um w) rfl k_X9_isPaused l_L_268 rfl rfl rfl rfl rfl rfl rfl rfl rfl (fitL hR (by decide) (by decide) (by omega) (by omega)) (Nat.le_of_ble_eq_true rfl) ?_
  refine go_l 2 X (pc2 := 1904) (ls2 := [some (.ref (SB + 201)), some (.ref 0), some (.ref 190), some (.ref 201), some (.int i), some (.int (MVTh w)), some (.int x), none, none]) (st2 := [.ref 190]) rfl ?_
  obtain ⟨pt, et, sn, ut⟩ := vw_m b (jf := jf) (hs := hs) (R := R) (T := T) (O := O) (Y := Y) (S := S) (C := C) (K := K) (U := U) (D := D) (v := w) (A := A')
  refine lcV X _ _ (As := []) (hT w (MVTh w) rfl) pt et sn (ut w) rfl k_X9_thrown l_L_193 rfl rfl rfl rfl rfl rfl rfl rfl rfl (fitL hR (by decide) (by decide) (by omega) (by omega)) (Nat.le_of_ble_eq_true rfl) ?_
  refine go_s 1 X (pc2 := 1909) (st2 := [.int (MVTh w), .int (MVTh w)]) rfl ?_
  refine r_icmp_eq X 1914 rfl rfl (fun _ => ?_) (fun h => absurd rfl h)
  refine go_s 1 X (pc2 := 1916) (st2 := [.int (MVTh w)]) rfl ?_
  have fin : AW κ Q 1938 [some (.ref (SB + 201)), some (.ref 0), some (.ref 190), some (.ref 201), some (.int i), some (.int (MVTh w)), some (.int x), none, none] [] (LW b jf hs R T O Y S C K U D w A') (nc + 1 + 0 + 0) (ns + 6 + 0 + 0) := go_s 1 X (pc2 := 3130) (st2 := []) rfl (kfin hk hA9 (by omega) (by omega))
  refine r_if_ne X 1938 rfl rfl (fun _ => fin) (fun h0 => ?_)
  refine go_s 2 X (pc2 := 1921) (st2 := [.int 0, .ref 201]) rfl ?_
  refine r_lald X (o := 201) (n := 1) rfl (lw_x b) in01 ?_
  refine AW.eq (st' := [.long (if x = 0 then 0 else 1)]) ?_ rfl rfl (congrArg (fun q => [Value.long q]) (hA0 h0)) rfl
  refine go_s 1 X (pc2 := 1924) (st2 := [.int x, .long (if x = 0 then 0 else 1)]) rfl ?_
  refine r_if_eq X 1931 rfl rfl (fun hx => ?_) (fun hx => ?_)
  · refine AW.eq (st' := [.long 0]) ?_ rfl rfl (by rw [if_pos hx]) rfl
    refine go_s 2 X (pc2 := 1933) (st2 := [.int (lg_cmp 0 0)]) rfl ?_
    exact r_if_eq X 1938 rfl rfl (fun _ => fin) (fun h => absurd (lg_self _) h)
  · refine AW.eq (st' := [.long 1]) ?_ rfl rfl (by rw [if_neg hx]) rfl
    refine go_s 3 X (pc2 := 1933) (st2 := [.int (lg_cmp 1 1)]) rfl ?_
    exact r_if_eq X 1938 rfl rfl (fun _ => fin) (fun h => absurd (lg_self _) h)
set_option maxRecDepth 20000 in
set_option maxHeartbeats 2000000 in
theorem W_34 {κ : KX} {Q : State → Prop} {nm : String} (X : CX κ (z_W_h nm)) (hR : κR κ = room_1) {L : Nat} {xs : Nat → Int32} (SX : SCX κ L xs) (hT : H_th) (H : H_34) {i : Int32} (hi : SI L i) {nc ns : Nat} (hnc : nc + 4 ≤ 601024) (hns : ns + 24 ≤ 7293034) {b : Bool} {jf : Nat → Int32} {hs : Int32} {R : RV} {T : TV} {O : OV} {Y : YV} {S C K : SV} {U D : UV} {v : MV} {A : Nat → Int64} (hA : ALL' hs R O Y S C K U v) (hk : KONT κ Q i nc ns) : AW κ Q 1941 (L0 i) [] (LW b jf hs R T O Y S C K U D v A) nc ns := by
  replace X := CX.swap (z' := z_W_34 nm) X rfl rfl rfl rfl (zo_W_34 nm)
  obtain ⟨i0, i1, i2, i3, i4, i5⟩ := hi
  obtain ⟨x, w, h1, h2, hA9⟩ := A_leastLoadedQueue hA
  obtain ⟨pk, e0, sb, pu⟩ := vw_su b (jf := jf) (hs := hs) (R := R) (T := T) (O := O) (Y := Y) (S := S) (C := C) (K := K) (U := U) (D := D) (v := v) (A := A)
  refine go_s 1 X (pc2 := 1942) (st2 := [.ref 0]) rfl ?_
  refine lcV X _ _ (As := []) (H.1 (hs, S, U)  x h1) pk e0 sb (pu hs S U) rfl k_X8_leastLoadedQueue l_L_269 rfl rfl rfl rfl rfl rfl rfl rfl rfl (fitL hR (by decide) (by decide) (by omega) (by omega)) (Nat.le_of_ble_eq_true rfl) ?_
  refine go_s 1 X (pc2 := 1946) (st2 := [.ref 190, .int x]) rfl ?_
  obtain ⟨pm, em, sm, um⟩ := vw_m b (jf := jf) (hs := hs) (R := R) (T := T) (O := O) (Y := Y) (S := S) (C := C) (K := K) (U := U) (D := D) (v := v) (A := A)
  refine lcV X _ _ (As := []) (H.2 v  x w h2) pm em sm (um w) rfl k_X9_leastLoadedQueue l_L_272 rfl rfl rfl rfl rfl rfl rfl rfl rfl (fitL hR (by decide) (by decide) (by omega) (by omega)) (Nat.le_of_ble_eq_true rfl) ?_
  exact r_icmp_eq X 3130 rfl rfl (fun _ => kfin hk hA9 (by omega) (by omega)) (fun h => absurd rfl h)
set_option maxRecDepth 20000 in
set_option maxHeartbeats 2000000 in
theorem W_35 {κ : KX} {Q : State → Prop} {nm : String} (X : CX κ (z_W_h nm)) (hR : κR κ = room_1) {L : Nat} {xs : Nat → Int32} (SX : SCX κ L xs) (hT : H_th) (H : H_35) {i : Int32} (hi : SI L i) {nc ns : Nat} (hnc : nc + 4 ≤ 601024) (hns : ns + 24 ≤ 7293034) {b : Bool} {jf : Nat → Int32} {hs : Int32} {R : RV} {T : TV} {O : OV} {Y : YV} {S C K : SV} {U D : UV} {v : MV} {A : Nat → Int64} (hA : ALL' hs R O Y S C K U v) (hk : KONT κ Q i nc ns) : AW κ Q 1954 (L0 i) [] (LW b jf hs R T O Y S C K U D v A) nc ns := by
  replace X := CX.swap (z' := z_W_35 nm) X rfl rfl rfl rfl (zo_W_35 nm)
  obtain ⟨i0, i1, i2, i3, i4, i5⟩ := hi
  obtain ⟨rc, x, w, h1, h2, hg, hA9⟩ := A_waitingPagesOfOwner hA (xs (i + 1).toNatClampNeg)
  obtain ⟨A', hM, hA0⟩ := s_L_waitingPagesOfOwner H (hs, S, U) A (xs (i + 1).toNatClampNeg) rc x _ h1 hg
  obtain ⟨pk, e0, eq, sb, pu⟩ := vw_suo b (jf := jf) (hs := hs) (R := R) (T := T) (O := O) (Y := Y) (S := S) (C := C) (K := K) (U := U) (D := D) (v := v) (A := A)
  refine go_s 1 X (pc2 := 1955) (st2 := [.ref 0]) rfl ?_
  refine r_arg X SX (i := i) (c9 := 1) (pc2 := 1960) rfl rfl i1 ?_
  refine go_s 1 X (pc2 := 1962) (st2 := [.ref 201, .int (xs (i + 1).toNatClampNeg), .ref 0]) rfl ?_
  refine lcS X _ _ [.int (xs (i + 1).toNatClampNeg)] hM pk e0 eq sb (pu hs S U A') rfl k_L_waitingPagesOfOwner l_L_273 rfl rfl rfl rfl rfl (fitL hR (by decide) (by decide) (by omega) (by omega)) (Nat.le_of_ble_eq_true rfl) ?_
  refine go_l 2 X (pc2 := 1968) (ls2 := [some (.ref (SB + 201)), some (.ref 0), some (.ref 190), some (.ref 201), some (.int i), some (.int (MVTh w)), none, none, none]) (st2 := [.ref 190]) rfl ?_
  refine r_arg X SX (i := i) (c9 := 1) (pc2 := 1973) rfl rfl i1 ?_
  obtain ⟨pm, em, sm, um⟩ := vw_m b (jf := jf) (hs := hs) (R := R) (T := T) (O := O) (Y := Y) (S := S) (C := C) (K := K) (U := U) (D := D) (v := v) (A := A')
  refine lcV X _ _ (As := [.int (xs (i + 1).toNatClampNeg)]) (H.2.2 v (xs (i + 1).toNatClampNeg) x w h2) pm em sm (um w) rfl k_X9_waitingPagesOfOwner l_L_275 rfl rfl rfl rfl rfl rfl rfl rfl rfl (fitL hR (by decide) (by decide) (by omega) (by omega)) (Nat.le_of_ble_eq_true rfl) ?_
  refine go_l 2 X (pc2 := 1980) (ls2 := [some (.ref (SB + 201)), some (.ref 0), some (.ref 190), some (.ref 201), some (.int i), some (.int (MVTh w)), some (.int x), none, none]) (st2 := [.ref 190]) rfl ?_
  obtain ⟨pt, et, sn, ut⟩ := vw_m b (jf := jf) (hs := hs) (R := R) (T := T) (O := O) (Y := Y) (S := S) (C := C) (K := K) (U := U) (D := D) (v := w) (A := A')
  refine lcV X _ _ (As := []) (hT w (MVTh w) rfl) pt et sn (ut w) rfl k_X9_thrown l_L_193 rfl rfl rfl rfl rfl rfl rfl rfl rfl (fitL hR (by decide) (by decide) (by omega) (by omega)) (Nat.le_of_ble_eq_true rfl) ?_
  refine go_s 1 X (pc2 := 1985) (st2 := [.int (MVTh w), .int (MVTh w)]) rfl ?_
  refine r_icmp_eq X 1990 rfl rfl (fun _ => ?_) (fun h => absurd rfl h)
  refine go_s 1 X (pc2 := 1992) (st2 := [.int (MVTh w)]) rfl ?_
  have fin : AW κ Q 2007 [some (.ref (SB + 201)), some (.ref 0), some (.ref 190), some (.ref 201), some (.int i), some (.int (MVTh w)), some (.int x), none, none] [] (LW b jf hs R T O Y S C K U D w A') (nc + 1 + 0 + 0) (ns + 6 + 0 + 0) := go_s 1 X (pc2 := 3130) (st2 := []) rfl (kfin hk hA9 (by omega) (by omega))
  refine r_if_ne X 2007 rfl rfl (fun _ => fin) (fun h0 => ?_)
  refine go_s 2 X (pc2 := 1997) (st2 := [.int 0, .ref 201]) rfl ?_
  refine r_lald X (o := 201) (n := 1) rfl (lw_x b) in01 ?_
  refine AW.eq (st' := [.long (Int32.toInt64 x)]) ?_ rfl rfl (congrArg (fun q => [Value.long q]) (hA0 h0)) rfl
  refine go_s 3 X (pc2 := 2002) (st2 := [.int (lg_cmp (Int32.toInt64 x) (Int32.toInt64 x))]) rfl ?_
  exact r_if_eq X 2007 rfl rfl (fun _ => fin) (fun h => absurd (lg_self _) h)
