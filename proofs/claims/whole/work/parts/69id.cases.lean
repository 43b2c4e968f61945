/-! ===== 69i: the cases of the law (gen69h.py) ===== -/
set_option maxRecDepth 20000 in
set_option maxHeartbeats 2000000 in
theorem W_36 {κ : KX} {Q : State → Prop} {nm : String} (X : CX κ (z_W_h nm)) (hR : κR κ = room_1) {L : Nat} {xs : Nat → Int32} (SX : SCX κ L xs) (hT : H_th) (H : H_36) {i : Int32} (hi : SI L i) {nc ns : Nat} (hnc : nc + 4 ≤ 601024) (hns : ns + 24 ≤ 7293034) {b : Bool} {jf : Nat → Int32} {hs : Int32} {R : RV} {T : TV} {O : OV} {Y : YV} {S C K : SV} {U D : UV} {v : MV} {A : Nat → Int64} (hA : ALL' hs R O Y S C K U v) (hk : KONT κ Q i nc ns) : AW κ Q 2010 (L0 i) [] (LW b jf hs R T O Y S C K U D v A) nc ns := by
  replace X := CX.swap (z' := z_W_36 nm) X rfl rfl rfl rfl (zo_W_36 nm)
  obtain ⟨i0, i1, i2, i3, i4, i5⟩ := hi
  obtain ⟨rc, x, w, h1, h2, hg, hA9⟩ := A_printedPagesOfOwner hA (xs (i + 1).toNatClampNeg)
  obtain ⟨A', hM, hA0⟩ := s_L_printedPagesOfOwner H (hs, S, U) A (xs (i + 1).toNatClampNeg) rc x _ h1 hg
  obtain ⟨pk, e0, eq, sb, pu⟩ := vw_suo b (jf := jf) (hs := hs) (R := R) (T := T) (O := O) (Y := Y) (S := S) (C := C) (K := K) (U := U) (D := D) (v := v) (A := A)
  refine go_s 1 X (pc2 := 2011) (st2 := [.ref 0]) rfl ?_
  refine r_arg X SX (i := i) (c9 := 1) (pc2 := 2016) rfl rfl i1 ?_
  refine go_s 1 X (pc2 := 2018) (st2 := [.ref 201, .int (xs (i + 1).toNatClampNeg), .ref 0]) rfl ?_
  refine lcS X _ _ [.int (xs (i + 1).toNatClampNeg)] hM pk e0 eq sb (pu hs S U A') rfl k_L_printedPagesOfOwner l_L_276 rfl rfl rfl rfl rfl (fitL hR (by decide) (by decide) (by omega) (by omega)) (Nat.le_of_ble_eq_true rfl) ?_
  refine go_l 2 X (pc2 := 2024) (ls2 := [some (.ref (SB + 201)), some (.ref 0), some (.ref 190), some (.ref 201), some (.int i), some (.int (MVTh w)), none, none, none]) (st2 := [.ref 190]) rfl ?_
  refine r_arg X SX (i := i) (c9 := 1) (pc2 := 2029) rfl rfl i1 ?_
  obtain ⟨pm, em, sm, um⟩ := vw_m b (jf := jf) (hs := hs) (R := R) (T := T) (O := O) (Y := Y) (S := S) (C := C) (K := K) (U := U) (D := D) (v := v) (A := A')
  refine lcV X _ _ (As := [.int (xs (i + 1).toNatClampNeg)]) (H.2.2 v (xs (i + 1).toNatClampNeg) x w h2) pm em sm (um w) rfl k_X9_printedPagesOfOwner l_L_278 rfl rfl rfl rfl rfl rfl rfl rfl rfl (fitL hR (by decide) (by decide) (by omega) (by omega)) (Nat.le_of_ble_eq_true rfl) ?_
  refine go_l 2 X (pc2 := 2036) (ls2 := [some (.ref (SB + 201)), some (.ref 0), some (.ref 190), some (.ref 201), some (.int i), some (.int (MVTh w)), some (.int x), none, none]) (st2 := [.ref 190]) rfl ?_
  obtain ⟨pt, et, sn, ut⟩ := vw_m b (jf := jf) (hs := hs) (R := R) (T := T) (O := O) (Y := Y) (S := S) (C := C) (K := K) (U := U) (D := D) (v := w) (A := A')
  refine lcV X _ _ (As := []) (hT w (MVTh w) rfl) pt et sn (ut w) rfl k_X9_thrown l_L_193 rfl rfl rfl rfl rfl rfl rfl rfl rfl (fitL hR (by decide) (by decide) (by omega) (by omega)) (Nat.le_of_ble_eq_true rfl) ?_
  refine go_s 1 X (pc2 := 2041) (st2 := [.int (MVTh w), .int (MVTh w)]) rfl ?_
  refine r_icmp_eq X 2046 rfl rfl (fun _ => ?_) (fun h => absurd rfl h)
  refine go_s 1 X (pc2 := 2048) (st2 := [.int (MVTh w)]) rfl ?_
  have fin : AW κ Q 2063 [some (.ref (SB + 201)), some (.ref 0), some (.ref 190), some (.ref 201), some (.int i), some (.int (MVTh w)), some (.int x), none, none] [] (LW b jf hs R T O Y S C K U D w A') (nc + 1 + 0 + 0) (ns + 6 + 0 + 0) := go_s 1 X (pc2 := 3130) (st2 := []) rfl (kfin hk hA9 (by omega) (by omega))
  refine r_if_ne X 2063 rfl rfl (fun _ => fin) (fun h0 => ?_)
  refine go_s 2 X (pc2 := 2053) (st2 := [.int 0, .ref 201]) rfl ?_
  refine r_lald X (o := 201) (n := 1) rfl (lw_x b) in01 ?_
  refine AW.eq (st' := [.long (Int32.toInt64 x)]) ?_ rfl rfl (congrArg (fun q => [Value.long q]) (hA0 h0)) rfl
  refine go_s 3 X (pc2 := 2058) (st2 := [.int (lg_cmp (Int32.toInt64 x) (Int32.toInt64 x))]) rfl ?_
  exact r_if_eq X 2063 rfl rfl (fun _ => fin) (fun h => absurd (lg_self _) h)
set_option maxRecDepth 20000 in
set_option maxHeartbeats 2000000 in
theorem W_37 {κ : KX} {Q : State → Prop} {nm : String} (X : CX κ (z_W_h nm)) (hR : κR κ = room_1) {L : Nat} {xs : Nat → Int32} (SX : SCX κ L xs) (hT : H_th) (H : H_37) {i : Int32} (hi : SI L i) {nc ns : Nat} (hnc : nc + 4 ≤ 601024) (hns : ns + 24 ≤ 7293034) {b : Bool} {jf : Nat → Int32} {hs : Int32} {R : RV} {T : TV} {O : OV} {Y : YV} {S C K : SV} {U D : UV} {v : MV} {A : Nat → Int64} (hA : ALL' hs R O Y S C K U v) (hk : KONT κ Q i nc ns) : AW κ Q 2066 (L0 i) [] (LW b jf hs R T O Y S C K U D v A) nc ns := by
  replace X := CX.swap (z' := z_W_37 nm) X rfl rfl rfl rfl (zo_W_37 nm)
  obtain ⟨i0, i1, i2, i3, i4, i5⟩ := hi
  obtain ⟨rc, x, w, h1, h2, hg, hA9⟩ := A_printingObstacle hA (xs (i + 1).toNatClampNeg)
  obtain ⟨A', hM, hA0⟩ := s_L_printingObstacle H (hs, S, U) A (xs (i + 1).toNatClampNeg) rc x _ h1 hg
  obtain ⟨pk, e0, eq, sb, pu⟩ := vw_suo b (jf := jf) (hs := hs) (R := R) (T := T) (O := O) (Y := Y) (S := S) (C := C) (K := K) (U := U) (D := D) (v := v) (A := A)
  refine go_s 1 X (pc2 := 2067) (st2 := [.ref 0]) rfl ?_
  refine r_arg X SX (i := i) (c9 := 1) (pc2 := 2072) rfl rfl i1 ?_
  refine go_s 1 X (pc2 := 2074) (st2 := [.ref 201, .int (xs (i + 1).toNatClampNeg), .ref 0]) rfl ?_
  refine lcS X _ _ [.int (xs (i + 1).toNatClampNeg)] hM pk e0 eq sb (pu hs S U A') rfl k_L_printingObstacle l_L_279 rfl rfl rfl rfl rfl (fitL hR (by decide) (by decide) (by omega) (by omega)) (Nat.le_of_ble_eq_true rfl) ?_
  refine go_l 2 X (pc2 := 2080) (ls2 := [some (.ref (SB + 201)), some (.ref 0), some (.ref 190), some (.ref 201), some (.int i), some (.int (MVTh w)), none, none, none]) (st2 := [.ref 190]) rfl ?_
  refine r_arg X SX (i := i) (c9 := 1) (pc2 := 2085) rfl rfl i1 ?_
  obtain ⟨pm, em, sm, um⟩ := vw_m b (jf := jf) (hs := hs) (R := R) (T := T) (O := O) (Y := Y) (S := S) (C := C) (K := K) (U := U) (D := D) (v := v) (A := A')
  refine lcV X _ _ (As := [.int (xs (i + 1).toNatClampNeg)]) (H.2.2 v (xs (i + 1).toNatClampNeg) x w h2) pm em sm (um w) rfl k_X9_printingObstacle l_L_281 rfl rfl rfl rfl rfl rfl rfl rfl rfl (fitL hR (by decide) (by decide) (by omega) (by omega)) (Nat.le_of_ble_eq_true rfl) ?_
  refine go_l 2 X (pc2 := 2092) (ls2 := [some (.ref (SB + 201)), some (.ref 0), some (.ref 190), some (.ref 201), some (.int i), some (.int (MVTh w)), some (.int x), none, none]) (st2 := [.ref 190]) rfl ?_
  obtain ⟨pt, et, sn, ut⟩ := vw_m b (jf := jf) (hs := hs) (R := R) (T := T) (O := O) (Y := Y) (S := S) (C := C) (K := K) (U := U) (D := D) (v := w) (A := A')
  refine lcV X _ _ (As := []) (hT w (MVTh w) rfl) pt et sn (ut w) rfl k_X9_thrown l_L_193 rfl rfl rfl rfl rfl rfl rfl rfl rfl (fitL hR (by decide) (by decide) (by omega) (by omega)) (Nat.le_of_ble_eq_true rfl) ?_
  refine go_s 1 X (pc2 := 2097) (st2 := [.int (MVTh w), .int (MVTh w)]) rfl ?_
  refine r_icmp_eq X 2102 rfl rfl (fun _ => ?_) (fun h => absurd rfl h)
  refine go_s 1 X (pc2 := 2104) (st2 := [.int (MVTh w)]) rfl ?_
  have fin : AW κ Q 2119 [some (.ref (SB + 201)), some (.ref 0), some (.ref 190), some (.ref 201), some (.int i), some (.int (MVTh w)), some (.int x), none, none] [] (LW b jf hs R T O Y S C K U D w A') (nc + 1 + 0 + 0) (ns + 6 + 0 + 0) := go_s 1 X (pc2 := 3130) (st2 := []) rfl (kfin hk hA9 (by omega) (by omega))
  refine r_if_ne X 2119 rfl rfl (fun _ => fin) (fun h0 => ?_)
  refine go_s 2 X (pc2 := 2109) (st2 := [.int 0, .ref 201]) rfl ?_
  refine r_lald X (o := 201) (n := 1) rfl (lw_x b) in01 ?_
  refine AW.eq (st' := [.long (Int32.toInt64 x)]) ?_ rfl rfl (congrArg (fun q => [Value.long q]) (hA0 h0)) rfl
  refine go_s 3 X (pc2 := 2114) (st2 := [.int (lg_cmp (Int32.toInt64 x) (Int32.toInt64 x))]) rfl ?_
  exact r_if_eq X 2119 rfl rfl (fun _ => fin) (fun h => absurd (lg_self _) h)
set_option maxRecDepth 20000 in
set_option maxHeartbeats 2000000 in
theorem W_38 {κ : KX} {Q : State → Prop} {nm : String} (X : CX κ (z_W_h nm)) (hR : κR κ = room_1) {L : Nat} {xs : Nat → Int32} (SX : SCX κ L xs) (hT : H_th) (H : H_38) {i : Int32} (hi : SI L i) {nc ns : Nat} (hnc : nc + 4 ≤ 601024) (hns : ns + 24 ≤ 7293034) {b : Bool} {jf : Nat → Int32} {hs : Int32} {R : RV} {T : TV} {O : OV} {Y : YV} {S C K : SV} {U D : UV} {v : MV} {A : Nat → Int64} (hA : ALL' hs R O Y S C K U v) (hk : KONT κ Q i nc ns) : AW κ Q 2122 (L0 i) [] (LW b jf hs R T O Y S C K U D v A) nc ns := by
  replace X := CX.swap (z' := z_W_38 nm) X rfl rfl rfl rfl (zo_W_38 nm)
  obtain ⟨i0, i1, i2, i3, i4, i5⟩ := hi
  obtain ⟨x, w, h1, h2, hA9⟩ := A_comparisons hA
  obtain ⟨pk, e0, sb, pu⟩ := vw_s b (jf := jf) (hs := hs) (R := R) (T := T) (O := O) (Y := Y) (S := S) (C := C) (K := K) (U := U) (D := D) (v := v) (A := A)
  refine go_s 1 X (pc2 := 2123) (st2 := [.ref 0]) rfl ?_
  refine lcV X _ _ (As := []) (H.1 (hs, S)  x h1) pk e0 sb (pu hs S) rfl k_X8_comparisons l_L_282 rfl rfl rfl rfl rfl rfl rfl rfl rfl (fitL hR (by decide) (by decide) (by omega) (by omega)) (Nat.le_of_ble_eq_true rfl) ?_
  refine go_s 1 X (pc2 := 2127) (st2 := [.ref 190, .int x]) rfl ?_
  obtain ⟨pm, em, sm, um⟩ := vw_m b (jf := jf) (hs := hs) (R := R) (T := T) (O := O) (Y := Y) (S := S) (C := C) (K := K) (U := U) (D := D) (v := v) (A := A)
  refine lcV X _ _ (As := []) (H.2 v  x w h2) pm em sm (um w) rfl k_X9_comparisons l_L_285 rfl rfl rfl rfl rfl rfl rfl rfl rfl (fitL hR (by decide) (by decide) (by omega) (by omega)) (Nat.le_of_ble_eq_true rfl) ?_
  exact r_icmp_eq X 3130 rfl rfl (fun _ => kfin hk hA9 (by omega) (by omega)) (fun h => absurd rfl h)
set_option maxRecDepth 20000 in
set_option maxHeartbeats 2000000 in
theorem W_39 {κ : KX} {Q : State → Prop} {nm : String} (X : CX κ (z_W_h nm)) (hR : κR κ = room_1) {L : Nat} {xs : Nat → Int32} (SX : SCX κ L xs) (hT : H_th) (H : H_39) {i : Int32} (hi : SI L i) {nc ns : Nat} (hnc : nc + 4 ≤ 601024) (hns : ns + 24 ≤ 7293034) {b : Bool} {jf : Nat → Int32} {hs : Int32} {R : RV} {T : TV} {O : OV} {Y : YV} {S C K : SV} {U D : UV} {v : MV} {A : Nat → Int64} (hA : ALL' hs R O Y S C K U v) (hk : KONT κ Q i nc ns) : AW κ Q 2135 (L0 i) [] (LW b jf hs R T O Y S C K U D v A) nc ns := by
  replace X := CX.swap (z' := z_W_39 nm) X rfl rfl rfl rfl (zo_W_39 nm)
  obtain ⟨i0, i1, i2, i3, i4, i5⟩ := hi
  obtain ⟨x, w, h1, h2, hA9⟩ := A_swaps hA
  obtain ⟨pk, e0, sb, pu⟩ := vw_s b (jf := jf) (hs := hs) (R := R) (T := T) (O := O) (Y := Y) (S := S) (C := C) (K := K) (U := U) (D := D) (v := v) (A := A)
  refine go_s 1 X (pc2 := 2136) (st2 := [.ref 0]) rfl ?_
  refine lcV X _ _ (As := []) (H.1 (hs, S)  x h1) pk e0 sb (pu hs S) rfl k_X8_swaps l_L_286 rfl rfl rfl rfl rfl rfl rfl rfl rfl (fitL hR (by decide) (by decide) (by omega) (by omega)) (Nat.le_of_ble_eq_true rfl) ?_
  refine go_s 1 X (pc2 := 2140) (st2 := [.ref 190, .int x]) rfl ?_
  obtain ⟨pm, em, sm, um⟩ := vw_m b (jf := jf) (hs := hs) (R := R) (T := T) (O := O) (Y := Y) (S := S) (C := C) (K := K) (U := U) (D := D) (v := v) (A := A)
  refine lcV X _ _ (As := []) (H.2 v  x w h2) pm em sm (um w) rfl k_X9_swaps l_L_289 rfl rfl rfl rfl rfl rfl rfl rfl rfl (fitL hR (by decide) (by decide) (by omega) (by omega)) (Nat.le_of_ble_eq_true rfl) ?_
  exact r_icmp_eq X 3130 rfl rfl (fun _ => kfin hk hA9 (by omega) (by omega)) (fun h => absurd rfl h)
set_option maxRecDepth 20000 in
set_option maxHeartbeats 2000000 in
theorem W_40 {κ : KX} {Q : State → Prop} {nm : String} (X : CX κ (z_W_h nm)) (hR : κR κ = room_1) {L : Nat} {xs : Nat → Int32} (SX : SCX κ L xs) (hT : H_th) (H : H_40) {i : Int32} (hi : SI L i) {nc ns : Nat} (hnc : nc + 4 ≤ 601024) (hns : ns + 24 ≤ 7293034) {b : Bool} {jf : Nat → Int32} {hs : Int32} {R : RV} {T : TV} {O : OV} {Y : YV} {S C K : SV} {U D : UV} {v : MV} {A : Nat → Int64} (hA : ALL' hs R O Y S C K U v) (hk : KONT κ Q i nc ns) : AW κ Q 2148 (L0 i) [] (LW b jf hs R T O Y S C K U D v A) nc ns := by
  replace X := CX.swap (z' := z_W_40 nm) X rfl rfl rfl rfl (zo_W_40 nm)
  obtain ⟨i0, i1, i2, i3, i4, i5⟩ := hi
  obtain ⟨rc, x, w, h1, h2, hg, hA9⟩ := A_mergeCost hA (xs (i + 1).toNatClampNeg) (xs (i + 2).toNatClampNeg)
  obtain ⟨A', hM, hA0⟩ := s_L_mergeCost H (hs, S, U) A (xs (i + 1).toNatClampNeg) (xs (i + 2).toNatClampNeg) rc x _ h1 hg
  obtain ⟨pk, e0, eq, sb, pu⟩ := vw_suo b (jf := jf) (hs := hs) (R := R) (T := T) (O := O) (Y := Y) (S := S) (C := C) (K := K) (U := U) (D := D) (v := v) (A := A)
  refine go_s 1 X (pc2 := 2149) (st2 := [.ref 0]) rfl ?_
  refine r_arg X SX (i := i) (c9 := 1) (pc2 := 2154) rfl rfl i1 ?_
  refine r_arg X SX (i := i) (c9 := 2) (pc2 := 2160) rfl rfl i2 ?_
  refine go_s 1 X (pc2 := 2162) (st2 := [.ref 201, .int (xs (i + 2).toNatClampNeg), .int (xs (i + 1).toNatClampNeg), .ref 0]) rfl ?_
  refine lcS X _ _ [.int (xs (i + 1).toNatClampNeg), .int (xs (i + 2).toNatClampNeg)] hM pk e0 eq sb (pu hs S U A') rfl k_L_mergeCost l_L_290 rfl rfl rfl rfl rfl (fitL hR (by decide) (by decide) (by omega) (by omega)) (Nat.le_of_ble_eq_true rfl) ?_
  refine go_l 2 X (pc2 := 2168) (ls2 := [some (.ref (SB + 201)), some (.ref 0), some (.ref 190), some (.ref 201), some (.int i), some (.int (MVTh w)), none, none, none]) (st2 := [.ref 190]) rfl ?_
  refine r_arg X SX (i := i) (c9 := 1) (pc2 := 2173) rfl rfl i1 ?_
  refine r_arg X SX (i := i) (c9 := 2) (pc2 := 2179) rfl rfl i2 ?_
  obtain ⟨pm, em, sm, um⟩ := vw_m b (jf := jf) (hs := hs) (R := R) (T := T) (O := O) (Y := Y) (S := S) (C := C) (K := K) (U := U) (D := D) (v := v) (A := A')
  refine lcV X _ _ (As := [.int (xs (i + 1).toNatClampNeg), .int (xs (i + 2).toNatClampNeg)]) (H.2.2.2 v (xs (i + 1).toNatClampNeg) (xs (i + 2).toNatClampNeg) x w h2) pm em sm (um w) rfl k_X9_mergeCost l_L_292 rfl rfl rfl rfl rfl rfl rfl rfl rfl (fitL hR (by decide) (by decide) (by omega) (by omega)) (Nat.le_of_ble_eq_true rfl) ?_
  refine go_l 2 X (pc2 := 2186) (ls2 := [some (.ref (SB + 201)), some (.ref 0), some (.ref 190), some (.ref 201), some (.int i), some (.int (MVTh w)), some (.int x), none, none]) (st2 := [.ref 190]) rfl ?_
  obtain ⟨pt, et, sn, ut⟩ := vw_m b (jf := jf) (hs := hs) (R := R) (T := T) (O := O) (Y := Y) (S := S) (C := C) (K := K) (U := U) (D := D) (v := w) (A := A')
  refine lcV X _ _ (As := []) (hT w (MVTh w) rfl) pt et sn (ut w) rfl k_X9_thrown l_L_193 rfl rfl rfl rfl rfl rfl rfl rfl rfl (fitL hR (by decide) (by decide) (by omega) (by omega)) (Nat.le_of_ble_eq_true rfl) ?_
  refine go_s 1 X (pc2 := 2191) (st2 := [.int (MVTh w), .int (MVTh w)]) rfl ?_
  refine r_icmp_eq X 2196 rfl rfl (fun _ => ?_) (fun h => absurd rfl h)
  refine go_s 1 X (pc2 := 2198) (st2 := [.int (MVTh w)]) rfl ?_
  have fin : AW κ Q 2213 [some (.ref (SB + 201)), some (.ref 0), some (.ref 190), some (.ref 201), some (.int i), some (.int (MVTh w)), some (.int x), none, none] [] (LW b jf hs R T O Y S C K U D w A') (nc + 3 + 0 + 0) (ns + 18 + 0 + 0) := go_s 1 X (pc2 := 3130) (st2 := []) rfl (kfin hk hA9 (by omega) (by omega))
  refine r_if_ne X 2213 rfl rfl (fun _ => fin) (fun h0 => ?_)
  refine go_s 2 X (pc2 := 2203) (st2 := [.int 0, .ref 201]) rfl ?_
  refine r_lald X (o := 201) (n := 1) rfl (lw_x b) in01 ?_
  refine AW.eq (st' := [.long (Int32.toInt64 x)]) ?_ rfl rfl (congrArg (fun q => [Value.long q]) (hA0 h0)) rfl
  refine go_s 3 X (pc2 := 2208) (st2 := [.int (lg_cmp (Int32.toInt64 x) (Int32.toInt64 x))]) rfl ?_
  exact r_if_eq X 2213 rfl rfl (fun _ => fin) (fun h => absurd (lg_self _) h)
set_option maxRecDepth 20000 in
set_option maxHeartbeats 2000000 in
theorem W_41 {κ : KX} {Q : State → Prop} {nm : String} (X : CX κ (z_W_h nm)) (hR : κR κ = room_1) {L : Nat} {xs : Nat → Int32} (SX : SCX κ L xs) (hT : H_th) (H : H_41) {i : Int32} (hi : SI L i) {nc ns : Nat} (hnc : nc + 4 ≤ 601024) (hns : ns + 24 ≤ 7293034) {b : Bool} {jf : Nat → Int32} {hs : Int32} {R : RV} {T : TV} {O : OV} {Y : YV} {S C K : SV} {U D : UV} {v : MV} {A : Nat → Int64} (hA : ALL' hs R O Y S C K U v) (hk : KONT κ Q i nc ns) : AW κ Q 2216 (L0 i) [] (LW b jf hs R T O Y S C K U D v A) nc ns := by
  replace X := CX.swap (z' := z_W_41 nm) X rfl rfl rfl rfl (zo_W_41 nm)
  obtain ⟨i0, i1, i2, i3, i4, i5⟩ := hi
  obtain ⟨rc, S', x, w, h1, h2, hg, hA9⟩ := A_rankAfterMerge hA (xs (i + 1).toNatClampNeg) (xs (i + 2).toNatClampNeg)
  obtain ⟨A', hM, hA0⟩ := s_L_rankAfterMerge H (hs, S, U) A (xs (i + 1).toNatClampNeg) (xs (i + 2).toNatClampNeg) rc x _ (hs, S', U) h1 hg
  obtain ⟨pk, e0, eq, sb, pu⟩ := vw_suo b (jf := jf) (hs := hs) (R := R) (T := T) (O := O) (Y := Y) (S := S) (C := C) (K := K) (U := U) (D := D) (v := v) (A := A)
  refine go_s 1 X (pc2 := 2217) (st2 := [.ref 0]) rfl ?_
  refine r_arg X SX (i := i) (c9 := 1) (pc2 := 2222) rfl rfl i1 ?_
  refine r_arg X SX (i := i) (c9 := 2) (pc2 := 2228) rfl rfl i2 ?_
  refine go_s 1 X (pc2 := 2230) (st2 := [.ref 201, .int (xs (i + 2).toNatClampNeg), .int (xs (i + 1).toNatClampNeg), .ref 0]) rfl ?_
  refine lcS X _ _ [.int (xs (i + 1).toNatClampNeg), .int (xs (i + 2).toNatClampNeg)] hM pk e0 eq sb (pu hs S' U A') rfl k_L_rankAfterMerge l_L_293 rfl rfl rfl rfl rfl (fitL hR (by decide) (by decide) (by omega) (by omega)) (Nat.le_of_ble_eq_true rfl) ?_
  refine go_l 2 X (pc2 := 2236) (ls2 := [some (.ref (SB + 201)), some (.ref 0), some (.ref 190), some (.ref 201), some (.int i), some (.int (MVTh w)), none, none, none]) (st2 := [.ref 190]) rfl ?_
  refine r_arg X SX (i := i) (c9 := 1) (pc2 := 2241) rfl rfl i1 ?_
  refine r_arg X SX (i := i) (c9 := 2) (pc2 := 2247) rfl rfl i2 ?_
  obtain ⟨pm, em, sm, um⟩ := vw_m b (jf := jf) (hs := hs) (R := R) (T := T) (O := O) (Y := Y) (S := S') (C := C) (K := K) (U := U) (D := D) (v := v) (A := A')
  refine lcV X _ _ (As := [.int (xs (i + 1).toNatClampNeg), .int (xs (i + 2).toNatClampNeg)]) (H.2.2.2 v (xs (i + 1).toNatClampNeg) (xs (i + 2).toNatClampNeg) x w h2) pm em sm (um w) rfl k_X9_rankAfterMerge l_L_295 rfl rfl rfl rfl rfl rfl rfl rfl rfl (fitL hR (by decide) (by decide) (by omega) (by omega)) (Nat.le_of_ble_eq_true rfl) ?_
  refine go_l 2 X (pc2 := 2254) (ls2 := [some (.ref (SB + 201)), some (.ref 0), some (.ref 190), some (.ref 201), some (.int i), some (.int (MVTh w)), some (.int x), none, none]) (st2 := [.ref 190]) rfl ?_
  obtain ⟨pt, et, sn, ut⟩ := vw_m b (jf := jf) (hs := hs) (R := R) (T := T) (O := O) (Y := Y) (S := S') (C := C) (K := K) (U := U) (D := D) (v := w) (A := A')
  refine lcV X _ _ (As := []) (hT w (MVTh w) rfl) pt et sn (ut w) rfl k_X9_thrown l_L_193 rfl rfl rfl rfl rfl rfl rfl rfl rfl (fitL hR (by decide) (by decide) (by omega) (by omega)) (Nat.le_of_ble_eq_true rfl) ?_
  refine go_s 1 X (pc2 := 2259) (st2 := [.int (MVTh w), .int (MVTh w)]) rfl ?_
  refine r_icmp_eq X 2264 rfl rfl (fun _ => ?_) (fun h => absurd rfl h)
  refine go_s 1 X (pc2 := 2266) (st2 := [.int (MVTh w)]) rfl ?_
  have fin : AW κ Q 2281 [some (.ref (SB + 201)), some (.ref 0), some (.ref 190), some (.ref 201), some (.int i), some (.int (MVTh w)), some (.int x), none, none] [] (LW b jf hs R T O Y S' C K U D w A') (nc + 3 + 0 + 0) (ns + 18 + 0 + 0) := go_s 1 X (pc2 := 3130) (st2 := []) rfl (kfin hk hA9 (by omega) (by omega))
  refine r_if_ne X 2281 rfl rfl (fun _ => fin) (fun h0 => ?_)
  refine go_s 2 X (pc2 := 2271) (st2 := [.int 0, .ref 201]) rfl ?_
  refine r_lald X (o := 201) (n := 1) rfl (lw_x b) in01 ?_
  refine AW.eq (st' := [.long (Int32.toInt64 x)]) ?_ rfl rfl (congrArg (fun q => [Value.long q]) (hA0 h0)) rfl
  refine go_s 3 X (pc2 := 2276) (st2 := [.int (lg_cmp (Int32.toInt64 x) (Int32.toInt64 x))]) rfl ?_
  exact r_if_eq X 2281 rfl rfl (fun _ => fin) (fun h => absurd (lg_self _) h)
set_option maxRecDepth 20000 in
set_option maxHeartbeats 2000000 in
theorem W_42 {κ : KX} {Q : State → Prop} {nm : String} (X : CX κ (z_W_h nm)) (hR : κR κ = room_1) {L : Nat} {xs : Nat → Int32} (SX : SCX κ L xs) (hT : H_th) (H : H_42) {i : Int32} (hi : SI L i) {nc ns : Nat} (hnc : nc + 4 ≤ 601024) (hns : ns + 24 ≤ 7293034) {b : Bool} {jf : Nat → Int32} {hs : Int32} {R : RV} {T : TV} {O : OV} {Y : YV} {S C K : SV} {U D : UV} {v : MV} {A : Nat → Int64} (hA : ALL' hs R O Y S C K U v) (hk : KONT κ Q i nc ns) : AW κ Q 2284 (L0 i) [] (LW b jf hs R T O Y S C K U D v A) nc ns := by
  replace X := CX.swap (z' := z_W_42 nm) X rfl rfl rfl rfl (zo_W_42 nm)
  obtain ⟨i0, i1, i2, i3, i4, i5⟩ := hi
  obtain ⟨rc, x, w, h1, h2, hg, hA9⟩ := A_positionWith hA (xs (i + 1).toNatClampNeg) (xs (i + 2).toNatClampNeg)
  obtain ⟨A', hM, hA0⟩ := s_L_positionWith H (hs, S) A (xs (i + 1).toNatClampNeg) (xs (i + 2).toNatClampNeg) rc x _ h1 hg
  obtain ⟨pk, e0, eq, sb, pu⟩ := vw_so b (jf := jf) (hs := hs) (R := R) (T := T) (O := O) (Y := Y) (S := S) (C := C) (K := K) (U := U) (D := D) (v := v) (A := A)
  refine go_s 1 X (pc2 := 2285) (st2 := [.ref 0]) rfl ?_
  refine r_arg X SX (i := i) (c9 := 1) (pc2 := 2290) rfl rfl i1 ?_
  refine r_arg X SX (i := i) (c9 := 2) (pc2 := 2296) rfl rfl i2 ?_
  refine go_s 1 X (pc2 := 2298) (st2 := [.ref 201, .int (xs (i + 2).toNatClampNeg), .int (xs (i + 1).toNatClampNeg), .ref 0]) rfl ?_
  refine lcS X _ _ [.int (xs (i + 1).toNatClampNeg), .int (xs (i + 2).toNatClampNeg)] hM pk e0 eq sb (pu hs S A') rfl k_L_positionWith l_L_296 rfl rfl rfl rfl rfl (fitL hR (by decide) (by decide) (by omega) (by omega)) (Nat.le_of_ble_eq_true rfl) ?_
  refine go_l 2 X (pc2 := 2304) (ls2 := [some (.ref (SB + 201)), some (.ref 0), some (.ref 190), some (.ref 201), some (.int i), some (.int (MVTh w)), none, none, none]) (st2 := [.ref 190]) rfl ?_
  refine r_arg X SX (i := i) (c9 := 1) (pc2 := 2309) rfl rfl i1 ?_
  refine r_arg X SX (i := i) (c9 := 2) (pc2 := 2315) rfl rfl i2 ?_
  obtain ⟨pm, em, sm, um⟩ := vw_m b (jf := jf) (hs := hs) (R := R) (T := T) (O := O) (Y := Y) (S := S) (C := C) (K := K) (U := U) (D := D) (v := v) (A := A')
  refine lcV X _ _ (As := [.int (xs (i + 1).toNatClampNeg), .int (xs (i + 2).toNatClampNeg)]) (H.2.2.2.2 v (xs (i + 1).toNatClampNeg) (xs (i + 2).toNatClampNeg) x w h2) pm em sm (um w) rfl k_X9_positionWith l_L_298 rfl rfl rfl rfl rfl rfl rfl rfl rfl (fitL hR (by decide) (by decide) (by omega) (by omega)) (Nat.le_of_ble_eq_true rfl) ?_
  refine go_l 2 X (pc2 := 2322) (ls2 := [some (.ref (SB + 201)), some (.ref 0), some (.ref 190), some (.ref 201), some (.int i), some (.int (MVTh w)), some (.int x), none, none]) (st2 := [.ref 190]) rfl ?_
  obtain ⟨pt, et, sn, ut⟩ := vw_m b (jf := jf) (hs := hs) (R := R) (T := T) (O := O) (Y := Y) (S := S) (C := C) (K := K) (U := U) (D := D) (v := w) (A := A')
  refine lcV X _ _ (As := []) (hT w (MVTh w) rfl) pt et sn (ut w) rfl k_X9_thrown l_L_193 rfl rfl rfl rfl rfl rfl rfl rfl rfl (fitL hR (by decide) (by decide) (by omega) (by omega)) (Nat.le_of_ble_eq_true rfl) ?_
  refine go_s 1 X (pc2 := 2327) (st2 := [.int (MVTh w), .int (MVTh w)]) rfl ?_
  refine r_icmp_eq X 2332 rfl rfl (fun _ => ?_) (fun h => absurd rfl h)
  refine go_s 1 X (pc2 := 2334) (st2 := [.int (MVTh w)]) rfl ?_
  have fin : AW κ Q 2349 [some (.ref (SB + 201)), some (.ref 0), some (.ref 190), some (.ref 201), some (.int i), some (.int (MVTh w)), some (.int x), none, none] [] (LW b jf hs R T O Y S C K U D w A') (nc + 3 + 0 + 0) (ns + 18 + 0 + 0) := go_s 1 X (pc2 := 3130) (st2 := []) rfl (kfin hk hA9 (by omega) (by omega))
  refine r_if_ne X 2349 rfl rfl (fun _ => fin) (fun h0 => ?_)
  refine go_s 2 X (pc2 := 2339) (st2 := [.int 0, .ref 201]) rfl ?_
  refine r_lald X (o := 201) (n := 1) rfl (lw_x b) in01 ?_
  refine AW.eq (st' := [.long (Int32.toInt64 x)]) ?_ rfl rfl (congrArg (fun q => [Value.long q]) (hA0 h0)) rfl
  refine go_s 3 X (pc2 := 2344) (st2 := [.int (lg_cmp (Int32.toInt64 x) (Int32.toInt64 x))]) rfl ?_
  exact r_if_eq X 2349 rfl rfl (fun _ => fin) (fun h => absurd (lg_self _) h)
set_option maxRecDepth 20000 in
set_option maxHeartbeats 2000000 in
theorem W_43 {κ : KX} {Q : State → Prop} {nm : String} (X : CX κ (z_W_h nm)) (hR : κR κ = room_1) {L : Nat} {xs : Nat → Int32} (SX : SCX κ L xs) (hT : H_th) (H : H_43) {i : Int32} (hi : SI L i) {nc ns : Nat} (hnc : nc + 4 ≤ 601024) (hns : ns + 24 ≤ 7293034) {b : Bool} {jf : Nat → Int32} {hs : Int32} {R : RV} {T : TV} {O : OV} {Y : YV} {S C K : SV} {U D : UV} {v : MV} {A : Nat → Int64} (hA : ALL' hs R O Y S C K U v) (hk : KONT κ Q i nc ns) : AW κ Q 2352 (L0 i) [] (LW b jf hs R T O Y S C K U D v A) nc ns := by
  replace X := CX.swap (z' := z_W_43 nm) X rfl rfl rfl rfl (zo_W_43 nm)
  obtain ⟨i0, i1, i2, i3, i4, i5⟩ := hi
  obtain ⟨x, w, h1, h2, hb, hA9⟩ := A_meanRank hA
  obtain ⟨pk, e0, sb, pu⟩ := vw_s b (jf := jf) (hs := hs) (R := R) (T := T) (O := O) (Y := Y) (S := S) (C := C) (K := K) (U := U) (D := D) (v := v) (A := A)
  refine go_s 1 X (pc2 := 2353) (st2 := [.ref 0]) rfl ?_
  refine lcV X _ _ (As := []) (H.1 (hs, S)  x h1) pk e0 sb (pu hs S) rfl k_X8_meanRank l_L_299 rfl rfl rfl rfl rfl rfl rfl rfl rfl (fitL hR (by decide) (by decide) (by omega) (by omega)) (Nat.le_of_ble_eq_true rfl) ?_
  refine go_l 2 X (pc2 := 2359) (ls2 := [some (.ref (SB + 201)), some (.ref 0), some (.ref 190), some (.ref 201), some (.int i), some (.double x), none, none, none]) (st2 := [.ref 190]) rfl ?_
  obtain ⟨pm, em, sm, um⟩ := vw_m b (jf := jf) (hs := hs) (R := R) (T := T) (O := O) (Y := Y) (S := S) (C := C) (K := K) (U := U) (D := D) (v := v) (A := A)
  refine lcV X _ _ (As := []) (H.2 v x w h2) pm em sm (um w) rfl k_X9_meanRank l_L_303 rfl rfl rfl rfl rfl rfl rfl rfl rfl (fitL hR (by decide) (by decide) (by omega) (by omega)) (Nat.le_of_ble_eq_true rfl) ?_
  refine go_l 4 X (pc2 := 2369) (ls2 := [some (.ref (SB + 201)), some (.ref 0), some (.ref 190), some (.ref 201), some (.int i), some (.double x), none, some (.double x), none]) (st2 := [.int (Op.cmpValue (FP.dcmp x x) .l)]) rfl ?_
  have fin : AW κ Q 2390 [some (.ref (SB + 201)), some (.ref 0), some (.ref 190), some (.ref 201), some (.int i), some (.double x), none, some (.double x), none] [] (LW b jf hs R T O Y S C K U D w A) (nc + 0 + 0) (ns + 0 + 0) := go_s 1 X (pc2 := 3130) (st2 := []) rfl (kfin hk hA9 (by omega) (by omega))
  refine r_if_eq X 2390 rfl rfl (fun _ => fin) (fun h => ?_)
  refine go_s 3 X (pc2 := 2377) (st2 := [.int (Op.cmpValue (FP.dcmp x x) .l)]) rfl ?_
  refine r_if_eq X 2388 rfl rfl (fun h9 => absurd h9 h) (fun _ => ?_)
  refine go_s 3 X (pc2 := 2385) (st2 := [.int (Op.cmpValue (FP.dcmp x x) .l)]) rfl ?_
  exact r_if_ne X 2390 rfl rfl (fun _ => fin) (fun h9 => absurd h9 h)
set_option maxRecDepth 20000 in
set_option maxHeartbeats 2000000 in
theorem W_44 {κ : KX} {Q : State → Prop} {nm : String} (X : CX κ (z_W_h nm)) (hR : κR κ = room_1) {L : Nat} {xs : Nat → Int32} (SX : SCX κ L xs) (hT : H_th) (H : H_44) {i : Int32} (hi : SI L i) {nc ns : Nat} (hnc : nc + 4 ≤ 601024) (hns : ns + 24 ≤ 7293034) {b : Bool} {jf : Nat → Int32} {hs : Int32} {R : RV} {T : TV} {O : OV} {Y : YV} {S C K : SV} {U D : UV} {v : MV} {A : Nat → Int64} (hA : ALL' hs R O Y S C K U v) (hk : KONT κ Q i nc ns) : AW κ Q 2393 (L0 i) [] (LW b jf hs R T O Y S C K U D v A) nc ns := by
  replace X := CX.swap (z' := z_W_44 nm) X rfl rfl rfl rfl (zo_W_44 nm)
  obtain ⟨i0, i1, i2, i3, i4, i5⟩ := hi
  obtain ⟨x, w, h1, h2, hb, hA9⟩ := A_printedPart hA
  obtain ⟨pk, e0, sb, pu⟩ := vw_s b (jf := jf) (hs := hs) (R := R) (T := T) (O := O) (Y := Y) (S := S) (C := C) (K := K) (U := U) (D := D) (v := v) (A := A)
  refine go_s 1 X (pc2 := 2394) (st2 := [.ref 0]) rfl ?_
  refine lcV X _ _ (As := []) (H.1 (hs, S)  x h1) pk e0 sb (pu hs S) rfl k_X8_printedPart l_L_304 rfl rfl rfl rfl rfl rfl rfl rfl rfl (fitL hR (by decide) (by decide) (by omega) (by omega)) (Nat.le_of_ble_eq_true rfl) ?_
  refine r_f2d X rfl (f2d_n64 hb) ?_
  refine go_l 2 X (pc2 := 2401) (ls2 := [some (.ref (SB + 201)), some (.ref 0), some (.ref 190), some (.ref 201), some (.int i), some (.double (FP.f2d x)), none, none, none]) (st2 := [.ref 190]) rfl ?_
  obtain ⟨pm, em, sm, um⟩ := vw_m b (jf := jf) (hs := hs) (R := R) (T := T) (O := O) (Y := Y) (S := S) (C := C) (K := K) (U := U) (D := D) (v := v) (A := A)
  refine lcV X _ _ (As := []) (H.2 v x w h2) pm em sm (um w) rfl k_X9_printedPart l_L_308 rfl rfl rfl rfl rfl rfl rfl rfl rfl (fitL hR (by decide) (by decide) (by omega) (by omega)) (Nat.le_of_ble_eq_true rfl) ?_
  refine r_f2d X rfl (f2d_n64 hb) ?_
  refine go_l 4 X (pc2 := 2412) (ls2 := [some (.ref (SB + 201)), some (.ref 0), some (.ref 190), some (.ref 201), some (.int i), some (.double (FP.f2d x)), none, some (.double (FP.f2d x)), none]) (st2 := [.int (Op.cmpValue (FP.dcmp (FP.f2d x) (FP.f2d x)) .l)]) rfl ?_
  have fin : AW κ Q 2433 [some (.ref (SB + 201)), some (.ref 0), some (.ref 190), some (.ref 201), some (.int i), some (.double (FP.f2d x)), none, some (.double (FP.f2d x)), none] [] (LW b jf hs R T O Y S C K U D w A) (nc + 0 + 0) (ns + 0 + 0) := go_s 1 X (pc2 := 3130) (st2 := []) rfl (kfin hk hA9 (by omega) (by omega))
  refine r_if_eq X 2433 rfl rfl (fun _ => fin) (fun h => ?_)
  refine go_s 3 X (pc2 := 2420) (st2 := [.int (Op.cmpValue (FP.dcmp (FP.f2d x) (FP.f2d x)) .l)]) rfl ?_
  refine r_if_eq X 2431 rfl rfl (fun h9 => absurd h9 h) (fun _ => ?_)
  refine go_s 3 X (pc2 := 2428) (st2 := [.int (Op.cmpValue (FP.dcmp (FP.f2d x) (FP.f2d x)) .l)]) rfl ?_
  exact r_if_ne X 2433 rfl rfl (fun _ => fin) (fun h9 => absurd h9 h)
set_option maxRecDepth 20000 in
set_option maxHeartbeats 2000000 in
theorem W_45 {κ : KX} {Q : State → Prop} {nm : String} (X : CX κ (z_W_h nm)) (hR : κR κ = room_1) {L : Nat} {xs : Nat → Int32} (SX : SCX κ L xs) (hT : H_th) (H : H_45) {i : Int32} (hi : SI L i) {nc ns : Nat} (hnc : nc + 4 ≤ 601024) (hns : ns + 24 ≤ 7293034) {b : Bool} {jf : Nat → Int32} {hs : Int32} {R : RV} {T : TV} {O : OV} {Y : YV} {S C K : SV} {U D : UV} {v : MV} {A : Nat → Int64} (hA : ALL' hs R O Y S C K U v) (hk : KONT κ Q i nc ns) : AW κ Q 2436 (L0 i) [] (LW b jf hs R T O Y S C K U D v A) nc ns := by
  replace X := CX.swap (z' := z_W_45 nm) X rfl rfl rfl rfl (zo_W_45 nm)
  obtain ⟨i0, i1, i2, i3, i4, i5⟩ := hi
  obtain ⟨C', w, h1, h2, hA9⟩ := A_isConsistent hA
  obtain ⟨pk, e0, sb, pu⟩ := vw_scu b (jf := jf) (hs := hs) (R := R) (T := T) (O := O) (Y := Y) (S := S) (C := C) (K := K) (U := U) (D := D) (v := v) (A := A)
  refine go_s 1 X (pc2 := 2437) (st2 := [.ref 0]) rfl ?_
  refine lcV X _ _ (As := []) (H.1 (hs, S, C, U)  1 (hs, S, C', U) h1) pk e0 sb (pu hs S C' U) rfl k_X8_isConsistent l_L_309 rfl rfl rfl rfl rfl rfl rfl rfl rfl (fitL hR (by decide) (by decide) (by omega) (by omega)) (Nat.le_of_ble_eq_true rfl) ?_
  refine go_s 1 X (pc2 := 2441) (st2 := [.ref 190, .int 1]) rfl ?_
  obtain ⟨pm, em, sm, um⟩ := vw_m b (jf := jf) (hs := hs) (R := R) (T := T) (O := O) (Y := Y) (S := S) (C := C') (K := K) (U := U) (D := D) (v := v) (A := A)
  refine lcV X _ _ (As := []) (H.2 v  1 w h2) pm em sm (um w) rfl k_X9_isConsistent l_L_313 rfl rfl rfl rfl rfl rfl rfl rfl rfl (fitL hR (by decide) (by decide) (by omega) (by omega)) (Nat.le_of_ble_eq_true rfl) ?_
  exact r_icmp_eq X 3130 rfl rfl (fun _ => kfin hk hA9 (by omega) (by omega)) (fun h => absurd rfl h)
set_option maxRecDepth 20000 in
set_option maxHeartbeats 2000000 in
theorem W_46 {κ : KX} {Q : State → Prop} {nm : String} (X : CX κ (z_W_h nm)) (hR : κR κ = room_1) {L : Nat} {xs : Nat → Int32} (SX : SCX κ L xs) (hT : H_th) (H : H_46) {i : Int32} (hi : SI L i) {nc ns : Nat} (hnc : nc + 4 ≤ 601024) (hns : ns + 24 ≤ 7293034) {b : Bool} {jf : Nat → Int32} {hs : Int32} {R : RV} {T : TV} {O : OV} {Y : YV} {S C K : SV} {U D : UV} {v : MV} {A : Nat → Int64} (hA : ALL' hs R O Y S C K U v) (hk : KONT κ Q i nc ns) : AW κ Q 2449 (L0 i) [] (LW b jf hs R T O Y S C K U D v A) nc ns := by
  replace X := CX.swap (z' := z_W_46 nm) X rfl rfl rfl rfl (zo_W_46 nm)
  obtain ⟨i0, i1, i2, i3, i4, i5⟩ := hi
  obtain ⟨rc, Y', S', x, w, h1, h2, hg, hA9⟩ := A_submit hA (xs (i + 1).toNatClampNeg) (xs (i + 2).toNatClampNeg) (xs (i + 3).toNatClampNeg) (xs (i + 4).toNatClampNeg)
  obtain ⟨A', hM, hA0⟩ := s_L_submit H (hs, Y, S, U) A (xs (i + 1).toNatClampNeg) (xs (i + 2).toNatClampNeg) (xs (i + 3).toNatClampNeg) (xs (i + 4).toNatClampNeg) rc x _ (hs, Y', S', U) h1 hg
  obtain ⟨pk, e0, eq, sb, pu⟩ := vw_ysuo b (jf := jf) (hs := hs) (R := R) (T := T) (O := O) (Y := Y) (S := S) (C := C) (K := K) (U := U) (D := D) (v := v) (A := A)
  refine go_s 1 X (pc2 := 2450) (st2 := [.ref 0]) rfl ?_
  refine r_arg X SX (i := i) (c9 := 1) (pc2 := 2455) rfl rfl i1 ?_
  refine r_arg X SX (i := i) (c9 := 2) (pc2 := 2461) rfl rfl i2 ?_
  refine r_arg X SX (i := i) (c9 := 3) (pc2 := 2467) rfl rfl i3 ?_
  refine r_arg X SX (i := i) (c9 := 4) (pc2 := 2473) rfl rfl i4 ?_
  refine go_s 1 X (pc2 := 2475) (st2 := [.ref 201, .int (xs (i + 4).toNatClampNeg), .int (xs (i + 3).toNatClampNeg), .int (xs (i + 2).toNatClampNeg), .int (xs (i + 1).toNatClampNeg), .ref 0]) rfl ?_
  refine lcS X _ _ [.int (xs (i + 1).toNatClampNeg), .int (xs (i + 2).toNatClampNeg), .int (xs (i + 3).toNatClampNeg), .int (xs (i + 4).toNatClampNeg)] hM pk e0 eq sb (pu hs Y' S' U A') rfl k_L_submit l_L_314 rfl rfl rfl rfl rfl (fitL hR (by decide) (by decide) (by omega) (by omega)) (Nat.le_of_ble_eq_true rfl) ?_
  refine go_l 2 X (pc2 := 2481) (ls2 := [some (.ref (SB + 201)), some (.ref 0), some (.ref 190), some (.ref 201), some (.int i), some (.int (MVTh w)), none, none, none]) (st2 := [.ref 190]) rfl ?_
  refine r_arg X SX (i := i) (c9 := 1) (pc2 := 2486) rfl rfl i1 ?_
  refine r_arg X SX (i := i) (c9 := 2) (pc2 := 2492) rfl rfl i2 ?_
  refine r_arg X SX (i := i) (c9 := 3) (pc2 := 2498) rfl rfl i3 ?_
  refine r_arg X SX (i := i) (c9 := 4) (pc2 := 2504) rfl rfl i4 ?_
  obtain ⟨pm, em, sm, um⟩ := vw_m b (jf := jf) (hs := hs) (R := R) (T := T) (O := O) (Y := Y') (S := S') (C := C) (K := K) (U := U) (D := D) (v := v) (A := A')
  refine lcV X _ _ (As := [.int (xs (i + 1).toNatClampNeg), .int (xs (i + 2).toNatClampNeg), .int (xs (i + 3).toNatClampNeg), .int (xs (i + 4).toNatClampNeg)]) (H.2.2.2.2 v (xs (i + 1).toNatClampNeg) (xs (i + 2).toNatClampNeg) (xs (i + 3).toNatClampNeg) (xs (i + 4).toNatClampNeg) x w h2) pm em sm (um w) rfl k_X9_submit l_L_317 rfl rfl rfl rfl rfl rfl rfl rfl rfl (fitL hR (by decide) (by decide) (by omega) (by omega)) (Nat.le_of_ble_eq_true rfl) ?_
  refine go_l 2 X (pc2 := 2511) (ls2 := [some (.ref (SB + 201)), some (.ref 0), some (.ref 190), some (.ref 201), some (.int i), some (.int (MVTh w)), some (.int x), none, none]) (st2 := [.ref 190]) rfl ?_
  obtain ⟨pt, et, sn, ut⟩ := vw_m b (jf := jf) (hs := hs) (R := R) (T := T) (O := O) (Y := Y') (S := S') (C := C) (K := K) (U := U) (D := D) (v := w) (A := A')
  refine lcV X _ _ (As := []) (hT w (MVTh w) rfl) pt et sn (ut w) rfl k_X9_thrown l_L_193 rfl rfl rfl rfl rfl rfl rfl rfl rfl (fitL hR (by decide) (by decide) (by omega) (by omega)) (Nat.le_of_ble_eq_true rfl) ?_
  refine go_s 1 X (pc2 := 2516) (st2 := [.int (MVTh w), .int (MVTh w)]) rfl ?_
  refine r_icmp_eq X 2521 rfl rfl (fun _ => ?_) (fun h => absurd rfl h)
  refine go_s 1 X (pc2 := 2523) (st2 := [.int (MVTh w)]) rfl ?_
  have fin : AW κ Q 2538 [some (.ref (SB + 201)), some (.ref 0), some (.ref 190), some (.ref 201), some (.int i), some (.int (MVTh w)), some (.int x), none, none] [] (LW b jf hs R T O Y' S' C K U D w A') (nc + 4 + 0 + 0) (ns + 24 + 0 + 0) := go_s 1 X (pc2 := 3130) (st2 := []) rfl (kfin hk hA9 (by omega) (by omega))
  refine r_if_ne X 2538 rfl rfl (fun _ => fin) (fun h0 => ?_)
  refine go_s 2 X (pc2 := 2528) (st2 := [.int 0, .ref 201]) rfl ?_
  refine r_lald X (o := 201) (n := 1) rfl (lw_x b) in01 ?_
  refine AW.eq (st' := [.long (Int32.toInt64 x)]) ?_ rfl rfl (congrArg (fun q => [Value.long q]) (hA0 h0)) rfl
  refine go_s 3 X (pc2 := 2533) (st2 := [.int (lg_cmp (Int32.toInt64 x) (Int32.toInt64 x))]) rfl ?_
  exact r_if_eq X 2538 rfl rfl (fun _ => fin) (fun h => absurd (lg_self _) h)
set_option maxRecDepth 20000 in
set_option maxHeartbeats 2000000 in
theorem W_47 {κ : KX} {Q : State → Prop} {nm : String} (X : CX κ (z_W_h nm)) (hR : κR κ = room_1) {L : Nat} {xs : Nat → Int32} (SX : SCX κ L xs) (hT : H_th) (H : H_47) {i : Int32} (hi : SI L i) {nc ns : Nat} (hnc : nc + 4 ≤ 601024) (hns : ns + 24 ≤ 7293034) {b : Bool} {jf : Nat → Int32} {hs : Int32} {R : RV} {T : TV} {O : OV} {Y : YV} {S C K : SV} {U D : UV} {v : MV} {A : Nat → Int64} (hA : ALL' hs R O Y S C K U v) (hk : KONT κ Q i nc ns) : AW κ Q 2541 (L0 i) [] (LW b jf hs R T O Y S C K U D v A) nc ns := by
  replace X := CX.swap (z' := z_W_47 nm) X rfl rfl rfl rfl (zo_W_47 nm)
  obtain ⟨i0, i1, i2, i3, i4, i5⟩ := hi
  obtain ⟨rc, Y', S', x, w, h1, h2, hg, hA9⟩ := A_printNext hA (xs (i + 1).toNatClampNeg)
  obtain ⟨A', hM, hA0⟩ := s_L_printNext H (hs, Y, S, U) A (xs (i + 1).toNatClampNeg) rc x _ (hs, Y', S', U) h1 hg
  obtain ⟨pk, e0, eq, sb, pu⟩ := vw_ysuo b (jf := jf) (hs := hs) (R := R) (T := T) (O := O) (Y := Y) (S := S) (C := C) (K := K) (U := U) (D := D) (v := v) (A := A)
  refine go_s 1 X (pc2 := 2542) (st2 := [.ref 0]) rfl ?_
  refine r_arg X SX (i := i) (c9 := 1) (pc2 := 2547) rfl rfl i1 ?_
  refine go_s 1 X (pc2 := 2549) (st2 := [.ref 201, .int (xs (i + 1).toNatClampNeg), .ref 0]) rfl ?_
  refine lcS X _ _ [.int (xs (i + 1).toNatClampNeg)] hM pk e0 eq sb (pu hs Y' S' U A') rfl k_L_printNext l_L_318 rfl rfl rfl rfl rfl (fitL hR (by decide) (by decide) (by omega) (by omega)) (Nat.le_of_ble_eq_true rfl) ?_
  refine go_l 2 X (pc2 := 2555) (ls2 := [some (.ref (SB + 201)), some (.ref 0), some (.ref 190), some (.ref 201), some (.int i), some (.int (MVTh w)), none, none, none]) (st2 := [.ref 190]) rfl ?_
  refine r_arg X SX (i := i) (c9 := 1) (pc2 := 2560) rfl rfl i1 ?_
  obtain ⟨pm, em, sm, um⟩ := vw_m b (jf := jf) (hs := hs) (R := R) (T := T) (O := O) (Y := Y') (S := S') (C := C) (K := K) (U := U) (D := D) (v := v) (A := A')
  refine lcV X _ _ (As := [.int (xs (i + 1).toNatClampNeg)]) (H.2.2.2 v (xs (i + 1).toNatClampNeg) x w h2) pm em sm (um w) rfl k_X9_printNext l_L_320 rfl rfl rfl rfl rfl rfl rfl rfl rfl (fitL hR (by decide) (by decide) (by omega) (by omega)) (Nat.le_of_ble_eq_true rfl) ?_
  refine go_l 2 X (pc2 := 2567) (ls2 := [some (.ref (SB + 201)), some (.ref 0), some (.ref 190), some (.ref 201), some (.int i), some (.int (MVTh w)), some (.int x), none, none]) (st2 := [.ref 190]) rfl ?_
  obtain ⟨pt, et, sn, ut⟩ := vw_m b (jf := jf) (hs := hs) (R := R) (T := T) (O := O) (Y := Y') (S := S') (C := C) (K := K) (U := U) (D := D) (v := w) (A := A')
  refine lcV X _ _ (As := []) (hT w (MVTh w) rfl) pt et sn (ut w) rfl k_X9_thrown l_L_193 rfl rfl rfl rfl rfl rfl rfl rfl rfl (fitL hR (by decide) (by decide) (by omega) (by omega)) (Nat.le_of_ble_eq_true rfl) ?_
  refine go_s 1 X (pc2 := 2572) (st2 := [.int (MVTh w), .int (MVTh w)]) rfl ?_
  refine r_icmp_eq X 2577 rfl rfl (fun _ => ?_) (fun h => absurd rfl h)
  refine go_s 1 X (pc2 := 2579) (st2 := [.int (MVTh w)]) rfl ?_
  have fin : AW κ Q 2594 [some (.ref (SB + 201)), some (.ref 0), some (.ref 190), some (.ref 201), some (.int i), some (.int (MVTh w)), some (.int x), none, none] [] (LW b jf hs R T O Y' S' C K U D w A') (nc + 2 + 0 + 0) (ns + 12 + 0 + 0) := go_s 1 X (pc2 := 3130) (st2 := []) rfl (kfin hk hA9 (by omega) (by omega))
  refine r_if_ne X 2594 rfl rfl (fun _ => fin) (fun h0 => ?_)
  refine go_s 2 X (pc2 := 2584) (st2 := [.int 0, .ref 201]) rfl ?_
  refine r_lald X (o := 201) (n := 1) rfl (lw_x b) in01 ?_
  refine AW.eq (st' := [.long (Int32.toInt64 x)]) ?_ rfl rfl (congrArg (fun q => [Value.long q]) (hA0 h0)) rfl
  refine go_s 3 X (pc2 := 2589) (st2 := [.int (lg_cmp (Int32.toInt64 x) (Int32.toInt64 x))]) rfl ?_
  exact r_if_eq X 2594 rfl rfl (fun _ => fin) (fun h => absurd (lg_self _) h)
