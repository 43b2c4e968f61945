/-! ===== 69i: the cases of the law (gen69h.py) ===== -/
set_option maxRecDepth 20000 in
set_option maxHeartbeats 2000000 in
theorem W_48 {κ : KX} {Q : State → Prop} {nm : String} (X : CX κ (z_W_h nm)) (hR : κR κ = room_1) {L : Nat} {xs : Nat → Int32} (SX : SCX κ L xs) (hT : H_th) (H : H_48) {i : Int32} (hi : SI L i) {nc ns : Nat} (hnc : nc + 4 ≤ 601024) (hns : ns + 24 ≤ 7293034) {b : Bool} {jf : Nat → Int32} {hs : Int32} {R : RV} {T : TV} {O : OV} {Y : YV} {S C K : SV} {U D : UV} {v : MV} {A : Nat → Int64} (hA : ALL' hs R O Y S C K U v) (hk : KONT κ Q i nc ns) : AW κ Q 2597 (L0 i) [] (LW b jf hs R T O Y S C K U D v A) nc ns := by
  replace X := CX.swap (z' := z_W_48 nm) X rfl rfl rfl rfl (zo_W_48 nm)
  obtain ⟨i0, i1, i2, i3, i4, i5⟩ := hi
  obtain ⟨rc, Y', S', x, w, h1, h2, hg, hA9⟩ := A_cancel hA (xs (i + 1).toNatClampNeg)
  obtain ⟨A', hM, hA0⟩ := s_L_cancel H (hs, Y, S) A (xs (i + 1).toNatClampNeg) rc x _ (hs, Y', S') h1 hg
  obtain ⟨pk, e0, eq, sb, pu⟩ := vw_yso b (jf := jf) (hs := hs) (R := R) (T := T) (O := O) (Y := Y) (S := S) (C := C) (K := K) (U := U) (D := D) (v := v) (A := A)
  refine go_s 1 X (pc2 := 2598) (st2 := [.ref 0]) rfl ?_
  refine r_arg X SX (i := i) (c9 := 1) (pc2 := 2603) rfl rfl i1 ?_
  refine go_s 1 X (pc2 := 2605) (st2 := [.ref 201, .int (xs (i + 1).toNatClampNeg), .ref 0]) rfl ?_
  refine lcS X _ _ [.int (xs (i + 1).toNatClampNeg)] hM pk e0 eq sb (pu hs Y' S' A') rfl k_L_cancel l_L_321 rfl rfl rfl rfl rfl (fitL hR (by decide) (by decide) (by omega) (by omega)) (Nat.le_of_ble_eq_true rfl) ?_
  refine go_l 2 X (pc2 := 2611) (ls2 := [some (.ref (SB + 201)), some (.ref 0), some (.ref 190), some (.ref 201), some (.int i), some (.int (MVTh w)), none, none, none]) (st2 := [.ref 190]) rfl ?_
  refine r_arg X SX (i := i) (c9 := 1) (pc2 := 2616) rfl rfl i1 ?_
  obtain ⟨pm, em, sm, um⟩ := vw_m b (jf := jf) (hs := hs) (R := R) (T := T) (O := O) (Y := Y') (S := S') (C := C) (K := K) (U := U) (D := D) (v := v) (A := A')
  refine lcV X _ _ (As := [.int (xs (i + 1).toNatClampNeg)]) (H.2.2.2 v (xs (i + 1).toNatClampNeg) x w h2) pm em sm (um w) rfl k_X9_cancel l_L_323 rfl rfl rfl rfl rfl rfl rfl rfl rfl (fitL hR (by decide) (by decide) (by omega) (by omega)) (Nat.le_of_ble_eq_true rfl) ?_
  refine go_l 2 X (pc2 := 2623) (ls2 := [some (.ref (SB + 201)), some (.ref 0), some (.ref 190), some (.ref 201), some (.int i), some (.int (MVTh w)), some (.int x), none, none]) (st2 := [.ref 190]) rfl ?_
  obtain ⟨pt, et, sn, ut⟩ := vw_m b (jf := jf) (hs := hs) (R := R) (T := T) (O := O) (Y := Y') (S := S') (C := C) (K := K) (U := U) (D := D) (v := w) (A := A')
  refine lcV X _ _ (As := []) (hT w (MVTh w) rfl) pt et sn (ut w) rfl k_X9_thrown l_L_193 rfl rfl rfl rfl rfl rfl rfl rfl rfl (fitL hR (by decide) (by decide) (by omega) (by omega)) (Nat.le_of_ble_eq_true rfl) ?_
  refine go_s 1 X (pc2 := 2628) (st2 := [.int (MVTh w), .int (MVTh w)]) rfl ?_
  refine r_icmp_eq X 2633 rfl rfl (fun _ => ?_) (fun h => absurd rfl h)
  refine go_s 1 X (pc2 := 2635) (st2 := [.int (MVTh w)]) rfl ?_
  have fin : AW κ Q 2650 [some (.ref (SB + 201)), some (.ref 0), some (.ref 190), some (.ref 201), some (.int i), some (.int (MVTh w)), some (.int x), none, none] [] (LW b jf hs R T O Y' S' C K U D w A') (nc + 2 + 0 + 0) (ns + 12 + 0 + 0) := go_s 1 X (pc2 := 3130) (st2 := []) rfl (kfin hk hA9 (by omega) (by omega))
  refine r_if_ne X 2650 rfl rfl (fun _ => fin) (fun h0 => ?_)
  refine go_s 2 X (pc2 := 2640) (st2 := [.int 0, .ref 201]) rfl ?_
  refine r_lald X (o := 201) (n := 1) rfl (lw_x b) in01 ?_
  refine AW.eq (st' := [.long (Int32.toInt64 x)]) ?_ rfl rfl (congrArg (fun q => [Value.long q]) (hA0 h0)) rfl
  refine go_s 3 X (pc2 := 2645) (st2 := [.int (lg_cmp (Int32.toInt64 x) (Int32.toInt64 x))]) rfl ?_
  exact r_if_eq X 2650 rfl rfl (fun _ => fin) (fun h => absurd (lg_self _) h)
set_option maxRecDepth 20000 in
set_option maxHeartbeats 2000000 in
theorem W_49 {κ : KX} {Q : State → Prop} {nm : String} (X : CX κ (z_W_h nm)) (hR : κR κ = room_1) {L : Nat} {xs : Nat → Int32} (SX : SCX κ L xs) (hT : H_th) (H : H_49) {i : Int32} (hi : SI L i) {nc ns : Nat} (hnc : nc + 4 ≤ 601024) (hns : ns + 24 ≤ 7293034) {b : Bool} {jf : Nat → Int32} {hs : Int32} {R : RV} {T : TV} {O : OV} {Y : YV} {S C K : SV} {U D : UV} {v : MV} {A : Nat → Int64} (hA : ALL' hs R O Y S C K U v) (hk : KONT κ Q i nc ns) : AW κ Q 2653 (L0 i) [] (LW b jf hs R T O Y S C K U D v A) nc ns := by
  replace X := CX.swap (z' := z_W_49 nm) X rfl rfl rfl rfl (zo_W_49 nm)
  obtain ⟨i0, i1, i2, i3, i4, i5⟩ := hi
  obtain ⟨rc, Y', S', x, w, h1, h2, hg, hA9⟩ := A_changePriority hA (xs (i + 1).toNatClampNeg) (xs (i + 2).toNatClampNeg)
  obtain ⟨A', hM, hA0⟩ := s_L_changePriority H (hs, Y, S) A (xs (i + 1).toNatClampNeg) (xs (i + 2).toNatClampNeg) rc x _ (hs, Y', S') h1 hg
  obtain ⟨pk, e0, eq, sb, pu⟩ := vw_yso b (jf := jf) (hs := hs) (R := R) (T := T) (O := O) (Y := Y) (S := S) (C := C) (K := K) (U := U) (D := D) (v := v) (A := A)
  refine go_s 1 X (pc2 := 2654) (st2 := [.ref 0]) rfl ?_
  refine r_arg X SX (i := i) (c9 := 1) (pc2 := 2659) rfl rfl i1 ?_
  refine r_arg X SX (i := i) (c9 := 2) (pc2 := 2665) rfl rfl i2 ?_
  refine go_s 1 X (pc2 := 2667) (st2 := [.ref 201, .int (xs (i + 2).toNatClampNeg), .int (xs (i + 1).toNatClampNeg), .ref 0]) rfl ?_
  refine lcS X _ _ [.int (xs (i + 1).toNatClampNeg), .int (xs (i + 2).toNatClampNeg)] hM pk e0 eq sb (pu hs Y' S' A') rfl k_L_changePriority l_L_324 rfl rfl rfl rfl rfl (fitL hR (by decide) (by decide) (by omega) (by omega)) (Nat.le_of_ble_eq_true rfl) ?_
  refine go_l 2 X (pc2 := 2673) (ls2 := [some (.ref (SB + 201)), some (.ref 0), some (.ref 190), some (.ref 201), some (.int i), some (.int (MVTh w)), none, none, none]) (st2 := [.ref 190]) rfl ?_
  refine r_arg X SX (i := i) (c9 := 1) (pc2 := 2678) rfl rfl i1 ?_
  refine r_arg X SX (i := i) (c9 := 2) (pc2 := 2684) rfl rfl i2 ?_
  obtain ⟨pm, em, sm, um⟩ := vw_m b (jf := jf) (hs := hs) (R := R) (T := T) (O := O) (Y := Y') (S := S') (C := C) (K := K) (U := U) (D := D) (v := v) (A := A')
  refine lcV X _ _ (As := [.int (xs (i + 1).toNatClampNeg), .int (xs (i + 2).toNatClampNeg)]) (H.2.2.2.2 v (xs (i + 1).toNatClampNeg) (xs (i + 2).toNatClampNeg) x w h2) pm em sm (um w) rfl k_X9_changePriority l_L_326 rfl rfl rfl rfl rfl rfl rfl rfl rfl (fitL hR (by decide) (by decide) (by omega) (by omega)) (Nat.le_of_ble_eq_true rfl) ?_
  refine go_l 2 X (pc2 := 2691) (ls2 := [some (.ref (SB + 201)), some (.ref 0), some (.ref 190), some (.ref 201), some (.int i), some (.int (MVTh w)), some (.int x), none, none]) (st2 := [.ref 190]) rfl ?_
  obtain ⟨pt, et, sn, ut⟩ := vw_m b (jf := jf) (hs := hs) (R := R) (T := T) (O := O) (Y := Y') (S := S') (C := C) (K := K) (U := U) (D := D) (v := w) (A := A')
  refine lcV X _ _ (As := []) (hT w (MVTh w) rfl) pt et sn (ut w) rfl k_X9_thrown l_L_193 rfl rfl rfl rfl rfl rfl rfl rfl rfl (fitL hR (by decide) (by decide) (by omega) (by omega)) (Nat.le_of_ble_eq_true rfl) ?_
  refine go_s 1 X (pc2 := 2696) (st2 := [.int (MVTh w), .int (MVTh w)]) rfl ?_
  refine r_icmp_eq X 2701 rfl rfl (fun _ => ?_) (fun h => absurd rfl h)
  refine go_s 1 X (pc2 := 2703) (st2 := [.int (MVTh w)]) rfl ?_
  have fin : AW κ Q 2718 [some (.ref (SB + 201)), some (.ref 0), some (.ref 190), some (.ref 201), some (.int i), some (.int (MVTh w)), some (.int x), none, none] [] (LW b jf hs R T O Y' S' C K U D w A') (nc + 3 + 0 + 0) (ns + 18 + 0 + 0) := go_s 1 X (pc2 := 3130) (st2 := []) rfl (kfin hk hA9 (by omega) (by omega))
  refine r_if_ne X 2718 rfl rfl (fun _ => fin) (fun h0 => ?_)
  refine go_s 2 X (pc2 := 2708) (st2 := [.int 0, .ref 201]) rfl ?_
  refine r_lald X (o := 201) (n := 1) rfl (lw_x b) in01 ?_
  refine AW.eq (st' := [.long (Int32.toInt64 x)]) ?_ rfl rfl (congrArg (fun q => [Value.long q]) (hA0 h0)) rfl
  refine go_s 3 X (pc2 := 2713) (st2 := [.int (lg_cmp (Int32.toInt64 x) (Int32.toInt64 x))]) rfl ?_
  exact r_if_eq X 2718 rfl rfl (fun _ => fin) (fun h => absurd (lg_self _) h)
set_option maxRecDepth 20000 in
set_option maxHeartbeats 2000000 in
theorem W_50 {κ : KX} {Q : State → Prop} {nm : String} (X : CX κ (z_W_h nm)) (hR : κR κ = room_1) {L : Nat} {xs : Nat → Int32} (SX : SCX κ L xs) (hT : H_th) (H : H_50) {i : Int32} (hi : SI L i) {nc ns : Nat} (hnc : nc + 4 ≤ 601024) (hns : ns + 24 ≤ 7293034) {b : Bool} {jf : Nat → Int32} {hs : Int32} {R : RV} {T : TV} {O : OV} {Y : YV} {S C K : SV} {U D : UV} {v : MV} {A : Nat → Int64} (hA : ALL' hs R O Y S C K U v) (hk : KONT κ Q i nc ns) : AW κ Q 2721 (L0 i) [] (LW b jf hs R T O Y S C K U D v A) nc ns := by
  replace X := CX.swap (z' := z_W_50 nm) X rfl rfl rfl rfl (zo_W_50 nm)
  obtain ⟨i0, i1, i2, i3, i4, i5⟩ := hi
  obtain ⟨rc, Y', S', x, w, h1, h2, hg, hA9⟩ := A_moveJob hA (xs (i + 1).toNatClampNeg) (xs (i + 2).toNatClampNeg)
  obtain ⟨A', hM, hA0⟩ := s_L_moveJob H (hs, Y, S, U) A (xs (i + 1).toNatClampNeg) (xs (i + 2).toNatClampNeg) rc x _ (hs, Y', S', U) h1 hg
  obtain ⟨pk, e0, eq, sb, pu⟩ := vw_ysuo b (jf := jf) (hs := hs) (R := R) (T := T) (O := O) (Y := Y) (S := S) (C := C) (K := K) (U := U) (D := D) (v := v) (A := A)
  refine go_s 1 X (pc2 := 2722) (st2 := [.ref 0]) rfl ?_
  refine r_arg X SX (i := i) (c9 := 1) (pc2 := 2727) rfl rfl i1 ?_
  refine r_arg X SX (i := i) (c9 := 2) (pc2 := 2733) rfl rfl i2 ?_
  refine go_s 1 X (pc2 := 2735) (st2 := [.ref 201, .int (xs (i + 2).toNatClampNeg), .int (xs (i + 1).toNatClampNeg), .ref 0]) rfl ?_
  refine lcS X _ _ [.int (xs (i + 1).toNatClampNeg), .int (xs (i + 2).toNatClampNeg)] hM pk e0 eq sb (pu hs Y' S' U A') rfl k_L_moveJob l_L_327 rfl rfl rfl rfl rfl (fitL hR (by decide) (by decide) (by omega) (by omega)) (Nat.le_of_ble_eq_true rfl) ?_
  refine go_l 2 X (pc2 := 2741) (ls2 := [some (.ref (SB + 201)), some (.ref 0), some (.ref 190), some (.ref 201), some (.int i), some (.int (MVTh w)), none, none, none]) (st2 := [.ref 190]) rfl ?_
  refine r_arg X SX (i := i) (c9 := 1) (pc2 := 2746) rfl rfl i1 ?_
  refine r_arg X SX (i := i) (c9 := 2) (pc2 := 2752) rfl rfl i2 ?_
  obtain ⟨pm, em, sm, um⟩ := vw_m b (jf := jf) (hs := hs) (R := R) (T := T) (O := O) (Y := Y') (S := S') (C := C) (K := K) (U := U) (D := D) (v := v) (A := A')
  refine lcV X _ _ (As := [.int (xs (i + 1).toNatClampNeg), .int (xs (i + 2).toNatClampNeg)]) (H.2.2.2 v (xs (i + 1).toNatClampNeg) (xs (i + 2).toNatClampNeg) x w h2) pm em sm (um w) rfl k_X9_moveJob l_L_329 rfl rfl rfl rfl rfl rfl rfl rfl rfl (fitL hR (by decide) (by decide) (by omega) (by omega)) (Nat.le_of_ble_eq_true rfl) ?_
  refine go_l 2 X (pc2 := 2759) (ls2 := [some (.ref (SB + 201)), some (.ref 0), some (.ref 190), some (.ref 201), some (.int i), some (.int (MVTh w)), some (.int x), none, none]) (st2 := [.ref 190]) rfl ?_
  obtain ⟨pt, et, sn, ut⟩ := vw_m b (jf := jf) (hs := hs) (R := R) (T := T) (O := O) (Y := Y') (S := S') (C := C) (K := K) (U := U) (D := D) (v := w) (A := A')
  refine lcV X _ _ (As := []) (hT w (MVTh w) rfl) pt et sn (ut w) rfl k_X9_thrown l_L_193 rfl rfl rfl rfl rfl rfl rfl rfl rfl (fitL hR (by decide) (by decide) (by omega) (by omega)) (Nat.le_of_ble_eq_true rfl) ?_
  refine go_s 1 X (pc2 := 2764) (st2 := [.int (MVTh w), .int (MVTh w)]) rfl ?_
  refine r_icmp_eq X 2769 rfl rfl (fun _ => ?_) (fun h => absurd rfl h)
  refine go_s 1 X (pc2 := 2771) (st2 := [.int (MVTh w)]) rfl ?_
  have fin : AW κ Q 2786 [some (.ref (SB + 201)), some (.ref 0), some (.ref 190), some (.ref 201), some (.int i), some (.int (MVTh w)), some (.int x), none, none] [] (LW b jf hs R T O Y' S' C K U D w A') (nc + 3 + 0 + 0) (ns + 18 + 0 + 0) := go_s 1 X (pc2 := 3130) (st2 := []) rfl (kfin hk hA9 (by omega) (by omega))
  refine r_if_ne X 2786 rfl rfl (fun _ => fin) (fun h0 => ?_)
  refine go_s 2 X (pc2 := 2776) (st2 := [.int 0, .ref 201]) rfl ?_
  refine r_lald X (o := 201) (n := 1) rfl (lw_x b) in01 ?_
  refine AW.eq (st' := [.long (Int32.toInt64 x)]) ?_ rfl rfl (congrArg (fun q => [Value.long q]) (hA0 h0)) rfl
  refine go_s 3 X (pc2 := 2781) (st2 := [.int (lg_cmp (Int32.toInt64 x) (Int32.toInt64 x))]) rfl ?_
  exact r_if_eq X 2786 rfl rfl (fun _ => fin) (fun h => absurd (lg_self _) h)
set_option maxRecDepth 20000 in
set_option maxHeartbeats 2000000 in
theorem W_51 {κ : KX} {Q : State → Prop} {nm : String} (X : CX κ (z_W_h nm)) (hR : κR κ = room_1) {L : Nat} {xs : Nat → Int32} (SX : SCX κ L xs) (hT : H_th) (H : H_51) {i : Int32} (hi : SI L i) {nc ns : Nat} (hnc : nc + 4 ≤ 601024) (hns : ns + 24 ≤ 7293034) {b : Bool} {jf : Nat → Int32} {hs : Int32} {R : RV} {T : TV} {O : OV} {Y : YV} {S C K : SV} {U D : UV} {v : MV} {A : Nat → Int64} (hA : ALL' hs R O Y S C K U v) (hk : KONT κ Q i nc ns) : AW κ Q 2789 (L0 i) [] (LW b jf hs R T O Y S C K U D v A) nc ns := by
  replace X := CX.swap (z' := z_W_51 nm) X rfl rfl rfl rfl (zo_W_51 nm)
  obtain ⟨i0, i1, i2, i3, i4, i5⟩ := hi
  obtain ⟨rc, Y', S', x, w, h1, h2, hg, hA9⟩ := A_mergeQueues hA (xs (i + 1).toNatClampNeg) (xs (i + 2).toNatClampNeg)
  obtain ⟨A', hM, hA0⟩ := s_L_mergeQueues H (hs, Y, S, U) A (xs (i + 1).toNatClampNeg) (xs (i + 2).toNatClampNeg) rc x _ (hs, Y', S', U) h1 hg
  obtain ⟨pk, e0, eq, sb, pu⟩ := vw_ysuo b (jf := jf) (hs := hs) (R := R) (T := T) (O := O) (Y := Y) (S := S) (C := C) (K := K) (U := U) (D := D) (v := v) (A := A)
  refine go_s 1 X (pc2 := 2790) (st2 := [.ref 0]) rfl ?_
  refine r_arg X SX (i := i) (c9 := 1) (pc2 := 2795) rfl rfl i1 ?_
  refine r_arg X SX (i := i) (c9 := 2) (pc2 := 2801) rfl rfl i2 ?_
  refine go_s 1 X (pc2 := 2803) (st2 := [.ref 201, .int (xs (i + 2).toNatClampNeg), .int (xs (i + 1).toNatClampNeg), .ref 0]) rfl ?_
  refine lcS X _ _ [.int (xs (i + 1).toNatClampNeg), .int (xs (i + 2).toNatClampNeg)] hM pk e0 eq sb (pu hs Y' S' U A') rfl k_L_mergeQueues l_L_330 rfl rfl rfl rfl rfl (fitL hR (by decide) (by decide) (by omega) (by omega)) (Nat.le_of_ble_eq_true rfl) ?_
  refine go_l 2 X (pc2 := 2809) (ls2 := [some (.ref (SB + 201)), some (.ref 0), some (.ref 190), some (.ref 201), some (.int i), some (.int (MVTh w)), none, none, none]) (st2 := [.ref 190]) rfl ?_
  refine r_arg X SX (i := i) (c9 := 1) (pc2 := 2814) rfl rfl i1 ?_
  refine r_arg X SX (i := i) (c9 := 2) (pc2 := 2820) rfl rfl i2 ?_
  obtain ⟨pm, em, sm, um⟩ := vw_m b (jf := jf) (hs := hs) (R := R) (T := T) (O := O) (Y := Y') (S := S') (C := C) (K := K) (U := U) (D := D) (v := v) (A := A')
  refine lcV X _ _ (As := [.int (xs (i + 1).toNatClampNeg), .int (xs (i + 2).toNatClampNeg)]) (H.2.2.2 v (xs (i + 1).toNatClampNeg) (xs (i + 2).toNatClampNeg) x w h2) pm em sm (um w) rfl k_X9_mergeQueues l_L_332 rfl rfl rfl rfl rfl rfl rfl rfl rfl (fitL hR (by decide) (by decide) (by omega) (by omega)) (Nat.le_of_ble_eq_true rfl) ?_
  refine go_l 2 X (pc2 := 2827) (ls2 := [some (.ref (SB + 201)), some (.ref 0), some (.ref 190), some (.ref 201), some (.int i), some (.int (MVTh w)), some (.int x), none, none]) (st2 := [.ref 190]) rfl ?_
  obtain ⟨pt, et, sn, ut⟩ := vw_m b (jf := jf) (hs := hs) (R := R) (T := T) (O := O) (Y := Y') (S := S') (C := C) (K := K) (U := U) (D := D) (v := w) (A := A')
  refine lcV X _ _ (As := []) (hT w (MVTh w) rfl) pt et sn (ut w) rfl k_X9_thrown l_L_193 rfl rfl rfl rfl rfl rfl rfl rfl rfl (fitL hR (by decide) (by decide) (by omega) (by omega)) (Nat.le_of_ble_eq_true rfl) ?_
  refine go_s 1 X (pc2 := 2832) (st2 := [.int (MVTh w), .int (MVTh w)]) rfl ?_
  refine r_icmp_eq X 2837 rfl rfl (fun _ => ?_) (fun h => absurd rfl h)
  refine go_s 1 X (pc2 := 2839) (st2 := [.int (MVTh w)]) rfl ?_
  have fin : AW κ Q 2854 [some (.ref (SB + 201)), some (.ref 0), some (.ref 190), some (.ref 201), some (.int i), some (.int (MVTh w)), some (.int x), none, none] [] (LW b jf hs R T O Y' S' C K U D w A') (nc + 3 + 0 + 0) (ns + 18 + 0 + 0) := go_s 1 X (pc2 := 3130) (st2 := []) rfl (kfin hk hA9 (by omega) (by omega))
  refine r_if_ne X 2854 rfl rfl (fun _ => fin) (fun h0 => ?_)
  refine go_s 2 X (pc2 := 2844) (st2 := [.int 0, .ref 201]) rfl ?_
  refine r_lald X (o := 201) (n := 1) rfl (lw_x b) in01 ?_
  refine AW.eq (st' := [.long (Int32.toInt64 x)]) ?_ rfl rfl (congrArg (fun q => [Value.long q]) (hA0 h0)) rfl
  refine go_s 3 X (pc2 := 2849) (st2 := [.int (lg_cmp (Int32.toInt64 x) (Int32.toInt64 x))]) rfl ?_
  exact r_if_eq X 2854 rfl rfl (fun _ => fin) (fun h => absurd (lg_self _) h)
set_option maxRecDepth 20000 in
set_option maxHeartbeats 2000000 in
theorem W_52 {κ : KX} {Q : State → Prop} {nm : String} (X : CX κ (z_W_h nm)) (hR : κR κ = room_1) {L : Nat} {xs : Nat → Int32} (SX : SCX κ L xs) (hT : H_th) (H : H_52) {i : Int32} (hi : SI L i) {nc ns : Nat} (hnc : nc + 4 ≤ 601024) (hns : ns + 24 ≤ 7293034) {b : Bool} {jf : Nat → Int32} {hs : Int32} {R : RV} {T : TV} {O : OV} {Y : YV} {S C K : SV} {U D : UV} {v : MV} {A : Nat → Int64} (hA : ALL' hs R O Y S C K U v) (hk : KONT κ Q i nc ns) : AW κ Q 2857 (L0 i) [] (LW b jf hs R T O Y S C K U D v A) nc ns := by
  replace X := CX.swap (z' := z_W_52 nm) X rfl rfl rfl rfl (zo_W_52 nm)
  obtain ⟨i0, i1, i2, i3, i4, i5⟩ := hi
  obtain ⟨q, hq⟩ : ∃ q : Bool, q = decide (¬ (xs (i + 2).toNatClampNeg) = 0) := ⟨_, rfl⟩
  have hq0 : (xs (i + 2).toNatClampNeg) = 0 → (0 : Int32) = b2i q := fun e => by rw [hq, e]; rfl
  have hq1 : ¬ (xs (i + 2).toNatClampNeg) = 0 → (1 : Int32) = b2i q := fun e => by rw [hq, decide_eq_true e]; rfl
  obtain ⟨rc, Y', S', x, w, h1, h2, hg, hA9⟩ := A_setPaused hA (xs (i + 1).toNatClampNeg) q
  obtain ⟨A', hM, hA0⟩ := s_L_setPaused H (hs, Y, S, U) A (xs (i + 1).toNatClampNeg) (b2i q) rc x _ (hs, Y', S', U) h1 hg
  obtain ⟨pk, e0, eq, sb, pu⟩ := vw_ysuo b (jf := jf) (hs := hs) (R := R) (T := T) (O := O) (Y := Y) (S := S) (C := C) (K := K) (U := U) (D := D) (v := v) (A := A)
  refine go_s 1 X (pc2 := 2858) (st2 := [.ref 0]) rfl ?_
  refine r_arg X SX (i := i) (c9 := 1) (pc2 := 2863) rfl rfl i1 ?_
  refine r_arg X SX (i := i) (c9 := 2) (pc2 := 2869) rfl rfl i2 ?_
  refine setp_join X 2877 2878 2873 rfl rfl rfl rfl hq0 hq1 rfl ?_
  refine go_s 1 X (pc2 := 2879) (st2 := [.ref 201, .int (b2i q), .int (xs (i + 1).toNatClampNeg), .ref 0]) rfl ?_
  refine lcS X _ _ [.int (xs (i + 1).toNatClampNeg), .int (b2i q)] hM pk e0 eq sb (pu hs Y' S' U A') rfl k_L_setPaused l_L_333 rfl rfl rfl rfl rfl (fitL hR (by decide) (by decide) (by omega) (by omega)) (Nat.le_of_ble_eq_true rfl) ?_
  refine go_l 2 X (pc2 := 2885) (ls2 := [some (.ref (SB + 201)), some (.ref 0), some (.ref 190), some (.ref 201), some (.int i), some (.int (MVTh w)), none, none, none]) (st2 := [.ref 190]) rfl ?_
  refine r_arg X SX (i := i) (c9 := 1) (pc2 := 2890) rfl rfl i1 ?_
  refine r_arg X SX (i := i) (c9 := 2) (pc2 := 2896) rfl rfl i2 ?_
  refine setp_join X 2904 2905 2900 rfl rfl rfl rfl hq0 hq1 rfl ?_
  obtain ⟨pm, em, sm, um⟩ := vw_m b (jf := jf) (hs := hs) (R := R) (T := T) (O := O) (Y := Y') (S := S') (C := C) (K := K) (U := U) (D := D) (v := v) (A := A')
  refine lcV X _ _ (As := [.int (xs (i + 1).toNatClampNeg), .int (b2i q)]) (H.2.2 v (xs (i + 1).toNatClampNeg) (b2i q) x w h2) pm em sm (um w) rfl k_X9_setPaused l_L_336 rfl rfl rfl rfl rfl rfl rfl rfl rfl (fitL hR (by decide) (by decide) (by omega) (by omega)) (Nat.le_of_ble_eq_true rfl) ?_
  refine go_l 2 X (pc2 := 2911) (ls2 := [some (.ref (SB + 201)), some (.ref 0), some (.ref 190), some (.ref 201), some (.int i), some (.int (MVTh w)), some (.int x), none, none]) (st2 := [.ref 190]) rfl ?_
  obtain ⟨pt, et, sn, ut⟩ := vw_m b (jf := jf) (hs := hs) (R := R) (T := T) (O := O) (Y := Y') (S := S') (C := C) (K := K) (U := U) (D := D) (v := w) (A := A')
  refine lcV X _ _ (As := []) (hT w (MVTh w) rfl) pt et sn (ut w) rfl k_X9_thrown l_L_193 rfl rfl rfl rfl rfl rfl rfl rfl rfl (fitL hR (by decide) (by decide) (by omega) (by omega)) (Nat.le_of_ble_eq_true rfl) ?_
  refine go_s 1 X (pc2 := 2916) (st2 := [.int (MVTh w), .int (MVTh w)]) rfl ?_
  refine r_icmp_eq X 2921 rfl rfl (fun _ => ?_) (fun h => absurd rfl h)
  refine go_s 1 X (pc2 := 2923) (st2 := [.int (MVTh w)]) rfl ?_
  have fin : AW κ Q 2945 [some (.ref (SB + 201)), some (.ref 0), some (.ref 190), some (.ref 201), some (.int i), some (.int (MVTh w)), some (.int x), none, none] [] (LW b jf hs R T O Y' S' C K U D w A') (nc + 1 + 0 + 0) (ns + 6 + 0 + 0) := go_s 1 X (pc2 := 3130) (st2 := []) rfl (kfin hk hA9 (by omega) (by omega))
  refine r_if_ne X 2945 rfl rfl (fun _ => fin) (fun h0 => ?_)
  refine go_s 2 X (pc2 := 2928) (st2 := [.int 0, .ref 201]) rfl ?_
  refine r_lald X (o := 201) (n := 1) rfl (lw_x b) in01 ?_
  refine AW.eq (st' := [.long (if x = 0 then 0 else 1)]) ?_ rfl rfl (congrArg (fun q => [Value.long q]) (hA0 h0)) rfl
  refine go_s 1 X (pc2 := 2931) (st2 := [.int x, .long (if x = 0 then 0 else 1)]) rfl ?_
  refine r_if_eq X 2938 rfl rfl (fun hx => ?_) (fun hx => ?_)
  · refine AW.eq (st' := [.long 0]) ?_ rfl rfl (by rw [if_pos hx]) rfl
    refine go_s 2 X (pc2 := 2940) (st2 := [.int (lg_cmp 0 0)]) rfl ?_
    exact r_if_eq X 2945 rfl rfl (fun _ => fin) (fun h => absurd (lg_self _) h)
  · refine AW.eq (st' := [.long 1]) ?_ rfl rfl (by rw [if_neg hx]) rfl
    refine go_s 3 X (pc2 := 2940) (st2 := [.int (lg_cmp 1 1)]) rfl ?_
    exact r_if_eq X 2945 rfl rfl (fun _ => fin) (fun h => absurd (lg_self _) h)
set_option maxRecDepth 20000 in
set_option maxHeartbeats 2000000 in
theorem W_53 {κ : KX} {Q : State → Prop} {nm : String} (X : CX κ (z_W_h nm)) (hR : κR κ = room_1) {L : Nat} {xs : Nat → Int32} (SX : SCX κ L xs) (hT : H_th) (H : H_53) {i : Int32} (hi : SI L i) {nc ns : Nat} (hnc : nc + 4 ≤ 601024) (hns : ns + 24 ≤ 7293034) {b : Bool} {jf : Nat → Int32} {hs : Int32} {R : RV} {T : TV} {O : OV} {Y : YV} {S C K : SV} {U D : UV} {v : MV} {A : Nat → Int64} (hA : ALL' hs R O Y S C K U v) (hk : KONT κ Q i nc ns) : AW κ Q 2948 (L0 i) [] (LW b jf hs R T O Y S C K U D v A) nc ns := by
  replace X := CX.swap (z' := z_W_53 nm) X rfl rfl rfl rfl (zo_W_53 nm)
  obtain ⟨i0, i1, i2, i3, i4, i5⟩ := hi
  obtain ⟨rc, Y', S', x, w, h1, h2, hg, hA9⟩ := A_undo hA
  obtain ⟨A', hM, hA0⟩ := s_L_undo H (hs, Y, S) A  rc x _ (hs, Y', S') h1 hg
  obtain ⟨pk, e0, eq, sb, pu⟩ := vw_yso b (jf := jf) (hs := hs) (R := R) (T := T) (O := O) (Y := Y) (S := S) (C := C) (K := K) (U := U) (D := D) (v := v) (A := A)
  refine go_s 1 X (pc2 := 2949) (st2 := [.ref 0]) rfl ?_
  refine go_s 1 X (pc2 := 2950) (st2 := [.ref 201, .ref 0]) rfl ?_
  refine lcS X _ _ [] hM pk e0 eq sb (pu hs Y' S' A') rfl k_L_undo l_L_337 rfl rfl rfl rfl rfl (fitL hR (by decide) (by decide) (by omega) (by omega)) (Nat.le_of_ble_eq_true rfl) ?_
  refine go_l 2 X (pc2 := 2956) (ls2 := [some (.ref (SB + 201)), some (.ref 0), some (.ref 190), some (.ref 201), some (.int i), some (.int (MVTh w)), none, none, none]) (st2 := [.ref 190]) rfl ?_
  obtain ⟨pm, em, sm, um⟩ := vw_m b (jf := jf) (hs := hs) (R := R) (T := T) (O := O) (Y := Y') (S := S') (C := C) (K := K) (U := U) (D := D) (v := v) (A := A')
  refine lcV X _ _ (As := []) (H.2.2 v  x w h2) pm em sm (um w) rfl k_X9_undo l_L_340 rfl rfl rfl rfl rfl rfl rfl rfl rfl (fitL hR (by decide) (by decide) (by omega) (by omega)) (Nat.le_of_ble_eq_true rfl) ?_
  refine go_l 2 X (pc2 := 2962) (ls2 := [some (.ref (SB + 201)), some (.ref 0), some (.ref 190), some (.ref 201), some (.int i), some (.int (MVTh w)), some (.int x), none, none]) (st2 := [.ref 190]) rfl ?_
  obtain ⟨pt, et, sn, ut⟩ := vw_m b (jf := jf) (hs := hs) (R := R) (T := T) (O := O) (Y := Y') (S := S') (C := C) (K := K) (U := U) (D := D) (v := w) (A := A')
  refine lcV X _ _ (As := []) (hT w (MVTh w) rfl) pt et sn (ut w) rfl k_X9_thrown l_L_193 rfl rfl rfl rfl rfl rfl rfl rfl rfl (fitL hR (by decide) (by decide) (by omega) (by omega)) (Nat.le_of_ble_eq_true rfl) ?_
  refine go_s 1 X (pc2 := 2967) (st2 := [.int (MVTh w), .int (MVTh w)]) rfl ?_
  refine r_icmp_eq X 2972 rfl rfl (fun _ => ?_) (fun h => absurd rfl h)
  refine go_s 1 X (pc2 := 2974) (st2 := [.int (MVTh w)]) rfl ?_
  have fin : AW κ Q 2989 [some (.ref (SB + 201)), some (.ref 0), some (.ref 190), some (.ref 201), some (.int i), some (.int (MVTh w)), some (.int x), none, none] [] (LW b jf hs R T O Y' S' C K U D w A') (nc + 1 + 0 + 0) (ns + 6 + 0 + 0) := go_s 1 X (pc2 := 3130) (st2 := []) rfl (kfin hk hA9 (by omega) (by omega))
  refine r_if_ne X 2989 rfl rfl (fun _ => fin) (fun h0 => ?_)
  refine go_s 2 X (pc2 := 2979) (st2 := [.int 0, .ref 201]) rfl ?_
  refine r_lald X (o := 201) (n := 1) rfl (lw_x b) in01 ?_
  refine AW.eq (st' := [.long (Int32.toInt64 x)]) ?_ rfl rfl (congrArg (fun q => [Value.long q]) (hA0 h0)) rfl
  refine go_s 3 X (pc2 := 2984) (st2 := [.int (lg_cmp (Int32.toInt64 x) (Int32.toInt64 x))]) rfl ?_
  exact r_if_eq X 2989 rfl rfl (fun _ => fin) (fun h => absurd (lg_self _) h)
set_option maxRecDepth 20000 in
set_option maxHeartbeats 2000000 in
theorem W_54 {κ : KX} {Q : State → Prop} {nm : String} (X : CX κ (z_W_h nm)) (hR : κR κ = room_1) {L : Nat} {xs : Nat → Int32} (SX : SCX κ L xs) (hT : H_th) (H : H_54) {i : Int32} (hi : SI L i) {nc ns : Nat} (hnc : nc + 4 ≤ 601024) (hns : ns + 24 ≤ 7293034) {b : Bool} {jf : Nat → Int32} {hs : Int32} {R : RV} {T : TV} {O : OV} {Y : YV} {S C K : SV} {U D : UV} {v : MV} {A : Nat → Int64} (hA : ALL' hs R O Y S C K U v) (hk : KONT κ Q i nc ns) : AW κ Q 2992 (L0 i) [] (LW b jf hs R T O Y S C K U D v A) nc ns := by
  replace X := CX.swap (z' := z_W_54 nm) X rfl rfl rfl rfl (zo_W_54 nm)
  obtain ⟨i0, i1, i2, i3, i4, i5⟩ := hi
  obtain ⟨rc, O', x, w, h1, h2, hg, hA9⟩ := A_writeHeap hA (xs (i + 1).toNatClampNeg)
  obtain ⟨A', hM, hA0⟩ := s_L_writeHeap H (hs, O, S, U) A (xs (i + 1).toNatClampNeg) rc x _ (hs, O', S, U) h1 hg
  obtain ⟨pk, e0, eq, sb, pu⟩ := vw_osuo b (jf := jf) (hs := hs) (R := R) (T := T) (O := O) (Y := Y) (S := S) (C := C) (K := K) (U := U) (D := D) (v := v) (A := A)
  refine go_s 1 X (pc2 := 2993) (st2 := [.ref 0]) rfl ?_
  refine r_arg X SX (i := i) (c9 := 1) (pc2 := 2998) rfl rfl i1 ?_
  refine go_s 1 X (pc2 := 3000) (st2 := [.ref 201, .int (xs (i + 1).toNatClampNeg), .ref 0]) rfl ?_
  refine lcS X _ _ [.int (xs (i + 1).toNatClampNeg)] hM pk e0 eq sb (pu hs O' S U A') rfl k_L_writeHeap l_L_341 rfl rfl rfl rfl rfl (fitL hR (by decide) (by decide) (by omega) (by omega)) (Nat.le_of_ble_eq_true rfl) ?_
  refine go_l 2 X (pc2 := 3006) (ls2 := [some (.ref (SB + 201)), some (.ref 0), some (.ref 190), some (.ref 201), some (.int i), some (.int (MVTh w)), none, none, none]) (st2 := [.ref 190]) rfl ?_
  refine r_arg X SX (i := i) (c9 := 1) (pc2 := 3011) rfl rfl i1 ?_
  obtain ⟨pm, em, sm, um⟩ := vw_m b (jf := jf) (hs := hs) (R := R) (T := T) (O := O') (Y := Y) (S := S) (C := C) (K := K) (U := U) (D := D) (v := v) (A := A')
  refine lcV X _ _ (As := [.int (xs (i + 1).toNatClampNeg)]) (H.2.2 v (xs (i + 1).toNatClampNeg) x w h2) pm em sm (um w) rfl k_X9_writeHeap l_L_343 rfl rfl rfl rfl rfl rfl rfl rfl rfl (fitL hR (by decide) (by decide) (by omega) (by omega)) (Nat.le_of_ble_eq_true rfl) ?_
  refine go_l 2 X (pc2 := 3018) (ls2 := [some (.ref (SB + 201)), some (.ref 0), some (.ref 190), some (.ref 201), some (.int i), some (.int (MVTh w)), some (.int x), none, none]) (st2 := [.ref 190]) rfl ?_
  obtain ⟨pt, et, sn, ut⟩ := vw_m b (jf := jf) (hs := hs) (R := R) (T := T) (O := O') (Y := Y) (S := S) (C := C) (K := K) (U := U) (D := D) (v := w) (A := A')
  refine lcV X _ _ (As := []) (hT w (MVTh w) rfl) pt et sn (ut w) rfl k_X9_thrown l_L_193 rfl rfl rfl rfl rfl rfl rfl rfl rfl (fitL hR (by decide) (by decide) (by omega) (by omega)) (Nat.le_of_ble_eq_true rfl) ?_
  refine go_s 1 X (pc2 := 3023) (st2 := [.int (MVTh w), .int (MVTh w)]) rfl ?_
  refine r_icmp_eq X 3028 rfl rfl (fun _ => ?_) (fun h => absurd rfl h)
  refine go_s 1 X (pc2 := 3030) (st2 := [.int (MVTh w)]) rfl ?_
  have fin : AW κ Q 3045 [some (.ref (SB + 201)), some (.ref 0), some (.ref 190), some (.ref 201), some (.int i), some (.int (MVTh w)), some (.int x), none, none] [] (LW b jf hs R T O' Y S C K U D w A') (nc + 1 + 0 + 0) (ns + 6 + 0 + 0) := go_s 1 X (pc2 := 3130) (st2 := []) rfl (kfin hk hA9 (by omega) (by omega))
  refine r_if_ne X 3045 rfl rfl (fun _ => fin) (fun h0 => ?_)
  refine go_s 2 X (pc2 := 3035) (st2 := [.int 0, .ref 201]) rfl ?_
  refine r_lald X (o := 201) (n := 1) rfl (lw_x b) in01 ?_
  refine AW.eq (st' := [.long (Int32.toInt64 x)]) ?_ rfl rfl (congrArg (fun q => [Value.long q]) (hA0 h0)) rfl
  refine go_s 3 X (pc2 := 3040) (st2 := [.int (lg_cmp (Int32.toInt64 x) (Int32.toInt64 x))]) rfl ?_
  exact r_if_eq X 3045 rfl rfl (fun _ => fin) (fun h => absurd (lg_self _) h)
set_option maxRecDepth 20000 in
set_option maxHeartbeats 2000000 in
theorem W_55 {κ : KX} {Q : State → Prop} {nm : String} (X : CX κ (z_W_h nm)) (hR : κR κ = room_1) {L : Nat} {xs : Nat → Int32} (SX : SCX κ L xs) (hT : H_th) (H : H_55) {i : Int32} (hi : SI L i) {nc ns : Nat} (hnc : nc + 4 ≤ 601024) (hns : ns + 24 ≤ 7293034) {b : Bool} {jf : Nat → Int32} {hs : Int32} {R : RV} {T : TV} {O : OV} {Y : YV} {S C K : SV} {U D : UV} {v : MV} {A : Nat → Int64} (hA : ALL' hs R O Y S C K U v) (hk : KONT κ Q i nc ns) : AW κ Q 3048 (L0 i) [] (LW b jf hs R T O Y S C K U D v A) nc ns := by
  replace X := CX.swap (z' := z_W_55 nm) X rfl rfl rfl rfl (zo_W_55 nm)
  obtain ⟨i0, i1, i2, i3, i4, i5⟩ := hi
  obtain ⟨x, w, h1, h2, hA9⟩ := A_outputByte hA (xs (i + 1).toNatClampNeg)
  obtain ⟨pk, e0, sb, pu⟩ := vw_o b (jf := jf) (hs := hs) (R := R) (T := T) (O := O) (Y := Y) (S := S) (C := C) (K := K) (U := U) (D := D) (v := v) (A := A)
  refine go_s 1 X (pc2 := 3049) (st2 := [.ref 0]) rfl ?_
  refine r_arg X SX (i := i) (c9 := 1) (pc2 := 3054) rfl rfl i1 ?_
  refine lcV X _ _ (As := [.int (xs (i + 1).toNatClampNeg)]) (H.1 (hs, O) (xs (i + 1).toNatClampNeg) x h1) pk e0 sb (pu hs O) rfl k_X8_outputByte l_L_344 rfl rfl rfl rfl rfl rfl rfl rfl rfl (fitL hR (by decide) (by decide) (by omega) (by omega)) (Nat.le_of_ble_eq_true rfl) ?_
  refine go_s 1 X (pc2 := 3059) (st2 := [.ref 190, .int x]) rfl ?_
  refine r_arg X SX (i := i) (c9 := 1) (pc2 := 3064) rfl rfl i1 ?_
  obtain ⟨pm, em, sm, um⟩ := vw_m b (jf := jf) (hs := hs) (R := R) (T := T) (O := O) (Y := Y) (S := S) (C := C) (K := K) (U := U) (D := D) (v := v) (A := A)
  refine lcV X _ _ (As := [.int (xs (i + 1).toNatClampNeg)]) (H.2 v (xs (i + 1).toNatClampNeg) x w h2) pm em sm (um w) rfl k_X9_outputByte l_L_347 rfl rfl rfl rfl rfl rfl rfl rfl rfl (fitL hR (by decide) (by decide) (by omega) (by omega)) (Nat.le_of_ble_eq_true rfl) ?_
  exact r_icmp_eq X 3130 rfl rfl (fun _ => kfin hk hA9 (by omega) (by omega)) (fun h => absurd rfl h)
set_option maxRecDepth 20000 in
set_option maxHeartbeats 2000000 in
theorem W_56 {κ : KX} {Q : State → Prop} {nm : String} (X : CX κ (z_W_h nm)) (hR : κR κ = room_1) {L : Nat} {xs : Nat → Int32} (SX : SCX κ L xs) (hT : H_th) (H : H_56) {i : Int32} (hi : SI L i) {nc ns : Nat} (hnc : nc + 4 ≤ 601024) (hns : ns + 24 ≤ 7293034) {b : Bool} {jf : Nat → Int32} {hs : Int32} {R : RV} {T : TV} {O : OV} {Y : YV} {S C K : SV} {U D : UV} {v : MV} {A : Nat → Int64} (hA : ALL' hs R O Y S C K U v) (hk : KONT κ Q i nc ns) : AW κ Q 3073 (L0 i) [] (LW b jf hs R T O Y S C K U D v A) nc ns := by
  replace X := CX.swap (z' := z_W_56 nm) X rfl rfl rfl rfl (zo_W_56 nm)
  obtain ⟨i0, i1, i2, i3, i4, i5⟩ := hi
  obtain ⟨r, K', w, h1, h2, hA9⟩ := A_saveState hA
  obtain ⟨pk, e0, sb, pu⟩ := vw_sk b (jf := jf) (hs := hs) (R := R) (T := T) (O := O) (Y := Y) (S := S) (C := C) (K := K) (U := U) (D := D) (v := v) (A := A)
  refine go_s 1 X (pc2 := 3074) (st2 := [.ref 0]) rfl ?_
  refine lcV X _ _ (As := []) (H.1 (hs, S, K)  r (1, S, K') h1) pk e0 sb (pu 1 S K') rfl k_X8_saveState l_L_348 rfl rfl rfl rfl rfl rfl rfl rfl rfl (fitL hR (by decide) (by decide) (by omega) (by omega)) (Nat.le_of_ble_eq_true rfl) ?_
  refine go_s 1 X (pc2 := 3078) (st2 := [.ref 190, .int r]) rfl ?_
  obtain ⟨pm, em, sm, um⟩ := vw_m b (jf := jf) (hs := 1) (R := R) (T := T) (O := O) (Y := Y) (S := S) (C := C) (K := K') (U := U) (D := D) (v := v) (A := A)
  refine lcV X _ _ (As := []) (H.2 v  r w h2) pm em sm (um w) rfl k_X9_saveState l_L_351 rfl rfl rfl rfl rfl rfl rfl rfl rfl (fitL hR (by decide) (by decide) (by omega) (by omega)) (Nat.le_of_ble_eq_true rfl) ?_
  exact r_icmp_eq X 3130 rfl rfl (fun _ => kfin hk hA9 (by omega) (by omega)) (fun h => absurd rfl h)
set_option maxRecDepth 20000 in
set_option maxHeartbeats 2000000 in
theorem W_57 {κ : KX} {Q : State → Prop} {nm : String} (X : CX κ (z_W_h nm)) (hR : κR κ = room_1) {L : Nat} {xs : Nat → Int32} (SX : SCX κ L xs) (hT : H_th) (H : H_57) {i : Int32} (hi : SI L i) {nc ns : Nat} (hnc : nc + 4 ≤ 601024) (hns : ns + 24 ≤ 7293034) {b : Bool} {jf : Nat → Int32} {hs : Int32} {R : RV} {T : TV} {O : OV} {Y : YV} {S C K : SV} {U D : UV} {v : MV} {A : Nat → Int64} (hA : ALL' hs R O Y S C K U v) (hk : KONT κ Q i nc ns) : AW κ Q 3086 (L0 i) [] (LW b jf hs R T O Y S C K U D v A) nc ns := by
  replace X := CX.swap (z' := z_W_57 nm) X rfl rfl rfl rfl (zo_W_57 nm)
  obtain ⟨i0, i1, i2, i3, i4, i5⟩ := hi
  obtain ⟨rc, Y', S', K', x, w, h1, h2, hg, hA9⟩ := A_restoreState hA
  obtain ⟨A', hM, hA0⟩ := s_L_restoreState H (hs, Y, S, K) A  rc x _ (hs, Y', S', K') h1 hg
  obtain ⟨pk, e0, eq, sb, pu⟩ := vw_ysko b (jf := jf) (hs := hs) (R := R) (T := T) (O := O) (Y := Y) (S := S) (C := C) (K := K) (U := U) (D := D) (v := v) (A := A)
  refine go_s 1 X (pc2 := 3087) (st2 := [.ref 0]) rfl ?_
  refine go_s 1 X (pc2 := 3088) (st2 := [.ref 201, .ref 0]) rfl ?_
  refine lcS X _ _ [] hM pk e0 eq sb (pu hs Y' S' K' A') rfl k_L_restoreState l_L_352 rfl rfl rfl rfl rfl (fitL hR (by decide) (by decide) (by omega) (by omega)) (Nat.le_of_ble_eq_true rfl) ?_
  refine go_l 2 X (pc2 := 3094) (ls2 := [some (.ref (SB + 201)), some (.ref 0), some (.ref 190), some (.ref 201), some (.int i), some (.int (MVTh w)), none, none, none]) (st2 := [.ref 190]) rfl ?_
  obtain ⟨pm, em, sm, um⟩ := vw_m b (jf := jf) (hs := hs) (R := R) (T := T) (O := O) (Y := Y') (S := S') (C := C) (K := K') (U := U) (D := D) (v := v) (A := A')
  refine lcV X _ _ (As := []) (H.2.2 v  x w h2) pm em sm (um w) rfl k_X9_restoreState l_L_354 rfl rfl rfl rfl rfl rfl rfl rfl rfl (fitL hR (by decide) (by decide) (by omega) (by omega)) (Nat.le_of_ble_eq_true rfl) ?_
  refine go_l 2 X (pc2 := 3100) (ls2 := [some (.ref (SB + 201)), some (.ref 0), some (.ref 190), some (.ref 201), some (.int i), some (.int (MVTh w)), some (.int x), none, none]) (st2 := [.ref 190]) rfl ?_
  obtain ⟨pt, et, sn, ut⟩ := vw_m b (jf := jf) (hs := hs) (R := R) (T := T) (O := O) (Y := Y') (S := S') (C := C) (K := K') (U := U) (D := D) (v := w) (A := A')
  refine lcV X _ _ (As := []) (hT w (MVTh w) rfl) pt et sn (ut w) rfl k_X9_thrown l_L_193 rfl rfl rfl rfl rfl rfl rfl rfl rfl (fitL hR (by decide) (by decide) (by omega) (by omega)) (Nat.le_of_ble_eq_true rfl) ?_
  refine go_s 1 X (pc2 := 3105) (st2 := [.int (MVTh w), .int (MVTh w)]) rfl ?_
  refine r_icmp_eq X 3110 rfl rfl (fun _ => ?_) (fun h => absurd rfl h)
  refine go_s 1 X (pc2 := 3112) (st2 := [.int (MVTh w)]) rfl ?_
  have fin : AW κ Q 3127 [some (.ref (SB + 201)), some (.ref 0), some (.ref 190), some (.ref 201), some (.int i), some (.int (MVTh w)), some (.int x), none, none] [] (LW b jf hs R T O Y' S' C K' U D w A') (nc + 1 + 0 + 0) (ns + 6 + 0 + 0) := go_s 1 X (pc2 := 3130) (st2 := []) rfl (kfin hk hA9 (by omega) (by omega))
  refine r_if_ne X 3127 rfl rfl (fun _ => fin) (fun h0 => ?_)
  refine go_s 2 X (pc2 := 3117) (st2 := [.int 0, .ref 201]) rfl ?_
  refine r_lald X (o := 201) (n := 1) rfl (lw_x b) in01 ?_
  refine AW.eq (st' := [.long (Int32.toInt64 x)]) ?_ rfl rfl (congrArg (fun q => [Value.long q]) (hA0 h0)) rfl
  refine go_s 3 X (pc2 := 3122) (st2 := [.int (lg_cmp (Int32.toInt64 x) (Int32.toInt64 x))]) rfl ?_
  exact r_if_eq X 3127 rfl rfl (fun _ => fin) (fun h => absurd (lg_self _) h)
