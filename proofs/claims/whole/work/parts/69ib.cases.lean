/-! ===== 69i: the cases of the law (gen69h.py) ===== -/
set_option maxRecDepth 20000 in
set_option maxHeartbeats 2000000 in
theorem W_12 {κ : KX} {Q : State → Prop} {nm : String} (X : CX κ (z_W_h nm)) (hR : κR κ = room_1) {L : Nat} {xs : Nat → Int32} (SX : SCX κ L xs) (hT : H_th) (H : H_12) {i : Int32} (hi : SI L i) {nc ns : Nat} (hnc : nc + 4 ≤ 601024) (hns : ns + 24 ≤ 7293034) {b : Bool} {jf : Nat → Int32} {hs : Int32} {R : RV} {T : TV} {O : OV} {Y : YV} {S C K : SV} {U D : UV} {v : MV} {A : Nat → Int64} (hA : ALL' hs R O Y S C K U v) (hk : KONT κ Q i nc ns) : AW κ Q 669 (L0 i) [] (LW b jf hs R T O Y S C K U D v A) nc ns := by
  replace X := CX.swap (z' := z_W_12 nm) X rfl rfl rfl rfl (zo_W_12 nm)
  obtain ⟨i0, i1, i2, i3, i4, i5⟩ := hi
  obtain ⟨rc, x, w, h1, h2, hg, hA9⟩ := A_ownerOf hA (xs (i + 1).toNatClampNeg)
  obtain ⟨A', hM, hA0⟩ := s_L_ownerOf H (hs, S) A (xs (i + 1).toNatClampNeg) rc x _ h1 hg
  obtain ⟨pk, e0, eq, sb, pu⟩ := vw_so b (jf := jf) (hs := hs) (R := R) (T := T) (O := O) (Y := Y) (S := S) (C := C) (K := K) (U := U) (D := D) (v := v) (A := A)
  refine go_s 1 X (pc2 := 670) (st2 := [.ref 0]) rfl ?_
  refine r_arg X SX (i := i) (c9 := 1) (pc2 := 675) rfl rfl i1 ?_
  refine go_s 1 X (pc2 := 677) (st2 := [.ref 201, .int (xs (i + 1).toNatClampNeg), .ref 0]) rfl ?_
  refine lcS X _ _ [.int (xs (i + 1).toNatClampNeg)] hM pk e0 eq sb (pu hs S A') rfl k_L_ownerOf l_L_203 rfl rfl rfl rfl rfl (fitL hR (by decide) (by decide) (by omega) (by omega)) (Nat.le_of_ble_eq_true rfl) ?_
  refine go_l 2 X (pc2 := 683) (ls2 := [some (.ref (SB + 201)), some (.ref 0), some (.ref 190), some (.ref 201), some (.int i), some (.int (MVTh w)), none, none, none]) (st2 := [.ref 190]) rfl ?_
  refine r_arg X SX (i := i) (c9 := 1) (pc2 := 688) rfl rfl i1 ?_
  obtain ⟨pm, em, sm, um⟩ := vw_m b (jf := jf) (hs := hs) (R := R) (T := T) (O := O) (Y := Y) (S := S) (C := C) (K := K) (U := U) (D := D) (v := v) (A := A')
  refine lcV X _ _ (As := [.int (xs (i + 1).toNatClampNeg)]) (H.2.2 v (xs (i + 1).toNatClampNeg) x w h2) pm em sm (um w) rfl k_X9_ownerOf l_L_205 rfl rfl rfl rfl rfl rfl rfl rfl rfl (fitL hR (by decide) (by decide) (by omega) (by omega)) (Nat.le_of_ble_eq_true rfl) ?_
  refine go_l 2 X (pc2 := 695) (ls2 := [some (.ref (SB + 201)), some (.ref 0), some (.ref 190), some (.ref 201), some (.int i), some (.int (MVTh w)), some (.int x), none, none]) (st2 := [.ref 190]) rfl ?_
  obtain ⟨pt, et, sn, ut⟩ := vw_m b (jf := jf) (hs := hs) (R := R) (T := T) (O := O) (Y := Y) (S := S) (C := C) (K := K) (U := U) (D := D) (v := w) (A := A')
  refine lcV X _ _ (As := []) (hT w (MVTh w) rfl) pt et sn (ut w) rfl k_X9_thrown l_L_193 rfl rfl rfl rfl rfl rfl rfl rfl rfl (fitL hR (by decide) (by decide) (by omega) (by omega)) (Nat.le_of_ble_eq_true rfl) ?_
  refine go_s 1 X (pc2 := 700) (st2 := [.int (MVTh w), .int (MVTh w)]) rfl ?_
  refine r_icmp_eq X 705 rfl rfl (fun _ => ?_) (fun h => absurd rfl h)
  refine go_s 1 X (pc2 := 707) (st2 := [.int (MVTh w)]) rfl ?_
  have fin : AW κ Q 722 [some (.ref (SB + 201)), some (.ref 0), some (.ref 190), some (.ref 201), some (.int i), some (.int (MVTh w)), some (.int x), none, none] [] (LW b jf hs R T O Y S C K U D w A') (nc + 1 + 0 + 0) (ns + 6 + 0 + 0) := go_s 1 X (pc2 := 3130) (st2 := []) rfl (kfin hk hA9 (by omega) (by omega))
  refine r_if_ne X 722 rfl rfl (fun _ => fin) (fun h0 => ?_)
  refine go_s 2 X (pc2 := 712) (st2 := [.int 0, .ref 201]) rfl ?_
  refine r_lald X (o := 201) (n := 1) rfl (lw_x b) in01 ?_
  refine AW.eq (st' := [.long (Int32.toInt64 x)]) ?_ rfl rfl (congrArg (fun q => [Value.long q]) (hA0 h0)) rfl
  refine go_s 3 X (pc2 := 717) (st2 := [.int (lg_cmp (Int32.toInt64 x) (Int32.toInt64 x))]) rfl ?_
  exact r_if_eq X 722 rfl rfl (fun _ => fin) (fun h => absurd (lg_self _) h)
set_option maxRecDepth 20000 in
set_option maxHeartbeats 2000000 in
theorem W_13 {κ : KX} {Q : State → Prop} {nm : String} (X : CX κ (z_W_h nm)) (hR : κR κ = room_1) {L : Nat} {xs : Nat → Int32} (SX : SCX κ L xs) (hT : H_th) (H : H_13) {i : Int32} (hi : SI L i) {nc ns : Nat} (hnc : nc + 4 ≤ 601024) (hns : ns + 24 ≤ 7293034) {b : Bool} {jf : Nat → Int32} {hs : Int32} {R : RV} {T : TV} {O : OV} {Y : YV} {S C K : SV} {U D : UV} {v : MV} {A : Nat → Int64} (hA : ALL' hs R O Y S C K U v) (hk : KONT κ Q i nc ns) : AW κ Q 725 (L0 i) [] (LW b jf hs R T O Y S C K U D v A) nc ns := by
  replace X := CX.swap (z' := z_W_13 nm) X rfl rfl rfl rfl (zo_W_13 nm)
  obtain ⟨i0, i1, i2, i3, i4, i5⟩ := hi
  obtain ⟨rc, x, w, h1, h2, hg, hA9⟩ := A_priority hA (xs (i + 1).toNatClampNeg)
  obtain ⟨A', hM, hA0⟩ := s_L_priority H (hs, S) A (xs (i + 1).toNatClampNeg) rc x _ h1 hg
  obtain ⟨pk, e0, eq, sb, pu⟩ := vw_so b (jf := jf) (hs := hs) (R := R) (T := T) (O := O) (Y := Y) (S := S) (C := C) (K := K) (U := U) (D := D) (v := v) (A := A)
  refine go_s 1 X (pc2 := 726) (st2 := [.ref 0]) rfl ?_
  refine r_arg X SX (i := i) (c9 := 1) (pc2 := 731) rfl rfl i1 ?_
  refine go_s 1 X (pc2 := 733) (st2 := [.ref 201, .int (xs (i + 1).toNatClampNeg), .ref 0]) rfl ?_
  refine lcS X _ _ [.int (xs (i + 1).toNatClampNeg)] hM pk e0 eq sb (pu hs S A') rfl k_L_priority l_L_206 rfl rfl rfl rfl rfl (fitL hR (by decide) (by decide) (by omega) (by omega)) (Nat.le_of_ble_eq_true rfl) ?_
  refine go_l 2 X (pc2 := 739) (ls2 := [some (.ref (SB + 201)), some (.ref 0), some (.ref 190), some (.ref 201), some (.int i), some (.int (MVTh w)), none, none, none]) (st2 := [.ref 190]) rfl ?_
  refine r_arg X SX (i := i) (c9 := 1) (pc2 := 744) rfl rfl i1 ?_
  obtain ⟨pm, em, sm, um⟩ := vw_m b (jf := jf) (hs := hs) (R := R) (T := T) (O := O) (Y := Y) (S := S) (C := C) (K := K) (U := U) (D := D) (v := v) (A := A')
  refine lcV X _ _ (As := [.int (xs (i + 1).toNatClampNeg)]) (H.2.2 v (xs (i + 1).toNatClampNeg) x w h2) pm em sm (um w) rfl k_X9_priority l_L_208 rfl rfl rfl rfl rfl rfl rfl rfl rfl (fitL hR (by decide) (by decide) (by omega) (by omega)) (Nat.le_of_ble_eq_true rfl) ?_
  refine go_l 2 X (pc2 := 751) (ls2 := [some (.ref (SB + 201)), some (.ref 0), some (.ref 190), some (.ref 201), some (.int i), some (.int (MVTh w)), some (.int x), none, none]) (st2 := [.ref 190]) rfl ?_
  obtain ⟨pt, et, sn, ut⟩ := vw_m b (jf := jf) (hs := hs) (R := R) (T := T) (O := O) (Y := Y) (S := S) (C := C) (K := K) (U := U) (D := D) (v := w) (A := A')
  refine lcV X _ _ (As := []) (hT w (MVTh w) rfl) pt et sn (ut w) rfl k_X9_thrown l_L_193 rfl rfl rfl rfl rfl rfl rfl rfl rfl (fitL hR (by decide) (by decide) (by omega) (by omega)) (Nat.le_of_ble_eq_true rfl) ?_
  refine go_s 1 X (pc2 := 756) (st2 := [.int (MVTh w), .int (MVTh w)]) rfl ?_
  refine r_icmp_eq X 761 rfl rfl (fun _ => ?_) (fun h => absurd rfl h)
  refine go_s 1 X (pc2 := 763) (st2 := [.int (MVTh w)]) rfl ?_
  have fin : AW κ Q 778 [some (.ref (SB + 201)), some (.ref 0), some (.ref 190), some (.ref 201), some (.int i), some (.int (MVTh w)), some (.int x), none, none] [] (LW b jf hs R T O Y S C K U D w A') (nc + 1 + 0 + 0) (ns + 6 + 0 + 0) := go_s 1 X (pc2 := 3130) (st2 := []) rfl (kfin hk hA9 (by omega) (by omega))
  refine r_if_ne X 778 rfl rfl (fun _ => fin) (fun h0 => ?_)
  refine go_s 2 X (pc2 := 768) (st2 := [.int 0, .ref 201]) rfl ?_
  refine r_lald X (o := 201) (n := 1) rfl (lw_x b) in01 ?_
  refine AW.eq (st' := [.long (Int32.toInt64 x)]) ?_ rfl rfl (congrArg (fun q => [Value.long q]) (hA0 h0)) rfl
  refine go_s 3 X (pc2 := 773) (st2 := [.int (lg_cmp (Int32.toInt64 x) (Int32.toInt64 x))]) rfl ?_
  exact r_if_eq X 778 rfl rfl (fun _ => fin) (fun h => absurd (lg_self _) h)
set_option maxRecDepth 20000 in
set_option maxHeartbeats 2000000 in
theorem W_14 {κ : KX} {Q : State → Prop} {nm : String} (X : CX κ (z_W_h nm)) (hR : κR κ = room_1) {L : Nat} {xs : Nat → Int32} (SX : SCX κ L xs) (hT : H_th) (H : H_14) {i : Int32} (hi : SI L i) {nc ns : Nat} (hnc : nc + 4 ≤ 601024) (hns : ns + 24 ≤ 7293034) {b : Bool} {jf : Nat → Int32} {hs : Int32} {R : RV} {T : TV} {O : OV} {Y : YV} {S C K : SV} {U D : UV} {v : MV} {A : Nat → Int64} (hA : ALL' hs R O Y S C K U v) (hk : KONT κ Q i nc ns) : AW κ Q 781 (L0 i) [] (LW b jf hs R T O Y S C K U D v A) nc ns := by
  replace X := CX.swap (z' := z_W_14 nm) X rfl rfl rfl rfl (zo_W_14 nm)
  obtain ⟨i0, i1, i2, i3, i4, i5⟩ := hi
  obtain ⟨rc, x, w, h1, h2, hg, hA9⟩ := A_pages hA (xs (i + 1).toNatClampNeg)
  obtain ⟨A', hM, hA0⟩ := s_L_pages H (hs, S) A (xs (i + 1).toNatClampNeg) rc x _ h1 hg
  obtain ⟨pk, e0, eq, sb, pu⟩ := vw_so b (jf := jf) (hs := hs) (R := R) (T := T) (O := O) (Y := Y) (S := S) (C := C) (K := K) (U := U) (D := D) (v := v) (A := A)
  refine go_s 1 X (pc2 := 782) (st2 := [.ref 0]) rfl ?_
  refine r_arg X SX (i := i) (c9 := 1) (pc2 := 787) rfl rfl i1 ?_
  refine go_s 1 X (pc2 := 789) (st2 := [.ref 201, .int (xs (i + 1).toNatClampNeg), .ref 0]) rfl ?_
  refine lcS X _ _ [.int (xs (i + 1).toNatClampNeg)] hM pk e0 eq sb (pu hs S A') rfl k_L_pages l_L_209 rfl rfl rfl rfl rfl (fitL hR (by decide) (by decide) (by omega) (by omega)) (Nat.le_of_ble_eq_true rfl) ?_
  refine go_l 2 X (pc2 := 795) (ls2 := [some (.ref (SB + 201)), some (.ref 0), some (.ref 190), some (.ref 201), some (.int i), some (.int (MVTh w)), none, none, none]) (st2 := [.ref 190]) rfl ?_
  refine r_arg X SX (i := i) (c9 := 1) (pc2 := 800) rfl rfl i1 ?_
  obtain ⟨pm, em, sm, um⟩ := vw_m b (jf := jf) (hs := hs) (R := R) (T := T) (O := O) (Y := Y) (S := S) (C := C) (K := K) (U := U) (D := D) (v := v) (A := A')
  refine lcV X _ _ (As := [.int (xs (i + 1).toNatClampNeg)]) (H.2.2 v (xs (i + 1).toNatClampNeg) x w h2) pm em sm (um w) rfl k_X9_pages l_L_211 rfl rfl rfl rfl rfl rfl rfl rfl rfl (fitL hR (by decide) (by decide) (by omega) (by omega)) (Nat.le_of_ble_eq_true rfl) ?_
  refine go_l 2 X (pc2 := 807) (ls2 := [some (.ref (SB + 201)), some (.ref 0), some (.ref 190), some (.ref 201), some (.int i), some (.int (MVTh w)), some (.int x), none, none]) (st2 := [.ref 190]) rfl ?_
  obtain ⟨pt, et, sn, ut⟩ := vw_m b (jf := jf) (hs := hs) (R := R) (T := T) (O := O) (Y := Y) (S := S) (C := C) (K := K) (U := U) (D := D) (v := w) (A := A')
  refine lcV X _ _ (As := []) (hT w (MVTh w) rfl) pt et sn (ut w) rfl k_X9_thrown l_L_193 rfl rfl rfl rfl rfl rfl rfl rfl rfl (fitL hR (by decide) (by decide) (by omega) (by omega)) (Nat.le_of_ble_eq_true rfl) ?_
  refine go_s 1 X (pc2 := 812) (st2 := [.int (MVTh w), .int (MVTh w)]) rfl ?_
  refine r_icmp_eq X 817 rfl rfl (fun _ => ?_) (fun h => absurd rfl h)
  refine go_s 1 X (pc2 := 819) (st2 := [.int (MVTh w)]) rfl ?_
  have fin : AW κ Q 834 [some (.ref (SB + 201)), some (.ref 0), some (.ref 190), some (.ref 201), some (.int i), some (.int (MVTh w)), some (.int x), none, none] [] (LW b jf hs R T O Y S C K U D w A') (nc + 1 + 0 + 0) (ns + 6 + 0 + 0) := go_s 1 X (pc2 := 3130) (st2 := []) rfl (kfin hk hA9 (by omega) (by omega))
  refine r_if_ne X 834 rfl rfl (fun _ => fin) (fun h0 => ?_)
  refine go_s 2 X (pc2 := 824) (st2 := [.int 0, .ref 201]) rfl ?_
  refine r_lald X (o := 201) (n := 1) rfl (lw_x b) in01 ?_
  refine AW.eq (st' := [.long (Int32.toInt64 x)]) ?_ rfl rfl (congrArg (fun q => [Value.long q]) (hA0 h0)) rfl
  refine go_s 3 X (pc2 := 829) (st2 := [.int (lg_cmp (Int32.toInt64 x) (Int32.toInt64 x))]) rfl ?_
  exact r_if_eq X 834 rfl rfl (fun _ => fin) (fun h => absurd (lg_self _) h)
set_option maxRecDepth 20000 in
set_option maxHeartbeats 2000000 in
theorem W_15 {κ : KX} {Q : State → Prop} {nm : String} (X : CX κ (z_W_h nm)) (hR : κR κ = room_1) {L : Nat} {xs : Nat → Int32} (SX : SCX κ L xs) (hT : H_th) (H : H_15) {i : Int32} (hi : SI L i) {nc ns : Nat} (hnc : nc + 4 ≤ 601024) (hns : ns + 24 ≤ 7293034) {b : Bool} {jf : Nat → Int32} {hs : Int32} {R : RV} {T : TV} {O : OV} {Y : YV} {S C K : SV} {U D : UV} {v : MV} {A : Nat → Int64} (hA : ALL' hs R O Y S C K U v) (hk : KONT κ Q i nc ns) : AW κ Q 837 (L0 i) [] (LW b jf hs R T O Y S C K U D v A) nc ns := by
  replace X := CX.swap (z' := z_W_15 nm) X rfl rfl rfl rfl (zo_W_15 nm)
  obtain ⟨i0, i1, i2, i3, i4, i5⟩ := hi
  obtain ⟨rc, x, w, h1, h2, hg, hA9⟩ := A_isWaiting hA (xs (i + 1).toNatClampNeg)
  obtain ⟨A', hM, hA0⟩ := s_L_isWaiting H (hs, S) A (xs (i + 1).toNatClampNeg) rc x _ h1 hg
  obtain ⟨pk, e0, eq, sb, pu⟩ := vw_so b (jf := jf) (hs := hs) (R := R) (T := T) (O := O) (Y := Y) (S := S) (C := C) (K := K) (U := U) (D := D) (v := v) (A := A)
  refine go_s 1 X (pc2 := 838) (st2 := [.ref 0]) rfl ?_
  refine r_arg X SX (i := i) (c9 := 1) (pc2 := 843) rfl rfl i1 ?_
  refine go_s 1 X (pc2 := 845) (st2 := [.ref 201, .int (xs (i + 1).toNatClampNeg), .ref 0]) rfl ?_
  refine lcS X _ _ [.int (xs (i + 1).toNatClampNeg)] hM pk e0 eq sb (pu hs S A') rfl k_L_isWaiting l_L_212 rfl rfl rfl rfl rfl (fitL hR (by decide) (by decide) (by omega) (by omega)) (Nat.le_of_ble_eq_true rfl) ?_
  refine go_l 2 X (pc2 := 851) (ls2 := [some (.ref (SB + 201)), some (.ref 0), some (.ref 190), some (.ref 201), some (.int i), some (.int (MVTh w)), none, none, none]) (st2 := [.ref 190]) rfl ?_
  refine r_arg X SX (i := i) (c9 := 1) (pc2 := 856) rfl rfl i1 ?_
  obtain ⟨pm, em, sm, um⟩ := vw_m b (jf := jf) (hs := hs) (R := R) (T := T) (O := O) (Y := Y) (S := S) (C := C) (K := K) (U := U) (D := D) (v := v) (A := A')
  refine lcV X _ _ (As := [.int (xs (i + 1).toNatClampNeg)]) (H.2.2 v (xs (i + 1).toNatClampNeg) x w h2) pm em sm (um w) rfl k_X9_isWaiting l_L_214 rfl rfl rfl rfl rfl rfl rfl rfl rfl (fitL hR (by decide) (by decide) (by omega) (by omega)) (Nat.le_of_ble_eq_true rfl) ?_
  refine go_l 2 X (pc2 := 863) (ls2 := [some (.ref (SB + 201)), some (.ref 0), some (.ref 190), some (.ref 201), some (.int i), some (.int (MVTh w)), some (.int x), none, none]) (st2 := [.ref 190]) rfl ?_
  obtain ⟨pt, et, sn, ut⟩ := vw_m b (jf := jf) (hs := hs) (R := R) (T := T) (O := O) (Y := Y) (S := S) (C := C) (K := K) (U := U) (D := D) (v := w) (A := A')
  refine lcV X _ _ (As := []) (hT w (MVTh w) rfl) pt et sn (ut w) rfl k_X9_thrown l_L_193 rfl rfl rfl rfl rfl rfl rfl rfl rfl (fitL hR (by decide) (by decide) (by omega) (by omega)) (Nat.le_of_ble_eq_true rfl) ?_
  refine go_s 1 X (pc2 := 868) (st2 := [.int (MVTh w), .int (MVTh w)]) rfl ?_
  refine r_icmp_eq X 873 rfl rfl (fun _ => ?_) (fun h => absurd rfl h)
  refine go_s 1 X (pc2 := 875) (st2 := [.int (MVTh w)]) rfl ?_
  have fin : AW κ Q 897 [some (.ref (SB + 201)), some (.ref 0), some (.ref 190), some (.ref 201), some (.int i), some (.int (MVTh w)), some (.int x), none, none] [] (LW b jf hs R T O Y S C K U D w A') (nc + 1 + 0 + 0) (ns + 6 + 0 + 0) := go_s 1 X (pc2 := 3130) (st2 := []) rfl (kfin hk hA9 (by omega) (by omega))
  refine r_if_ne X 897 rfl rfl (fun _ => fin) (fun h0 => ?_)
  refine go_s 2 X (pc2 := 880) (st2 := [.int 0, .ref 201]) rfl ?_
  refine r_lald X (o := 201) (n := 1) rfl (lw_x b) in01 ?_
  refine AW.eq (st' := [.long (if x = 0 then 0 else 1)]) ?_ rfl rfl (congrArg (fun q => [Value.long q]) (hA0 h0)) rfl
  refine go_s 1 X (pc2 := 883) (st2 := [.int x, .long (if x = 0 then 0 else 1)]) rfl ?_
  refine r_if_eq X 890 rfl rfl (fun hx => ?_) (fun hx => ?_)
  · refine AW.eq (st' := [.long 0]) ?_ rfl rfl (by rw [if_pos hx]) rfl
    refine go_s 2 X (pc2 := 892) (st2 := [.int (lg_cmp 0 0)]) rfl ?_
    exact r_if_eq X 897 rfl rfl (fun _ => fin) (fun h => absurd (lg_self _) h)
  · refine AW.eq (st' := [.long 1]) ?_ rfl rfl (by rw [if_neg hx]) rfl
    refine go_s 3 X (pc2 := 892) (st2 := [.int (lg_cmp 1 1)]) rfl ?_
    exact r_if_eq X 897 rfl rfl (fun _ => fin) (fun h => absurd (lg_self _) h)
set_option maxRecDepth 20000 in
set_option maxHeartbeats 2000000 in
theorem W_16 {κ : KX} {Q : State → Prop} {nm : String} (X : CX κ (z_W_h nm)) (hR : κR κ = room_1) {L : Nat} {xs : Nat → Int32} (SX : SCX κ L xs) (hT : H_th) (H : H_16) {i : Int32} (hi : SI L i) {nc ns : Nat} (hnc : nc + 4 ≤ 601024) (hns : ns + 24 ≤ 7293034) {b : Bool} {jf : Nat → Int32} {hs : Int32} {R : RV} {T : TV} {O : OV} {Y : YV} {S C K : SV} {U D : UV} {v : MV} {A : Nat → Int64} (hA : ALL' hs R O Y S C K U v) (hk : KONT κ Q i nc ns) : AW κ Q 900 (L0 i) [] (LW b jf hs R T O Y S C K U D v A) nc ns := by
  replace X := CX.swap (z' := z_W_16 nm) X rfl rfl rfl rfl (zo_W_16 nm)
  obtain ⟨i0, i1, i2, i3, i4, i5⟩ := hi
  obtain ⟨rc, x, w, h1, h2, hg, hA9⟩ := A_isPrinted hA (xs (i + 1).toNatClampNeg)
  obtain ⟨A', hM, hA0⟩ := s_L_isPrinted H (hs, S) A (xs (i + 1).toNatClampNeg) rc x _ h1 hg
  obtain ⟨pk, e0, eq, sb, pu⟩ := vw_so b (jf := jf) (hs := hs) (R := R) (T := T) (O := O) (Y := Y) (S := S) (C := C) (K := K) (U := U) (D := D) (v := v) (A := A)
  refine go_s 1 X (pc2 := 901) (st2 := [.ref 0]) rfl ?_
  refine r_arg X SX (i := i) (c9 := 1) (pc2 := 906) rfl rfl i1 ?_
  refine go_s 1 X (pc2 := 908) (st2 := [.ref 201, .int (xs (i + 1).toNatClampNeg), .ref 0]) rfl ?_
  refine lcS X _ _ [.int (xs (i + 1).toNatClampNeg)] hM pk e0 eq sb (pu hs S A') rfl k_L_isPrinted l_L_215 rfl rfl rfl rfl rfl (fitL hR (by decide) (by decide) (by omega) (by omega)) (Nat.le_of_ble_eq_true rfl) ?_
  refine go_l 2 X (pc2 := 914) (ls2 := [some (.ref (SB + 201)), some (.ref 0), some (.ref 190), some (.ref 201), some (.int i), some (.int (MVTh w)), none, none, none]) (st2 := [.ref 190]) rfl ?_
  refine r_arg X SX (i := i) (c9 := 1) (pc2 := 919) rfl rfl i1 ?_
  obtain ⟨pm, em, sm, um⟩ := vw_m b (jf := jf) (hs := hs) (R := R) (T := T) (O := O) (Y := Y) (S := S) (C := C) (K := K) (U := U) (D := D) (v := v) (A := A')
  refine lcV X _ _ (As := [.int (xs (i + 1).toNatClampNeg)]) (H.2.2 v (xs (i + 1).toNatClampNeg) x w h2) pm em sm (um w) rfl k_X9_isPrinted l_L_217 rfl rfl rfl rfl rfl rfl rfl rfl rfl (fitL hR (by decide) (by decide) (by omega) (by omega)) (Nat.le_of_ble_eq_true rfl) ?_
  refine go_l 2 X (pc2 := 926) (ls2 := [some (.ref (SB + 201)), some (.ref 0), some (.ref 190), some (.ref 201), some (.int i), some (.int (MVTh w)), some (.int x), none, none]) (st2 := [.ref 190]) rfl ?_
  obtain ⟨pt, et, sn, ut⟩ := vw_m b (jf := jf) (hs := hs) (R := R) (T := T) (O := O) (Y := Y) (S := S) (C := C) (K := K) (U := U) (D := D) (v := w) (A := A')
  refine lcV X _ _ (As := []) (hT w (MVTh w) rfl) pt et sn (ut w) rfl k_X9_thrown l_L_193 rfl rfl rfl rfl rfl rfl rfl rfl rfl (fitL hR (by decide) (by decide) (by omega) (by omega)) (Nat.le_of_ble_eq_true rfl) ?_
  refine go_s 1 X (pc2 := 931) (st2 := [.int (MVTh w), .int (MVTh w)]) rfl ?_
  refine r_icmp_eq X 936 rfl rfl (fun _ => ?_) (fun h => absurd rfl h)
  refine go_s 1 X (pc2 := 938) (st2 := [.int (MVTh w)]) rfl ?_
  have fin : AW κ Q 960 [some (.ref (SB + 201)), some (.ref 0), some (.ref 190), some (.ref 201), some (.int i), some (.int (MVTh w)), some (.int x), none, none] [] (LW b jf hs R T O Y S C K U D w A') (nc + 1 + 0 + 0) (ns + 6 + 0 + 0) := go_s 1 X (pc2 := 3130) (st2 := []) rfl (kfin hk hA9 (by omega) (by omega))
  refine r_if_ne X 960 rfl rfl (fun _ => fin) (fun h0 => ?_)
  refine go_s 2 X (pc2 := 943) (st2 := [.int 0, .ref 201]) rfl ?_
  refine r_lald X (o := 201) (n := 1) rfl (lw_x b) in01 ?_
  refine AW.eq (st' := [.long (if x = 0 then 0 else 1)]) ?_ rfl rfl (congrArg (fun q => [Value.long q]) (hA0 h0)) rfl
  refine go_s 1 X (pc2 := 946) (st2 := [.int x, .long (if x = 0 then 0 else 1)]) rfl ?_
  refine r_if_eq X 953 rfl rfl (fun hx => ?_) (fun hx => ?_)
  · refine AW.eq (st' := [.long 0]) ?_ rfl rfl (by rw [if_pos hx]) rfl
    refine go_s 2 X (pc2 := 955) (st2 := [.int (lg_cmp 0 0)]) rfl ?_
    exact r_if_eq X 960 rfl rfl (fun _ => fin) (fun h => absurd (lg_self _) h)
  · refine AW.eq (st' := [.long 1]) ?_ rfl rfl (by rw [if_neg hx]) rfl
    refine go_s 3 X (pc2 := 955) (st2 := [.int (lg_cmp 1 1)]) rfl ?_
    exact r_if_eq X 960 rfl rfl (fun _ => fin) (fun h => absurd (lg_self _) h)
set_option maxRecDepth 20000 in
set_option maxHeartbeats 2000000 in
theorem W_17 {κ : KX} {Q : State → Prop} {nm : String} (X : CX κ (z_W_h nm)) (hR : κR κ = room_1) {L : Nat} {xs : Nat → Int32} (SX : SCX κ L xs) (hT : H_th) (H : H_17) {i : Int32} (hi : SI L i) {nc ns : Nat} (hnc : nc + 4 ≤ 601024) (hns : ns + 24 ≤ 7293034) {b : Bool} {jf : Nat → Int32} {hs : Int32} {R : RV} {T : TV} {O : OV} {Y : YV} {S C K : SV} {U D : UV} {v : MV} {A : Nat → Int64} (hA : ALL' hs R O Y S C K U v) (hk : KONT κ Q i nc ns) : AW κ Q 963 (L0 i) [] (LW b jf hs R T O Y S C K U D v A) nc ns := by
  replace X := CX.swap (z' := z_W_17 nm) X rfl rfl rfl rfl (zo_W_17 nm)
  obtain ⟨i0, i1, i2, i3, i4, i5⟩ := hi
  obtain ⟨rc, x, w, h1, h2, hg, hA9⟩ := A_isCancelled hA (xs (i + 1).toNatClampNeg)
  obtain ⟨A', hM, hA0⟩ := s_L_isCancelled H (hs, S) A (xs (i + 1).toNatClampNeg) rc x _ h1 hg
  obtain ⟨pk, e0, eq, sb, pu⟩ := vw_so b (jf := jf) (hs := hs) (R := R) (T := T) (O := O) (Y := Y) (S := S) (C := C) (K := K) (U := U) (D := D) (v := v) (A := A)
  refine go_s 1 X (pc2 := 964) (st2 := [.ref 0]) rfl ?_
  refine r_arg X SX (i := i) (c9 := 1) (pc2 := 969) rfl rfl i1 ?_
  refine go_s 1 X (pc2 := 971) (st2 := [.ref 201, .int (xs (i + 1).toNatClampNeg), .ref 0]) rfl ?_
  refine lcS X _ _ [.int (xs (i + 1).toNatClampNeg)] hM pk e0 eq sb (pu hs S A') rfl k_L_isCancelled l_L_218 rfl rfl rfl rfl rfl (fitL hR (by decide) (by decide) (by omega) (by omega)) (Nat.le_of_ble_eq_true rfl) ?_
  refine go_l 2 X (pc2 := 977) (ls2 := [some (.ref (SB + 201)), some (.ref 0), some (.ref 190), some (.ref 201), some (.int i), some (.int (MVTh w)), none, none, none]) (st2 := [.ref 190]) rfl ?_
  refine r_arg X SX (i := i) (c9 := 1) (pc2 := 982) rfl rfl i1 ?_
  obtain ⟨pm, em, sm, um⟩ := vw_m b (jf := jf) (hs := hs) (R := R) (T := T) (O := O) (Y := Y) (S := S) (C := C) (K := K) (U := U) (D := D) (v := v) (A := A')
  refine lcV X _ _ (As := [.int (xs (i + 1).toNatClampNeg)]) (H.2.2 v (xs (i + 1).toNatClampNeg) x w h2) pm em sm (um w) rfl k_X9_isCancelled l_L_220 rfl rfl rfl rfl rfl rfl rfl rfl rfl (fitL hR (by decide) (by decide) (by omega) (by omega)) (Nat.le_of_ble_eq_true rfl) ?_
  refine go_l 2 X (pc2 := 989) (ls2 := [some (.ref (SB + 201)), some (.ref 0), some (.ref 190), some (.ref 201), some (.int i), some (.int (MVTh w)), some (.int x), none, none]) (st2 := [.ref 190]) rfl ?_
  obtain ⟨pt, et, sn, ut⟩ := vw_m b (jf := jf) (hs := hs) (R := R) (T := T) (O := O) (Y := Y) (S := S) (C := C) (K := K) (U := U) (D := D) (v := w) (A := A')
  refine lcV X _ _ (As := []) (hT w (MVTh w) rfl) pt et sn (ut w) rfl k_X9_thrown l_L_193 rfl rfl rfl rfl rfl rfl rfl rfl rfl (fitL hR (by decide) (by decide) (by omega) (by omega)) (Nat.le_of_ble_eq_true rfl) ?_
  refine go_s 1 X (pc2 := 994) (st2 := [.int (MVTh w), .int (MVTh w)]) rfl ?_
  refine r_icmp_eq X 999 rfl rfl (fun _ => ?_) (fun h => absurd rfl h)
  refine go_s 1 X (pc2 := 1001) (st2 := [.int (MVTh w)]) rfl ?_
  have fin : AW κ Q 1023 [some (.ref (SB + 201)), some (.ref 0), some (.ref 190), some (.ref 201), some (.int i), some (.int (MVTh w)), some (.int x), none, none] [] (LW b jf hs R T O Y S C K U D w A') (nc + 1 + 0 + 0) (ns + 6 + 0 + 0) := go_s 1 X (pc2 := 3130) (st2 := []) rfl (kfin hk hA9 (by omega) (by omega))
  refine r_if_ne X 1023 rfl rfl (fun _ => fin) (fun h0 => ?_)
  refine go_s 2 X (pc2 := 1006) (st2 := [.int 0, .ref 201]) rfl ?_
  refine r_lald X (o := 201) (n := 1) rfl (lw_x b) in01 ?_
  refine AW.eq (st' := [.long (if x = 0 then 0 else 1)]) ?_ rfl rfl (congrArg (fun q => [Value.long q]) (hA0 h0)) rfl
  refine go_s 1 X (pc2 := 1009) (st2 := [.int x, .long (if x = 0 then 0 else 1)]) rfl ?_
  refine r_if_eq X 1016 rfl rfl (fun hx => ?_) (fun hx => ?_)
  · refine AW.eq (st' := [.long 0]) ?_ rfl rfl (by rw [if_pos hx]) rfl
    refine go_s 2 X (pc2 := 1018) (st2 := [.int (lg_cmp 0 0)]) rfl ?_
    exact r_if_eq X 1023 rfl rfl (fun _ => fin) (fun h => absurd (lg_self _) h)
  · refine AW.eq (st' := [.long 1]) ?_ rfl rfl (by rw [if_neg hx]) rfl
    refine go_s 3 X (pc2 := 1018) (st2 := [.int (lg_cmp 1 1)]) rfl ?_
    exact r_if_eq X 1023 rfl rfl (fun _ => fin) (fun h => absurd (lg_self _) h)
set_option maxRecDepth 20000 in
set_option maxHeartbeats 2000000 in
theorem W_18 {κ : KX} {Q : State → Prop} {nm : String} (X : CX κ (z_W_h nm)) (hR : κR κ = room_1) {L : Nat} {xs : Nat → Int32} (SX : SCX κ L xs) (hT : H_th) (H : H_18) {i : Int32} (hi : SI L i) {nc ns : Nat} (hnc : nc + 4 ≤ 601024) (hns : ns + 24 ≤ 7293034) {b : Bool} {jf : Nat → Int32} {hs : Int32} {R : RV} {T : TV} {O : OV} {Y : YV} {S C K : SV} {U D : UV} {v : MV} {A : Nat → Int64} (hA : ALL' hs R O Y S C K U v) (hk : KONT κ Q i nc ns) : AW κ Q 1026 (L0 i) [] (LW b jf hs R T O Y S C K U D v A) nc ns := by
  replace X := CX.swap (z' := z_W_18 nm) X rfl rfl rfl rfl (zo_W_18 nm)
  obtain ⟨i0, i1, i2, i3, i4, i5⟩ := hi
  obtain ⟨rc, x, w, h1, h2, hg, hA9⟩ := A_root hA (xs (i + 1).toNatClampNeg)
  obtain ⟨A', hM, hA0⟩ := s_L_root H (hs, S, U) A (xs (i + 1).toNatClampNeg) rc x _ h1 hg
  obtain ⟨pk, e0, eq, sb, pu⟩ := vw_suo b (jf := jf) (hs := hs) (R := R) (T := T) (O := O) (Y := Y) (S := S) (C := C) (K := K) (U := U) (D := D) (v := v) (A := A)
  refine go_s 1 X (pc2 := 1027) (st2 := [.ref 0]) rfl ?_
  refine r_arg X SX (i := i) (c9 := 1) (pc2 := 1032) rfl rfl i1 ?_
  refine go_s 1 X (pc2 := 1034) (st2 := [.ref 201, .int (xs (i + 1).toNatClampNeg), .ref 0]) rfl ?_
  refine lcS X _ _ [.int (xs (i + 1).toNatClampNeg)] hM pk e0 eq sb (pu hs S U A') rfl k_L_root l_L_221 rfl rfl rfl rfl rfl (fitL hR (by decide) (by decide) (by omega) (by omega)) (Nat.le_of_ble_eq_true rfl) ?_
  refine go_l 2 X (pc2 := 1040) (ls2 := [some (.ref (SB + 201)), some (.ref 0), some (.ref 190), some (.ref 201), some (.int i), some (.int (MVTh w)), none, none, none]) (st2 := [.ref 190]) rfl ?_
  refine r_arg X SX (i := i) (c9 := 1) (pc2 := 1045) rfl rfl i1 ?_
  obtain ⟨pm, em, sm, um⟩ := vw_m b (jf := jf) (hs := hs) (R := R) (T := T) (O := O) (Y := Y) (S := S) (C := C) (K := K) (U := U) (D := D) (v := v) (A := A')
  refine lcV X _ _ (As := [.int (xs (i + 1).toNatClampNeg)]) (H.2.2 v (xs (i + 1).toNatClampNeg) x w h2) pm em sm (um w) rfl k_X9_root l_L_223 rfl rfl rfl rfl rfl rfl rfl rfl rfl (fitL hR (by decide) (by decide) (by omega) (by omega)) (Nat.le_of_ble_eq_true rfl) ?_
  refine go_l 2 X (pc2 := 1052) (ls2 := [some (.ref (SB + 201)), some (.ref 0), some (.ref 190), some (.ref 201), some (.int i), some (.int (MVTh w)), some (.int x), none, none]) (st2 := [.ref 190]) rfl ?_
  obtain ⟨pt, et, sn, ut⟩ := vw_m b (jf := jf) (hs := hs) (R := R) (T := T) (O := O) (Y := Y) (S := S) (C := C) (K := K) (U := U) (D := D) (v := w) (A := A')
  refine lcV X _ _ (As := []) (hT w (MVTh w) rfl) pt et sn (ut w) rfl k_X9_thrown l_L_193 rfl rfl rfl rfl rfl rfl rfl rfl rfl (fitL hR (by decide) (by decide) (by omega) (by omega)) (Nat.le_of_ble_eq_true rfl) ?_
  refine go_s 1 X (pc2 := 1057) (st2 := [.int (MVTh w), .int (MVTh w)]) rfl ?_
  refine r_icmp_eq X 1062 rfl rfl (fun _ => ?_) (fun h => absurd rfl h)
  refine go_s 1 X (pc2 := 1064) (st2 := [.int (MVTh w)]) rfl ?_
  have fin : AW κ Q 1079 [some (.ref (SB + 201)), some (.ref 0), some (.ref 190), some (.ref 201), some (.int i), some (.int (MVTh w)), some (.int x), none, none] [] (LW b jf hs R T O Y S C K U D w A') (nc + 1 + 0 + 0) (ns + 6 + 0 + 0) := go_s 1 X (pc2 := 3130) (st2 := []) rfl (kfin hk hA9 (by omega) (by omega))
  refine r_if_ne X 1079 rfl rfl (fun _ => fin) (fun h0 => ?_)
  refine go_s 2 X (pc2 := 1069) (st2 := [.int 0, .ref 201]) rfl ?_
  refine r_lald X (o := 201) (n := 1) rfl (lw_x b) in01 ?_
  refine AW.eq (st' := [.long (Int32.toInt64 x)]) ?_ rfl rfl (congrArg (fun q => [Value.long q]) (hA0 h0)) rfl
  refine go_s 3 X (pc2 := 1074) (st2 := [.int (lg_cmp (Int32.toInt64 x) (Int32.toInt64 x))]) rfl ?_
  exact r_if_eq X 1079 rfl rfl (fun _ => fin) (fun h => absurd (lg_self _) h)
set_option maxRecDepth 20000 in
set_option maxHeartbeats 2000000 in
theorem W_19 {κ : KX} {Q : State → Prop} {nm : String} (X : CX κ (z_W_h nm)) (hR : κR κ = room_1) {L : Nat} {xs : Nat → Int32} (SX : SCX κ L xs) (hT : H_th) (H : H_19) {i : Int32} (hi : SI L i) {nc ns : Nat} (hnc : nc + 4 ≤ 601024) (hns : ns + 24 ≤ 7293034) {b : Bool} {jf : Nat → Int32} {hs : Int32} {R : RV} {T : TV} {O : OV} {Y : YV} {S C K : SV} {U D : UV} {v : MV} {A : Nat → Int64} (hA : ALL' hs R O Y S C K U v) (hk : KONT κ Q i nc ns) : AW κ Q 1082 (L0 i) [] (LW b jf hs R T O Y S C K U D v A) nc ns := by
  replace X := CX.swap (z' := z_W_19 nm) X rfl rfl rfl rfl (zo_W_19 nm)
  obtain ⟨i0, i1, i2, i3, i4, i5⟩ := hi
  obtain ⟨rc, x, w, h1, h2, hg, hA9⟩ := A_leftChild hA (xs (i + 1).toNatClampNeg)
  obtain ⟨A', hM, hA0⟩ := s_L_leftChild H (hs, S) A (xs (i + 1).toNatClampNeg) rc x _ h1 hg
  obtain ⟨pk, e0, eq, sb, pu⟩ := vw_so b (jf := jf) (hs := hs) (R := R) (T := T) (O := O) (Y := Y) (S := S) (C := C) (K := K) (U := U) (D := D) (v := v) (A := A)
  refine go_s 1 X (pc2 := 1083) (st2 := [.ref 0]) rfl ?_
  refine r_arg X SX (i := i) (c9 := 1) (pc2 := 1088) rfl rfl i1 ?_
  refine go_s 1 X (pc2 := 1090) (st2 := [.ref 201, .int (xs (i + 1).toNatClampNeg), .ref 0]) rfl ?_
  refine lcS X _ _ [.int (xs (i + 1).toNatClampNeg)] hM pk e0 eq sb (pu hs S A') rfl k_L_leftChild l_L_224 rfl rfl rfl rfl rfl (fitL hR (by decide) (by decide) (by omega) (by omega)) (Nat.le_of_ble_eq_true rfl) ?_
  refine go_l 2 X (pc2 := 1096) (ls2 := [some (.ref (SB + 201)), some (.ref 0), some (.ref 190), some (.ref 201), some (.int i), some (.int (MVTh w)), none, none, none]) (st2 := [.ref 190]) rfl ?_
  refine r_arg X SX (i := i) (c9 := 1) (pc2 := 1101) rfl rfl i1 ?_
  obtain ⟨pm, em, sm, um⟩ := vw_m b (jf := jf) (hs := hs) (R := R) (T := T) (O := O) (Y := Y) (S := S) (C := C) (K := K) (U := U) (D := D) (v := v) (A := A')
  refine lcV X _ _ (As := [.int (xs (i + 1).toNatClampNeg)]) (H.2.2 v (xs (i + 1).toNatClampNeg) x w h2) pm em sm (um w) rfl k_X9_leftChild l_L_226 rfl rfl rfl rfl rfl rfl rfl rfl rfl (fitL hR (by decide) (by decide) (by omega) (by omega)) (Nat.le_of_ble_eq_true rfl) ?_
  refine go_l 2 X (pc2 := 1108) (ls2 := [some (.ref (SB + 201)), some (.ref 0), some (.ref 190), some (.ref 201), some (.int i), some (.int (MVTh w)), some (.int x), none, none]) (st2 := [.ref 190]) rfl ?_
  obtain ⟨pt, et, sn, ut⟩ := vw_m b (jf := jf) (hs := hs) (R := R) (T := T) (O := O) (Y := Y) (S := S) (C := C) (K := K) (U := U) (D := D) (v := w) (A := A')
  refine lcV X _ _ (As := []) (hT w (MVTh w) rfl) pt et sn (ut w) rfl k_X9_thrown l_L_193 rfl rfl rfl rfl rfl rfl rfl rfl rfl (fitL hR (by decide) (by decide) (by omega) (by omega)) (Nat.le_of_ble_eq_true rfl) ?_
  refine go_s 1 X (pc2 := 1113) (st2 := [.int (MVTh w), .int (MVTh w)]) rfl ?_
  refine r_icmp_eq X 1118 rfl rfl (fun _ => ?_) (fun h => absurd rfl h)
  refine go_s 1 X (pc2 := 1120) (st2 := [.int (MVTh w)]) rfl ?_
  have fin : AW κ Q 1135 [some (.ref (SB + 201)), some (.ref 0), some (.ref 190), some (.ref 201), some (.int i), some (.int (MVTh w)), some (.int x), none, none] [] (LW b jf hs R T O Y S C K U D w A') (nc + 1 + 0 + 0) (ns + 6 + 0 + 0) := go_s 1 X (pc2 := 3130) (st2 := []) rfl (kfin hk hA9 (by omega) (by omega))
  refine r_if_ne X 1135 rfl rfl (fun _ => fin) (fun h0 => ?_)
  refine go_s 2 X (pc2 := 1125) (st2 := [.int 0, .ref 201]) rfl ?_
  refine r_lald X (o := 201) (n := 1) rfl (lw_x b) in01 ?_
  refine AW.eq (st' := [.long (Int32.toInt64 x)]) ?_ rfl rfl (congrArg (fun q => [Value.long q]) (hA0 h0)) rfl
  refine go_s 3 X (pc2 := 1130) (st2 := [.int (lg_cmp (Int32.toInt64 x) (Int32.toInt64 x))]) rfl ?_
  exact r_if_eq X 1135 rfl rfl (fun _ => fin) (fun h => absurd (lg_self _) h)
set_option maxRecDepth 20000 in
set_option maxHeartbeats 2000000 in
theorem W_20 {κ : KX} {Q : State → Prop} {nm : String} (X : CX κ (z_W_h nm)) (hR : κR κ = room_1) {L : Nat} {xs : Nat → Int32} (SX : SCX κ L xs) (hT : H_th) (H : H_20) {i : Int32} (hi : SI L i) {nc ns : Nat} (hnc : nc + 4 ≤ 601024) (hns : ns + 24 ≤ 7293034) {b : Bool} {jf : Nat → Int32} {hs : Int32} {R : RV} {T : TV} {O : OV} {Y : YV} {S C K : SV} {U D : UV} {v : MV} {A : Nat → Int64} (hA : ALL' hs R O Y S C K U v) (hk : KONT κ Q i nc ns) : AW κ Q 1138 (L0 i) [] (LW b jf hs R T O Y S C K U D v A) nc ns := by
  replace X := CX.swap (z' := z_W_20 nm) X rfl rfl rfl rfl (zo_W_20 nm)
  obtain ⟨i0, i1, i2, i3, i4, i5⟩ := hi
  obtain ⟨rc, x, w, h1, h2, hg, hA9⟩ := A_rightChild hA (xs (i + 1).toNatClampNeg)
  obtain ⟨A', hM, hA0⟩ := s_L_rightChild H (hs, S) A (xs (i + 1).toNatClampNeg) rc x _ h1 hg
  obtain ⟨pk, e0, eq, sb, pu⟩ := vw_so b (jf := jf) (hs := hs) (R := R) (T := T) (O := O) (Y := Y) (S := S) (C := C) (K := K) (U := U) (D := D) (v := v) (A := A)
  refine go_s 1 X (pc2 := 1139) (st2 := [.ref 0]) rfl ?_
  refine r_arg X SX (i := i) (c9 := 1) (pc2 := 1144) rfl rfl i1 ?_
  refine go_s 1 X (pc2 := 1146) (st2 := [.ref 201, .int (xs (i + 1).toNatClampNeg), .ref 0]) rfl ?_
  refine lcS X _ _ [.int (xs (i + 1).toNatClampNeg)] hM pk e0 eq sb (pu hs S A') rfl k_L_rightChild l_L_227 rfl rfl rfl rfl rfl (fitL hR (by decide) (by decide) (by omega) (by omega)) (Nat.le_of_ble_eq_true rfl) ?_
  refine go_l 2 X (pc2 := 1152) (ls2 := [some (.ref (SB + 201)), some (.ref 0), some (.ref 190), some (.ref 201), some (.int i), some (.int (MVTh w)), none, none, none]) (st2 := [.ref 190]) rfl ?_
  refine r_arg X SX (i := i) (c9 := 1) (pc2 := 1157) rfl rfl i1 ?_
  obtain ⟨pm, em, sm, um⟩ := vw_m b (jf := jf) (hs := hs) (R := R) (T := T) (O := O) (Y := Y) (S := S) (C := C) (K := K) (U := U) (D := D) (v := v) (A := A')
  refine lcV X _ _ (As := [.int (xs (i + 1).toNatClampNeg)]) (H.2.2 v (xs (i + 1).toNatClampNeg) x w h2) pm em sm (um w) rfl k_X9_rightChild l_L_229 rfl rfl rfl rfl rfl rfl rfl rfl rfl (fitL hR (by decide) (by decide) (by omega) (by omega)) (Nat.le_of_ble_eq_true rfl) ?_
  refine go_l 2 X (pc2 := 1164) (ls2 := [some (.ref (SB + 201)), some (.ref 0), some (.ref 190), some (.ref 201), some (.int i), some (.int (MVTh w)), some (.int x), none, none]) (st2 := [.ref 190]) rfl ?_
  obtain ⟨pt, et, sn, ut⟩ := vw_m b (jf := jf) (hs := hs) (R := R) (T := T) (O := O) (Y := Y) (S := S) (C := C) (K := K) (U := U) (D := D) (v := w) (A := A')
  refine lcV X _ _ (As := []) (hT w (MVTh w) rfl) pt et sn (ut w) rfl k_X9_thrown l_L_193 rfl rfl rfl rfl rfl rfl rfl rfl rfl (fitL hR (by decide) (by decide) (by omega) (by omega)) (Nat.le_of_ble_eq_true rfl) ?_
  refine go_s 1 X (pc2 := 1169) (st2 := [.int (MVTh w), .int (MVTh w)]) rfl ?_
  refine r_icmp_eq X 1174 rfl rfl (fun _ => ?_) (fun h => absurd rfl h)
  refine go_s 1 X (pc2 := 1176) (st2 := [.int (MVTh w)]) rfl ?_
  have fin : AW κ Q 1191 [some (.ref (SB + 201)), some (.ref 0), some (.ref 190), some (.ref 201), some (.int i), some (.int (MVTh w)), some (.int x), none, none] [] (LW b jf hs R T O Y S C K U D w A') (nc + 1 + 0 + 0) (ns + 6 + 0 + 0) := go_s 1 X (pc2 := 3130) (st2 := []) rfl (kfin hk hA9 (by omega) (by omega))
  refine r_if_ne X 1191 rfl rfl (fun _ => fin) (fun h0 => ?_)
  refine go_s 2 X (pc2 := 1181) (st2 := [.int 0, .ref 201]) rfl ?_
  refine r_lald X (o := 201) (n := 1) rfl (lw_x b) in01 ?_
  refine AW.eq (st' := [.long (Int32.toInt64 x)]) ?_ rfl rfl (congrArg (fun q => [Value.long q]) (hA0 h0)) rfl
  refine go_s 3 X (pc2 := 1186) (st2 := [.int (lg_cmp (Int32.toInt64 x) (Int32.toInt64 x))]) rfl ?_
  exact r_if_eq X 1191 rfl rfl (fun _ => fin) (fun h => absurd (lg_self _) h)
set_option maxRecDepth 20000 in
set_option maxHeartbeats 2000000 in
theorem W_21 {κ : KX} {Q : State → Prop} {nm : String} (X : CX κ (z_W_h nm)) (hR : κR κ = room_1) {L : Nat} {xs : Nat → Int32} (SX : SCX κ L xs) (hT : H_th) (H : H_21) {i : Int32} (hi : SI L i) {nc ns : Nat} (hnc : nc + 4 ≤ 601024) (hns : ns + 24 ≤ 7293034) {b : Bool} {jf : Nat → Int32} {hs : Int32} {R : RV} {T : TV} {O : OV} {Y : YV} {S C K : SV} {U D : UV} {v : MV} {A : Nat → Int64} (hA : ALL' hs R O Y S C K U v) (hk : KONT κ Q i nc ns) : AW κ Q 1194 (L0 i) [] (LW b jf hs R T O Y S C K U D v A) nc ns := by
  replace X := CX.swap (z' := z_W_21 nm) X rfl rfl rfl rfl (zo_W_21 nm)
  obtain ⟨i0, i1, i2, i3, i4, i5⟩ := hi
  obtain ⟨rc, x, w, h1, h2, hg, hA9⟩ := A_parent hA (xs (i + 1).toNatClampNeg)
  obtain ⟨A', hM, hA0⟩ := s_L_parent H (hs, S) A (xs (i + 1).toNatClampNeg) rc x _ h1 hg
  obtain ⟨pk, e0, eq, sb, pu⟩ := vw_so b (jf := jf) (hs := hs) (R := R) (T := T) (O := O) (Y := Y) (S := S) (C := C) (K := K) (U := U) (D := D) (v := v) (A := A)
  refine go_s 1 X (pc2 := 1195) (st2 := [.ref 0]) rfl ?_
  refine r_arg X SX (i := i) (c9 := 1) (pc2 := 1200) rfl rfl i1 ?_
  refine go_s 1 X (pc2 := 1202) (st2 := [.ref 201, .int (xs (i + 1).toNatClampNeg), .ref 0]) rfl ?_
  refine lcS X _ _ [.int (xs (i + 1).toNatClampNeg)] hM pk e0 eq sb (pu hs S A') rfl k_L_parent l_L_230 rfl rfl rfl rfl rfl (fitL hR (by decide) (by decide) (by omega) (by omega)) (Nat.le_of_ble_eq_true rfl) ?_
  refine go_l 2 X (pc2 := 1208) (ls2 := [some (.ref (SB + 201)), some (.ref 0), some (.ref 190), some (.ref 201), some (.int i), some (.int (MVTh w)), none, none, none]) (st2 := [.ref 190]) rfl ?_
  refine r_arg X SX (i := i) (c9 := 1) (pc2 := 1213) rfl rfl i1 ?_
  obtain ⟨pm, em, sm, um⟩ := vw_m b (jf := jf) (hs := hs) (R := R) (T := T) (O := O) (Y := Y) (S := S) (C := C) (K := K) (U := U) (D := D) (v := v) (A := A')
  refine lcV X _ _ (As := [.int (xs (i + 1).toNatClampNeg)]) (H.2.2 v (xs (i + 1).toNatClampNeg) x w h2) pm em sm (um w) rfl k_X9_parent l_L_232 rfl rfl rfl rfl rfl rfl rfl rfl rfl (fitL hR (by decide) (by decide) (by omega) (by omega)) (Nat.le_of_ble_eq_true rfl) ?_
  refine go_l 2 X (pc2 := 1220) (ls2 := [some (.ref (SB + 201)), some (.ref 0), some (.ref 190), some (.ref 201), some (.int i), some (.int (MVTh w)), some (.int x), none, none]) (st2 := [.ref 190]) rfl ?_
  obtain ⟨pt, et, sn, ut⟩ := vw_m b (jf := jf) (hs := hs) (R := R) (T := T) (O := O) (Y := Y) (S := S) (C := C) (K := K) (U := U) (D := D) (v := w) (A := A')
  refine lcV X _ _ (As := []) (hT w (MVTh w) rfl) pt et sn (ut w) rfl k_X9_thrown l_L_193 rfl rfl rfl rfl rfl rfl rfl rfl rfl (fitL hR (by decide) (by decide) (by omega) (by omega)) (Nat.le_of_ble_eq_true rfl) ?_
  refine go_s 1 X (pc2 := 1225) (st2 := [.int (MVTh w), .int (MVTh w)]) rfl ?_
  refine r_icmp_eq X 1230 rfl rfl (fun _ => ?_) (fun h => absurd rfl h)
  refine go_s 1 X (pc2 := 1232) (st2 := [.int (MVTh w)]) rfl ?_
  have fin : AW κ Q 1247 [some (.ref (SB + 201)), some (.ref 0), some (.ref 190), some (.ref 201), some (.int i), some (.int (MVTh w)), some (.int x), none, none] [] (LW b jf hs R T O Y S C K U D w A') (nc + 1 + 0 + 0) (ns + 6 + 0 + 0) := go_s 1 X (pc2 := 3130) (st2 := []) rfl (kfin hk hA9 (by omega) (by omega))
  refine r_if_ne X 1247 rfl rfl (fun _ => fin) (fun h0 => ?_)
  refine go_s 2 X (pc2 := 1237) (st2 := [.int 0, .ref 201]) rfl ?_
  refine r_lald X (o := 201) (n := 1) rfl (lw_x b) in01 ?_
  refine AW.eq (st' := [.long (Int32.toInt64 x)]) ?_ rfl rfl (congrArg (fun q => [Value.long q]) (hA0 h0)) rfl
  refine go_s 3 X (pc2 := 1242) (st2 := [.int (lg_cmp (Int32.toInt64 x) (Int32.toInt64 x))]) rfl ?_
  exact r_if_eq X 1247 rfl rfl (fun _ => fin) (fun h => absurd (lg_self _) h)
set_option maxRecDepth 20000 in
set_option maxHeartbeats 2000000 in
theorem W_22 {κ : KX} {Q : State → Prop} {nm : String} (X : CX κ (z_W_h nm)) (hR : κR κ = room_1) {L : Nat} {xs : Nat → Int32} (SX : SCX κ L xs) (hT : H_th) (H : H_22) {i : Int32} (hi : SI L i) {nc ns : Nat} (hnc : nc + 4 ≤ 601024) (hns : ns + 24 ≤ 7293034) {b : Bool} {jf : Nat → Int32} {hs : Int32} {R : RV} {T : TV} {O : OV} {Y : YV} {S C K : SV} {U D : UV} {v : MV} {A : Nat → Int64} (hA : ALL' hs R O Y S C K U v) (hk : KONT κ Q i nc ns) : AW κ Q 1250 (L0 i) [] (LW b jf hs R T O Y S C K U D v A) nc ns := by
  replace X := CX.swap (z' := z_W_22 nm) X rfl rfl rfl rfl (zo_W_22 nm)
  obtain ⟨i0, i1, i2, i3, i4, i5⟩ := hi
  obtain ⟨rc, x, w, h1, h2, hg, hA9⟩ := A_rank hA (xs (i + 1).toNatClampNeg)
  obtain ⟨A', hM, hA0⟩ := s_L_rank H (hs, S) A (xs (i + 1).toNatClampNeg) rc x _ h1 hg
  obtain ⟨pk, e0, eq, sb, pu⟩ := vw_so b (jf := jf) (hs := hs) (R := R) (T := T) (O := O) (Y := Y) (S := S) (C := C) (K := K) (U := U) (D := D) (v := v) (A := A)
  refine go_s 1 X (pc2 := 1251) (st2 := [.ref 0]) rfl ?_
  refine r_arg X SX (i := i) (c9 := 1) (pc2 := 1256) rfl rfl i1 ?_
  refine go_s 1 X (pc2 := 1258) (st2 := [.ref 201, .int (xs (i + 1).toNatClampNeg), .ref 0]) rfl ?_
  refine lcS X _ _ [.int (xs (i + 1).toNatClampNeg)] hM pk e0 eq sb (pu hs S A') rfl k_L_rank l_L_233 rfl rfl rfl rfl rfl (fitL hR (by decide) (by decide) (by omega) (by omega)) (Nat.le_of_ble_eq_true rfl) ?_
  refine go_l 2 X (pc2 := 1264) (ls2 := [some (.ref (SB + 201)), some (.ref 0), some (.ref 190), some (.ref 201), some (.int i), some (.int (MVTh w)), none, none, none]) (st2 := [.ref 190]) rfl ?_
  refine r_arg X SX (i := i) (c9 := 1) (pc2 := 1269) rfl rfl i1 ?_
  obtain ⟨pm, em, sm, um⟩ := vw_m b (jf := jf) (hs := hs) (R := R) (T := T) (O := O) (Y := Y) (S := S) (C := C) (K := K) (U := U) (D := D) (v := v) (A := A')
  refine lcV X _ _ (As := [.int (xs (i + 1).toNatClampNeg)]) (H.2.2 v (xs (i + 1).toNatClampNeg) x w h2) pm em sm (um w) rfl k_X9_rank l_L_235 rfl rfl rfl rfl rfl rfl rfl rfl rfl (fitL hR (by decide) (by decide) (by omega) (by omega)) (Nat.le_of_ble_eq_true rfl) ?_
  refine go_l 2 X (pc2 := 1276) (ls2 := [some (.ref (SB + 201)), some (.ref 0), some (.ref 190), some (.ref 201), some (.int i), some (.int (MVTh w)), some (.int x), none, none]) (st2 := [.ref 190]) rfl ?_
  obtain ⟨pt, et, sn, ut⟩ := vw_m b (jf := jf) (hs := hs) (R := R) (T := T) (O := O) (Y := Y) (S := S) (C := C) (K := K) (U := U) (D := D) (v := w) (A := A')
  refine lcV X _ _ (As := []) (hT w (MVTh w) rfl) pt et sn (ut w) rfl k_X9_thrown l_L_193 rfl rfl rfl rfl rfl rfl rfl rfl rfl (fitL hR (by decide) (by decide) (by omega) (by omega)) (Nat.le_of_ble_eq_true rfl) ?_
  refine go_s 1 X (pc2 := 1281) (st2 := [.int (MVTh w), .int (MVTh w)]) rfl ?_
  refine r_icmp_eq X 1286 rfl rfl (fun _ => ?_) (fun h => absurd rfl h)
  refine go_s 1 X (pc2 := 1288) (st2 := [.int (MVTh w)]) rfl ?_
  have fin : AW κ Q 1303 [some (.ref (SB + 201)), some (.ref 0), some (.ref 190), some (.ref 201), some (.int i), some (.int (MVTh w)), some (.int x), none, none] [] (LW b jf hs R T O Y S C K U D w A') (nc + 1 + 0 + 0) (ns + 6 + 0 + 0) := go_s 1 X (pc2 := 3130) (st2 := []) rfl (kfin hk hA9 (by omega) (by omega))
  refine r_if_ne X 1303 rfl rfl (fun _ => fin) (fun h0 => ?_)
  refine go_s 2 X (pc2 := 1293) (st2 := [.int 0, .ref 201]) rfl ?_
  refine r_lald X (o := 201) (n := 1) rfl (lw_x b) in01 ?_
  refine AW.eq (st' := [.long (Int32.toInt64 x)]) ?_ rfl rfl (congrArg (fun q => [Value.long q]) (hA0 h0)) rfl
  refine go_s 3 X (pc2 := 1298) (st2 := [.int (lg_cmp (Int32.toInt64 x) (Int32.toInt64 x))]) rfl ?_
  exact r_if_eq X 1303 rfl rfl (fun _ => fin) (fun h => absurd (lg_self _) h)
set_option maxRecDepth 20000 in
set_option maxHeartbeats 2000000 in
theorem W_23 {κ : KX} {Q : State → Prop} {nm : String} (X : CX κ (z_W_h nm)) (hR : κR κ = room_1) {L : Nat} {xs : Nat → Int32} (SX : SCX κ L xs) (hT : H_th) (H : H_23) {i : Int32} (hi : SI L i) {nc ns : Nat} (hnc : nc + 4 ≤ 601024) (hns : ns + 24 ≤ 7293034) {b : Bool} {jf : Nat → Int32} {hs : Int32} {R : RV} {T : TV} {O : OV} {Y : YV} {S C K : SV} {U D : UV} {v : MV} {A : Nat → Int64} (hA : ALL' hs R O Y S C K U v) (hk : KONT κ Q i nc ns) : AW κ Q 1306 (L0 i) [] (LW b jf hs R T O Y S C K U D v A) nc ns := by
  replace X := CX.swap (z' := z_W_23 nm) X rfl rfl rfl rfl (zo_W_23 nm)
  obtain ⟨i0, i1, i2, i3, i4, i5⟩ := hi
  obtain ⟨rc, x, w, h1, h2, hg, hA9⟩ := A_depth hA (xs (i + 1).toNatClampNeg)
  obtain ⟨A', hM, hA0⟩ := s_L_depth H (hs, S) A (xs (i + 1).toNatClampNeg) rc x _ h1 hg
  obtain ⟨pk, e0, eq, sb, pu⟩ := vw_so b (jf := jf) (hs := hs) (R := R) (T := T) (O := O) (Y := Y) (S := S) (C := C) (K := K) (U := U) (D := D) (v := v) (A := A)
  refine go_s 1 X (pc2 := 1307) (st2 := [.ref 0]) rfl ?_
  refine r_arg X SX (i := i) (c9 := 1) (pc2 := 1312) rfl rfl i1 ?_
  refine go_s 1 X (pc2 := 1314) (st2 := [.ref 201, .int (xs (i + 1).toNatClampNeg), .ref 0]) rfl ?_
  refine lcS X _ _ [.int (xs (i + 1).toNatClampNeg)] hM pk e0 eq sb (pu hs S A') rfl k_L_depth l_L_236 rfl rfl rfl rfl rfl (fitL hR (by decide) (by decide) (by omega) (by omega)) (Nat.le_of_ble_eq_true rfl) ?_
  refine go_l 2 X (pc2 := 1320) (ls2 := [some (.ref (SB + 201)), some (.ref 0), some (.ref 190), some (.ref 201), some (.int i), some (.int (MVTh w)), none, none, none]) (st2 := [.ref 190]) rfl ?_
  refine r_arg X SX (i := i) (c9 := 1) (pc2 := 1325) rfl rfl i1 ?_
  obtain ⟨pm, em, sm, um⟩ := vw_m b (jf := jf) (hs := hs) (R := R) (T := T) (O := O) (Y := Y) (S := S) (C := C) (K := K) (U := U) (D := D) (v := v) (A := A')
  refine lcV X _ _ (As := [.int (xs (i + 1).toNatClampNeg)]) (H.2.2.2 v (xs (i + 1).toNatClampNeg) x w h2) pm em sm (um w) rfl k_X9_depth l_L_238 rfl rfl rfl rfl rfl rfl rfl rfl rfl (fitL hR (by decide) (by decide) (by omega) (by omega)) (Nat.le_of_ble_eq_true rfl) ?_
  refine go_l 2 X (pc2 := 1332) (ls2 := [some (.ref (SB + 201)), some (.ref 0), some (.ref 190), some (.ref 201), some (.int i), some (.int (MVTh w)), some (.int x), none, none]) (st2 := [.ref 190]) rfl ?_
  obtain ⟨pt, et, sn, ut⟩ := vw_m b (jf := jf) (hs := hs) (R := R) (T := T) (O := O) (Y := Y) (S := S) (C := C) (K := K) (U := U) (D := D) (v := w) (A := A')
  refine lcV X _ _ (As := []) (hT w (MVTh w) rfl) pt et sn (ut w) rfl k_X9_thrown l_L_193 rfl rfl rfl rfl rfl rfl rfl rfl rfl (fitL hR (by decide) (by decide) (by omega) (by omega)) (Nat.le_of_ble_eq_true rfl) ?_
  refine go_s 1 X (pc2 := 1337) (st2 := [.int (MVTh w), .int (MVTh w)]) rfl ?_
  refine r_icmp_eq X 1342 rfl rfl (fun _ => ?_) (fun h => absurd rfl h)
  refine go_s 1 X (pc2 := 1344) (st2 := [.int (MVTh w)]) rfl ?_
  have fin : AW κ Q 1359 [some (.ref (SB + 201)), some (.ref 0), some (.ref 190), some (.ref 201), some (.int i), some (.int (MVTh w)), some (.int x), none, none] [] (LW b jf hs R T O Y S C K U D w A') (nc + 2 + 0 + 0) (ns + 12 + 0 + 0) := go_s 1 X (pc2 := 3130) (st2 := []) rfl (kfin hk hA9 (by omega) (by omega))
  refine r_if_ne X 1359 rfl rfl (fun _ => fin) (fun h0 => ?_)
  refine go_s 2 X (pc2 := 1349) (st2 := [.int 0, .ref 201]) rfl ?_
  refine r_lald X (o := 201) (n := 1) rfl (lw_x b) in01 ?_
  refine AW.eq (st' := [.long (Int32.toInt64 x)]) ?_ rfl rfl (congrArg (fun q => [Value.long q]) (hA0 h0)) rfl
  refine go_s 3 X (pc2 := 1354) (st2 := [.int (lg_cmp (Int32.toInt64 x) (Int32.toInt64 x))]) rfl ?_
  exact r_if_eq X 1359 rfl rfl (fun _ => fin) (fun h => absurd (lg_self _) h)
