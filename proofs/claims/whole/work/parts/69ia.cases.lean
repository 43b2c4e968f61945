/-! ===== 69i: the cases of the law (gen69h.py) ===== -/
set_option maxRecDepth 20000 in
set_option maxHeartbeats 2000000 in
theorem W_0 {κ : KX} {Q : State → Prop} {nm : String} (X : CX κ (z_W_h nm)) (hR : κR κ = room_1) {L : Nat} {xs : Nat → Int32} (SX : SCX κ L xs) (hT : H_th) (H : H_0) {i : Int32} (hi : SI L i) {nc ns : Nat} (hnc : nc + 4 ≤ 601024) (hns : ns + 24 ≤ 7293034) {b : Bool} {jf : Nat → Int32} {hs : Int32} {R : RV} {T : TV} {O : OV} {Y : YV} {S C K : SV} {U D : UV} {v : MV} {A : Nat → Int64} (hA : ALL' hs R O Y S C K U v) (hk : KONT κ Q i nc ns) : AW κ Q 288 (L0 i) [] (LW b jf hs R T O Y S C K U D v A) nc ns := by
  replace X := CX.swap (z' := z_W_0 nm) X rfl rfl rfl rfl (zo_W_0 nm)
  obtain ⟨i0, i1, i2, i3, i4, i5⟩ := hi
  obtain ⟨r, R', w, h1, h2, hA9⟩ := A_appendInput hA (xs (i + 1).toNatClampNeg) (xs (i + 2).toNatClampNeg) (xs (i + 3).toNatClampNeg) (xs (i + 4).toNatClampNeg) (xs (i + 5).toNatClampNeg)
  obtain ⟨pk, e0, sb, pu⟩ := vw_r b (jf := jf) (hs := hs) (R := R) (T := T) (O := O) (Y := Y) (S := S) (C := C) (K := K) (U := U) (D := D) (v := v) (A := A)
  refine go_s 1 X (pc2 := 289) (st2 := [.ref 0]) rfl ?_
  refine r_arg X SX (i := i) (c9 := 1) (pc2 := 294) rfl rfl i1 ?_
  refine r_arg X SX (i := i) (c9 := 2) (pc2 := 300) rfl rfl i2 ?_
  refine r_arg X SX (i := i) (c9 := 3) (pc2 := 306) rfl rfl i3 ?_
  refine r_arg X SX (i := i) (c9 := 4) (pc2 := 312) rfl rfl i4 ?_
  refine r_arg X SX (i := i) (c9 := 5) (pc2 := 318) rfl rfl i5 ?_
  refine lcV X _ _ (As := [.int (xs (i + 1).toNatClampNeg), .int (xs (i + 2).toNatClampNeg), .int (xs (i + 3).toNatClampNeg), .int (xs (i + 4).toNatClampNeg), .int (xs (i + 5).toNatClampNeg)]) (H.1 (hs, R) (xs (i + 1).toNatClampNeg) (xs (i + 2).toNatClampNeg) (xs (i + 3).toNatClampNeg) (xs (i + 4).toNatClampNeg) (xs (i + 5).toNatClampNeg) r (hs, R') h1) pk e0 sb (pu hs R') rfl k_X8_appendInput l_L_150 rfl rfl rfl rfl rfl rfl rfl rfl rfl (fitL hR (by decide) (by decide) (by omega) (by omega)) (Nat.le_of_ble_eq_true rfl) ?_
  refine go_s 1 X (pc2 := 323) (st2 := [.ref 190, .int r]) rfl ?_
  refine r_arg X SX (i := i) (c9 := 1) (pc2 := 328) rfl rfl i1 ?_
  refine r_arg X SX (i := i) (c9 := 2) (pc2 := 334) rfl rfl i2 ?_
  refine r_arg X SX (i := i) (c9 := 3) (pc2 := 340) rfl rfl i3 ?_
  refine r_arg X SX (i := i) (c9 := 4) (pc2 := 346) rfl rfl i4 ?_
  refine r_arg X SX (i := i) (c9 := 5) (pc2 := 352) rfl rfl i5 ?_
  obtain ⟨pm, em, sm, um⟩ := vw_m b (jf := jf) (hs := hs) (R := R') (T := T) (O := O) (Y := Y) (S := S) (C := C) (K := K) (U := U) (D := D) (v := v) (A := A)
  refine lcV X _ _ (As := [.int (xs (i + 1).toNatClampNeg), .int (xs (i + 2).toNatClampNeg), .int (xs (i + 3).toNatClampNeg), .int (xs (i + 4).toNatClampNeg), .int (xs (i + 5).toNatClampNeg)]) (H.2 v (xs (i + 1).toNatClampNeg) (xs (i + 2).toNatClampNeg) (xs (i + 3).toNatClampNeg) (xs (i + 4).toNatClampNeg) (xs (i + 5).toNatClampNeg) r w h2) pm em sm (um w) rfl k_X9_appendInput l_L_154 rfl rfl rfl rfl rfl rfl rfl rfl rfl (fitL hR (by decide) (by decide) (by omega) (by omega)) (Nat.le_of_ble_eq_true rfl) ?_
  exact r_icmp_eq X 3130 rfl rfl (fun _ => kfin hk hA9 (by omega) (by omega)) (fun h => absurd rfl h)
set_option maxRecDepth 20000 in
set_option maxHeartbeats 2000000 in
theorem W_1 {κ : KX} {Q : State → Prop} {nm : String} (X : CX κ (z_W_h nm)) (hR : κR κ = room_1) {L : Nat} {xs : Nat → Int32} (SX : SCX κ L xs) (hT : H_th) (H : H_1) {i : Int32} (hi : SI L i) {nc ns : Nat} (hnc : nc + 4 ≤ 601024) (hns : ns + 24 ≤ 7293034) {b : Bool} {jf : Nat → Int32} {hs : Int32} {R : RV} {T : TV} {O : OV} {Y : YV} {S C K : SV} {U D : UV} {v : MV} {A : Nat → Int64} (hA : ALL' hs R O Y S C K U v) (hk : KONT κ Q i nc ns) : AW κ Q 361 (L0 i) [] (LW b jf hs R T O Y S C K U D v A) nc ns := by
  replace X := CX.swap (z' := z_W_1 nm) X rfl rfl rfl rfl (zo_W_1 nm)
  obtain ⟨i0, i1, i2, i3, i4, i5⟩ := hi
  obtain ⟨r, R', w, h1, h2, hA9⟩ := A_truncateInput hA (xs (i + 1).toNatClampNeg)
  obtain ⟨pk, e0, sb, pu⟩ := vw_r b (jf := jf) (hs := hs) (R := R) (T := T) (O := O) (Y := Y) (S := S) (C := C) (K := K) (U := U) (D := D) (v := v) (A := A)
  refine go_s 1 X (pc2 := 362) (st2 := [.ref 0]) rfl ?_
  refine r_arg X SX (i := i) (c9 := 1) (pc2 := 367) rfl rfl i1 ?_
  refine lcV X _ _ (As := [.int (xs (i + 1).toNatClampNeg)]) (H.1 (hs, R) (xs (i + 1).toNatClampNeg) r (hs, R') h1) pk e0 sb (pu hs R') rfl k_X8_truncateInput l_L_155 rfl rfl rfl rfl rfl rfl rfl rfl rfl (fitL hR (by decide) (by decide) (by omega) (by omega)) (Nat.le_of_ble_eq_true rfl) ?_
  refine go_s 1 X (pc2 := 372) (st2 := [.ref 190, .int r]) rfl ?_
  refine r_arg X SX (i := i) (c9 := 1) (pc2 := 377) rfl rfl i1 ?_
  obtain ⟨pm, em, sm, um⟩ := vw_m b (jf := jf) (hs := hs) (R := R') (T := T) (O := O) (Y := Y) (S := S) (C := C) (K := K) (U := U) (D := D) (v := v) (A := A)
  refine lcV X _ _ (As := [.int (xs (i + 1).toNatClampNeg)]) (H.2 v (xs (i + 1).toNatClampNeg) r w h2) pm em sm (um w) rfl k_X9_truncateInput l_L_158 rfl rfl rfl rfl rfl rfl rfl rfl rfl (fitL hR (by decide) (by decide) (by omega) (by omega)) (Nat.le_of_ble_eq_true rfl) ?_
  exact r_icmp_eq X 3130 rfl rfl (fun _ => kfin hk hA9 (by omega) (by omega)) (fun h => absurd rfl h)
set_option maxRecDepth 20000 in
set_option maxHeartbeats 2000000 in
theorem W_2 {κ : KX} {Q : State → Prop} {nm : String} (X : CX κ (z_W_h nm)) (hR : κR κ = room_1) {L : Nat} {xs : Nat → Int32} (SX : SCX κ L xs) (hT : H_th) (H : H_2) {i : Int32} (hi : SI L i) {nc ns : Nat} (hnc : nc + 4 ≤ 601024) (hns : ns + 24 ≤ 7293034) {b : Bool} {jf : Nat → Int32} {hs : Int32} {R : RV} {T : TV} {O : OV} {Y : YV} {S C K : SV} {U D : UV} {v : MV} {A : Nat → Int64} (hA : ALL' hs R O Y S C K U v) (hk : KONT κ Q i nc ns) : AW κ Q 386 (L0 i) [] (LW b jf hs R T O Y S C K U D v A) nc ns := by
  replace X := CX.swap (z' := z_W_2 nm) X rfl rfl rfl rfl (zo_W_2 nm)
  obtain ⟨i0, i1, i2, i3, i4, i5⟩ := hi
  obtain ⟨r, q9, hs', R', Y', S', C', U', D', v', h1, h2, hA9⟩ := O_loadSetup (D := D) hA
  obtain ⟨pk, e0, sb, pu⟩ := vw_ryscud b (jf := jf) (hs := hs) (R := R) (T := T) (O := O) (Y := Y) (S := S) (C := C) (K := K) (U := U) (D := D) (v := v) (A := A)
  refine go_s 1 X (pc2 := 387) (st2 := [.ref 0]) rfl ?_
  refine lcV X _ _ (As := []) (H.1 (hs, R, Y, S, C, U, D)  r q9 (hs', R', Y', S', C', U', D') h1) pk e0 sb (pu q9 hs' R' Y' S' C' U' D') rfl k_X8_loadSetup l_L_159 rfl rfl rfl rfl rfl rfl rfl rfl (by cases q9 <;> rfl) (fitL hR (by decide) (by decide) (by omega) (by omega)) (Nat.le_of_ble_eq_true rfl) ?_
  refine go_s 1 X (pc2 := 391) (st2 := [.ref 190, .int r]) rfl ?_
  obtain ⟨pm, em, sm, um⟩ := vw_m (xor b q9) (jf := jf) (hs := hs') (R := R') (T := T) (O := O) (Y := Y') (S := S') (C := C') (K := K) (U := U') (D := D') (v := v) (A := A)
  refine lcV X _ _ (As := []) (H.2 v  r v' h2) pm em sm (um v') rfl k_X9_loadSetup l_L_162 rfl rfl rfl rfl rfl rfl rfl rfl rfl (fitL hR (by decide) (by decide) (by omega) (by omega)) (Nat.le_of_ble_eq_true rfl) ?_
  exact r_icmp_eq X 3130 rfl rfl (fun _ => kfin hk hA9 (by omega) (by omega)) (fun h => absurd rfl h)
set_option maxRecDepth 20000 in
set_option maxHeartbeats 2000000 in
theorem W_3 {κ : KX} {Q : State → Prop} {nm : String} (X : CX κ (z_W_h nm)) (hR : κR κ = room_1) {L : Nat} {xs : Nat → Int32} (SX : SCX κ L xs) (hT : H_th) (H : H_3) {i : Int32} (hi : SI L i) {nc ns : Nat} (hnc : nc + 4 ≤ 601024) (hns : ns + 24 ≤ 7293034) {b : Bool} {jf : Nat → Int32} {hs : Int32} {R : RV} {T : TV} {O : OV} {Y : YV} {S C K : SV} {U D : UV} {v : MV} {A : Nat → Int64} (hA : ALL' hs R O Y S C K U v) (hk : KONT κ Q i nc ns) : AW κ Q 399 (L0 i) [] (LW b jf hs R T O Y S C K U D v A) nc ns := by
  replace X := CX.swap (z' := z_W_3 nm) X rfl rfl rfl rfl (zo_W_3 nm)
  obtain ⟨i0, i1, i2, i3, i4, i5⟩ := hi
  obtain ⟨r, R', T', Y', S', v', h1, h2, hA9⟩ := O_runScript (TS := T) hA
  obtain ⟨pk, e0, sb, pu⟩ := vw_rtysu b (jf := jf) (hs := hs) (R := R) (T := T) (O := O) (Y := Y) (S := S) (C := C) (K := K) (U := U) (D := D) (v := v) (A := A)
  refine go_s 1 X (pc2 := 400) (st2 := [.ref 0]) rfl ?_
  refine lcV X _ _ (As := []) (H.1 (hs, R, T, Y, S, U)  r (hs, R', T', Y', S', U) h1) pk e0 sb (pu hs R' T' Y' S' U) rfl k_X8_runScript l_L_163 rfl rfl rfl rfl rfl rfl rfl rfl rfl (fitL hR (by decide) (by decide) (by omega) (by omega)) (Nat.le_of_ble_eq_true rfl) ?_
  refine go_s 1 X (pc2 := 404) (st2 := [.ref 190, .int r]) rfl ?_
  obtain ⟨pm, em, sm, um⟩ := vw_m b (jf := jf) (hs := hs) (R := R') (T := T') (O := O) (Y := Y') (S := S') (C := C) (K := K) (U := U) (D := D) (v := v) (A := A)
  refine lcV X _ _ (As := []) (H.2 v  r v' h2) pm em sm (um v') rfl k_X9_runScript l_L_166 rfl rfl rfl rfl rfl rfl rfl rfl rfl (fitL hR (by decide) (by decide) (by omega) (by omega)) (Nat.le_of_ble_eq_true rfl) ?_
  exact r_icmp_eq X 3130 rfl rfl (fun _ => kfin hk hA9 (by omega) (by omega)) (fun h => absurd rfl h)
set_option maxRecDepth 20000 in
set_option maxHeartbeats 2000000 in
theorem W_4 {κ : KX} {Q : State → Prop} {nm : String} (X : CX κ (z_W_h nm)) (hR : κR κ = room_1) {L : Nat} {xs : Nat → Int32} (SX : SCX κ L xs) (hT : H_th) (H : H_4) {i : Int32} (hi : SI L i) {nc ns : Nat} (hnc : nc + 4 ≤ 601024) (hns : ns + 24 ≤ 7293034) {b : Bool} {jf : Nat → Int32} {hs : Int32} {R : RV} {T : TV} {O : OV} {Y : YV} {S C K : SV} {U D : UV} {v : MV} {A : Nat → Int64} (hA : ALL' hs R O Y S C K U v) (hk : KONT κ Q i nc ns) : AW κ Q 412 (L0 i) [] (LW b jf hs R T O Y S C K U D v A) nc ns := by
  replace X := CX.swap (z' := z_W_4 nm) X rfl rfl rfl rfl (zo_W_4 nm)
  obtain ⟨i0, i1, i2, i3, i4, i5⟩ := hi
  obtain ⟨x, w, h1, h2, hA9⟩ := A_errorCode hA
  obtain ⟨pk, e0, sb, pu⟩ := vw_r b (jf := jf) (hs := hs) (R := R) (T := T) (O := O) (Y := Y) (S := S) (C := C) (K := K) (U := U) (D := D) (v := v) (A := A)
  refine go_s 1 X (pc2 := 413) (st2 := [.ref 0]) rfl ?_
  refine lcV X _ _ (As := []) (H.1 (hs, R)  x h1) pk e0 sb (pu hs R) rfl k_X8_errorCode l_L_167 rfl rfl rfl rfl rfl rfl rfl rfl rfl (fitL hR (by decide) (by decide) (by omega) (by omega)) (Nat.le_of_ble_eq_true rfl) ?_
  refine go_s 1 X (pc2 := 417) (st2 := [.ref 190, .int x]) rfl ?_
  obtain ⟨pm, em, sm, um⟩ := vw_m b (jf := jf) (hs := hs) (R := R) (T := T) (O := O) (Y := Y) (S := S) (C := C) (K := K) (U := U) (D := D) (v := v) (A := A)
  refine lcV X _ _ (As := []) (H.2 v  x w h2) pm em sm (um w) rfl k_X9_errorCode l_L_170 rfl rfl rfl rfl rfl rfl rfl rfl rfl (fitL hR (by decide) (by decide) (by omega) (by omega)) (Nat.le_of_ble_eq_true rfl) ?_
  exact r_icmp_eq X 3130 rfl rfl (fun _ => kfin hk hA9 (by omega) (by omega)) (fun h => absurd rfl h)
set_option maxRecDepth 20000 in
set_option maxHeartbeats 2000000 in
theorem W_5 {κ : KX} {Q : State → Prop} {nm : String} (X : CX κ (z_W_h nm)) (hR : κR κ = room_1) {L : Nat} {xs : Nat → Int32} (SX : SCX κ L xs) (hT : H_th) (H : H_5) {i : Int32} (hi : SI L i) {nc ns : Nat} (hnc : nc + 4 ≤ 601024) (hns : ns + 24 ≤ 7293034) {b : Bool} {jf : Nat → Int32} {hs : Int32} {R : RV} {T : TV} {O : OV} {Y : YV} {S C K : SV} {U D : UV} {v : MV} {A : Nat → Int64} (hA : ALL' hs R O Y S C K U v) (hk : KONT κ Q i nc ns) : AW κ Q 425 (L0 i) [] (LW b jf hs R T O Y S C K U D v A) nc ns := by
  replace X := CX.swap (z' := z_W_5 nm) X rfl rfl rfl rfl (zo_W_5 nm)
  obtain ⟨i0, i1, i2, i3, i4, i5⟩ := hi
  obtain ⟨x, w, h1, h2, hA9⟩ := A_errorOffset hA
  obtain ⟨pk, e0, sb, pu⟩ := vw_r b (jf := jf) (hs := hs) (R := R) (T := T) (O := O) (Y := Y) (S := S) (C := C) (K := K) (U := U) (D := D) (v := v) (A := A)
  refine go_s 1 X (pc2 := 426) (st2 := [.ref 0]) rfl ?_
  refine lcV X _ _ (As := []) (H.1 (hs, R)  x h1) pk e0 sb (pu hs R) rfl k_X8_errorOffset l_L_171 rfl rfl rfl rfl rfl rfl rfl rfl rfl (fitL hR (by decide) (by decide) (by omega) (by omega)) (Nat.le_of_ble_eq_true rfl) ?_
  refine go_s 1 X (pc2 := 430) (st2 := [.ref 190, .int x]) rfl ?_
  obtain ⟨pm, em, sm, um⟩ := vw_m b (jf := jf) (hs := hs) (R := R) (T := T) (O := O) (Y := Y) (S := S) (C := C) (K := K) (U := U) (D := D) (v := v) (A := A)
  refine lcV X _ _ (As := []) (H.2 v  x w h2) pm em sm (um w) rfl k_X9_errorOffset l_L_174 rfl rfl rfl rfl rfl rfl rfl rfl rfl (fitL hR (by decide) (by decide) (by omega) (by omega)) (Nat.le_of_ble_eq_true rfl) ?_
  exact r_icmp_eq X 3130 rfl rfl (fun _ => kfin hk hA9 (by omega) (by omega)) (fun h => absurd rfl h)
set_option maxRecDepth 20000 in
set_option maxHeartbeats 2000000 in
theorem W_6 {κ : KX} {Q : State → Prop} {nm : String} (X : CX κ (z_W_h nm)) (hR : κR κ = room_1) {L : Nat} {xs : Nat → Int32} (SX : SCX κ L xs) (hT : H_th) (H : H_6) {i : Int32} (hi : SI L i) {nc ns : Nat} (hnc : nc + 4 ≤ 601024) (hns : ns + 24 ≤ 7293034) {b : Bool} {jf : Nat → Int32} {hs : Int32} {R : RV} {T : TV} {O : OV} {Y : YV} {S C K : SV} {U D : UV} {v : MV} {A : Nat → Int64} (hA : ALL' hs R O Y S C K U v) (hk : KONT κ Q i nc ns) : AW κ Q 438 (L0 i) [] (LW b jf hs R T O Y S C K U D v A) nc ns := by
  replace X := CX.swap (z' := z_W_6 nm) X rfl rfl rfl rfl (zo_W_6 nm)
  obtain ⟨i0, i1, i2, i3, i4, i5⟩ := hi
  obtain ⟨x, w, h1, h2, hA9⟩ := A_queueCount hA
  obtain ⟨pk, e0, sb, pu⟩ := vw_u b (jf := jf) (hs := hs) (R := R) (T := T) (O := O) (Y := Y) (S := S) (C := C) (K := K) (U := U) (D := D) (v := v) (A := A)
  refine go_s 1 X (pc2 := 439) (st2 := [.ref 0]) rfl ?_
  refine lcV X _ _ (As := []) (H.1 (hs, U)  x h1) pk e0 sb (pu hs U) rfl k_X8_queueCount l_L_175 rfl rfl rfl rfl rfl rfl rfl rfl rfl (fitL hR (by decide) (by decide) (by omega) (by omega)) (Nat.le_of_ble_eq_true rfl) ?_
  refine go_s 1 X (pc2 := 443) (st2 := [.ref 190, .int x]) rfl ?_
  obtain ⟨pm, em, sm, um⟩ := vw_m b (jf := jf) (hs := hs) (R := R) (T := T) (O := O) (Y := Y) (S := S) (C := C) (K := K) (U := U) (D := D) (v := v) (A := A)
  refine lcV X _ _ (As := []) (H.2 v  x w h2) pm em sm (um w) rfl k_X9_queueCount l_L_178 rfl rfl rfl rfl rfl rfl rfl rfl rfl (fitL hR (by decide) (by decide) (by omega) (by omega)) (Nat.le_of_ble_eq_true rfl) ?_
  exact r_icmp_eq X 3130 rfl rfl (fun _ => kfin hk hA9 (by omega) (by omega)) (fun h => absurd rfl h)
set_option maxRecDepth 20000 in
set_option maxHeartbeats 2000000 in
theorem W_7 {κ : KX} {Q : State → Prop} {nm : String} (X : CX κ (z_W_h nm)) (hR : κR κ = room_1) {L : Nat} {xs : Nat → Int32} (SX : SCX κ L xs) (hT : H_th) (H : H_7) {i : Int32} (hi : SI L i) {nc ns : Nat} (hnc : nc + 4 ≤ 601024) (hns : ns + 24 ≤ 7293034) {b : Bool} {jf : Nat → Int32} {hs : Int32} {R : RV} {T : TV} {O : OV} {Y : YV} {S C K : SV} {U D : UV} {v : MV} {A : Nat → Int64} (hA : ALL' hs R O Y S C K U v) (hk : KONT κ Q i nc ns) : AW κ Q 451 (L0 i) [] (LW b jf hs R T O Y S C K U D v A) nc ns := by
  replace X := CX.swap (z' := z_W_7 nm) X rfl rfl rfl rfl (zo_W_7 nm)
  obtain ⟨i0, i1, i2, i3, i4, i5⟩ := hi
  obtain ⟨x, w, h1, h2, hA9⟩ := A_ownerCount hA
  obtain ⟨pk, e0, sb, pu⟩ := vw_u b (jf := jf) (hs := hs) (R := R) (T := T) (O := O) (Y := Y) (S := S) (C := C) (K := K) (U := U) (D := D) (v := v) (A := A)
  refine go_s 1 X (pc2 := 452) (st2 := [.ref 0]) rfl ?_
  refine lcV X _ _ (As := []) (H.1 (hs, U)  x h1) pk e0 sb (pu hs U) rfl k_X8_ownerCount l_L_179 rfl rfl rfl rfl rfl rfl rfl rfl rfl (fitL hR (by decide) (by decide) (by omega) (by omega)) (Nat.le_of_ble_eq_true rfl) ?_
  refine go_s 1 X (pc2 := 456) (st2 := [.ref 190, .int x]) rfl ?_
  obtain ⟨pm, em, sm, um⟩ := vw_m b (jf := jf) (hs := hs) (R := R) (T := T) (O := O) (Y := Y) (S := S) (C := C) (K := K) (U := U) (D := D) (v := v) (A := A)
  refine lcV X _ _ (As := []) (H.2 v  x w h2) pm em sm (um w) rfl k_X9_ownerCount l_L_182 rfl rfl rfl rfl rfl rfl rfl rfl rfl (fitL hR (by decide) (by decide) (by omega) (by omega)) (Nat.le_of_ble_eq_true rfl) ?_
  exact r_icmp_eq X 3130 rfl rfl (fun _ => kfin hk hA9 (by omega) (by omega)) (fun h => absurd rfl h)
set_option maxRecDepth 20000 in
set_option maxHeartbeats 2000000 in
theorem W_8 {κ : KX} {Q : State → Prop} {nm : String} (X : CX κ (z_W_h nm)) (hR : κR κ = room_1) {L : Nat} {xs : Nat → Int32} (SX : SCX κ L xs) (hT : H_th) (H : H_8) {i : Int32} (hi : SI L i) {nc ns : Nat} (hnc : nc + 4 ≤ 601024) (hns : ns + 24 ≤ 7293034) {b : Bool} {jf : Nat → Int32} {hs : Int32} {R : RV} {T : TV} {O : OV} {Y : YV} {S C K : SV} {U D : UV} {v : MV} {A : Nat → Int64} (hA : ALL' hs R O Y S C K U v) (hk : KONT κ Q i nc ns) : AW κ Q 464 (L0 i) [] (LW b jf hs R T O Y S C K U D v A) nc ns := by
  replace X := CX.swap (z' := z_W_8 nm) X rfl rfl rfl rfl (zo_W_8 nm)
  obtain ⟨i0, i1, i2, i3, i4, i5⟩ := hi
  obtain ⟨x, w, h1, h2, hA9⟩ := A_jobCount hA
  obtain ⟨pk, e0, sb, pu⟩ := vw_s b (jf := jf) (hs := hs) (R := R) (T := T) (O := O) (Y := Y) (S := S) (C := C) (K := K) (U := U) (D := D) (v := v) (A := A)
  refine go_s 1 X (pc2 := 465) (st2 := [.ref 0]) rfl ?_
  refine lcV X _ _ (As := []) (H.1 (hs, S)  x h1) pk e0 sb (pu hs S) rfl k_X8_jobCount l_L_183 rfl rfl rfl rfl rfl rfl rfl rfl rfl (fitL hR (by decide) (by decide) (by omega) (by omega)) (Nat.le_of_ble_eq_true rfl) ?_
  refine go_s 1 X (pc2 := 469) (st2 := [.ref 190, .int x]) rfl ?_
  obtain ⟨pm, em, sm, um⟩ := vw_m b (jf := jf) (hs := hs) (R := R) (T := T) (O := O) (Y := Y) (S := S) (C := C) (K := K) (U := U) (D := D) (v := v) (A := A)
  refine lcV X _ _ (As := []) (H.2 v  x w h2) pm em sm (um w) rfl k_X9_jobCount l_L_186 rfl rfl rfl rfl rfl rfl rfl rfl rfl (fitL hR (by decide) (by decide) (by omega) (by omega)) (Nat.le_of_ble_eq_true rfl) ?_
  exact r_icmp_eq X 3130 rfl rfl (fun _ => kfin hk hA9 (by omega) (by omega)) (fun h => absurd rfl h)
set_option maxRecDepth 20000 in
set_option maxHeartbeats 2000000 in
theorem W_9 {κ : KX} {Q : State → Prop} {nm : String} (X : CX κ (z_W_h nm)) (hR : κR κ = room_1) {L : Nat} {xs : Nat → Int32} (SX : SCX κ L xs) (hT : H_th) (H : H_9) {i : Int32} (hi : SI L i) {nc ns : Nat} (hnc : nc + 4 ≤ 601024) (hns : ns + 24 ≤ 7293034) {b : Bool} {jf : Nat → Int32} {hs : Int32} {R : RV} {T : TV} {O : OV} {Y : YV} {S C K : SV} {U D : UV} {v : MV} {A : Nat → Int64} (hA : ALL' hs R O Y S C K U v) (hk : KONT κ Q i nc ns) : AW κ Q 477 (L0 i) [] (LW b jf hs R T O Y S C K U D v A) nc ns := by
  replace X := CX.swap (z' := z_W_9 nm) X rfl rfl rfl rfl (zo_W_9 nm)
  obtain ⟨i0, i1, i2, i3, i4, i5⟩ := hi
  obtain ⟨rc, x, w, h1, h2, hg, hA9⟩ := A_queueNameByte hA (xs (i + 1).toNatClampNeg) (xs (i + 2).toNatClampNeg)
  obtain ⟨A', hM, hA0⟩ := s_L_queueNameByte H (hs, U) A (xs (i + 1).toNatClampNeg) (xs (i + 2).toNatClampNeg) rc x _ h1 hg
  obtain ⟨pk, e0, eq, sb, pu⟩ := vw_uo b (jf := jf) (hs := hs) (R := R) (T := T) (O := O) (Y := Y) (S := S) (C := C) (K := K) (U := U) (D := D) (v := v) (A := A)
  refine go_s 1 X (pc2 := 478) (st2 := [.ref 0]) rfl ?_
  refine r_arg X SX (i := i) (c9 := 1) (pc2 := 483) rfl rfl i1 ?_
  refine r_arg X SX (i := i) (c9 := 2) (pc2 := 489) rfl rfl i2 ?_
  refine go_s 1 X (pc2 := 491) (st2 := [.ref 201, .int (xs (i + 2).toNatClampNeg), .int (xs (i + 1).toNatClampNeg), .ref 0]) rfl ?_
  refine lcS X _ _ [.int (xs (i + 1).toNatClampNeg), .int (xs (i + 2).toNatClampNeg)] hM pk e0 eq sb (pu hs U A') rfl k_L_queueNameByte l_L_187 rfl rfl rfl rfl rfl (fitL hR (by decide) (by decide) (by omega) (by omega)) (Nat.le_of_ble_eq_true rfl) ?_
  refine go_l 2 X (pc2 := 497) (ls2 := [some (.ref (SB + 201)), some (.ref 0), some (.ref 190), some (.ref 201), some (.int i), some (.int (MVTh w)), none, none, none]) (st2 := [.ref 190]) rfl ?_
  refine r_arg X SX (i := i) (c9 := 1) (pc2 := 502) rfl rfl i1 ?_
  refine r_arg X SX (i := i) (c9 := 2) (pc2 := 508) rfl rfl i2 ?_
  obtain ⟨pm, em, sm, um⟩ := vw_m b (jf := jf) (hs := hs) (R := R) (T := T) (O := O) (Y := Y) (S := S) (C := C) (K := K) (U := U) (D := D) (v := v) (A := A')
  refine lcV X _ _ (As := [.int (xs (i + 1).toNatClampNeg), .int (xs (i + 2).toNatClampNeg)]) (H.2.2 v (xs (i + 1).toNatClampNeg) (xs (i + 2).toNatClampNeg) x w h2) pm em sm (um w) rfl k_X9_queueNameByte l_L_192 rfl rfl rfl rfl rfl rfl rfl rfl rfl (fitL hR (by decide) (by decide) (by omega) (by omega)) (Nat.le_of_ble_eq_true rfl) ?_
  refine go_l 2 X (pc2 := 515) (ls2 := [some (.ref (SB + 201)), some (.ref 0), some (.ref 190), some (.ref 201), some (.int i), some (.int (MVTh w)), some (.int x), none, none]) (st2 := [.ref 190]) rfl ?_
  obtain ⟨pt, et, sn, ut⟩ := vw_m b (jf := jf) (hs := hs) (R := R) (T := T) (O := O) (Y := Y) (S := S) (C := C) (K := K) (U := U) (D := D) (v := w) (A := A')
  refine lcV X _ _ (As := []) (hT w (MVTh w) rfl) pt et sn (ut w) rfl k_X9_thrown l_L_193 rfl rfl rfl rfl rfl rfl rfl rfl rfl (fitL hR (by decide) (by decide) (by omega) (by omega)) (Nat.le_of_ble_eq_true rfl) ?_
  refine go_s 1 X (pc2 := 520) (st2 := [.int (MVTh w), .int (MVTh w)]) rfl ?_
  refine r_icmp_eq X 525 rfl rfl (fun _ => ?_) (fun h => absurd rfl h)
  refine go_s 1 X (pc2 := 527) (st2 := [.int (MVTh w)]) rfl ?_
  have fin : AW κ Q 542 [some (.ref (SB + 201)), some (.ref 0), some (.ref 190), some (.ref 201), some (.int i), some (.int (MVTh w)), some (.int x), none, none] [] (LW b jf hs R T O Y S C K U D w A') (nc + 1 + 0 + 0) (ns + 6 + 0 + 0) := go_s 1 X (pc2 := 3130) (st2 := []) rfl (kfin hk hA9 (by omega) (by omega))
  refine r_if_ne X 542 rfl rfl (fun _ => fin) (fun h0 => ?_)
  refine go_s 2 X (pc2 := 532) (st2 := [.int 0, .ref 201]) rfl ?_
  refine r_lald X (o := 201) (n := 1) rfl (lw_x b) in01 ?_
  refine AW.eq (st' := [.long (Int32.toInt64 x)]) ?_ rfl rfl (congrArg (fun q => [Value.long q]) (hA0 h0)) rfl
  refine go_s 3 X (pc2 := 537) (st2 := [.int (lg_cmp (Int32.toInt64 x) (Int32.toInt64 x))]) rfl ?_
  exact r_if_eq X 542 rfl rfl (fun _ => fin) (fun h => absurd (lg_self _) h)
set_option maxRecDepth 20000 in
set_option maxHeartbeats 2000000 in
theorem W_10 {κ : KX} {Q : State → Prop} {nm : String} (X : CX κ (z_W_h nm)) (hR : κR κ = room_1) {L : Nat} {xs : Nat → Int32} (SX : SCX κ L xs) (hT : H_th) (H : H_10) {i : Int32} (hi : SI L i) {nc ns : Nat} (hnc : nc + 4 ≤ 601024) (hns : ns + 24 ≤ 7293034) {b : Bool} {jf : Nat → Int32} {hs : Int32} {R : RV} {T : TV} {O : OV} {Y : YV} {S C K : SV} {U D : UV} {v : MV} {A : Nat → Int64} (hA : ALL' hs R O Y S C K U v) (hk : KONT κ Q i nc ns) : AW κ Q 545 (L0 i) [] (LW b jf hs R T O Y S C K U D v A) nc ns := by
  replace X := CX.swap (z' := z_W_10 nm) X rfl rfl rfl rfl (zo_W_10 nm)
  obtain ⟨i0, i1, i2, i3, i4, i5⟩ := hi
  obtain ⟨rc, x, w, h1, h2, hg, hA9⟩ := A_ownerNameByte hA (xs (i + 1).toNatClampNeg) (xs (i + 2).toNatClampNeg)
  obtain ⟨A', hM, hA0⟩ := s_L_ownerNameByte H (hs, U) A (xs (i + 1).toNatClampNeg) (xs (i + 2).toNatClampNeg) rc x _ h1 hg
  obtain ⟨pk, e0, eq, sb, pu⟩ := vw_uo b (jf := jf) (hs := hs) (R := R) (T := T) (O := O) (Y := Y) (S := S) (C := C) (K := K) (U := U) (D := D) (v := v) (A := A)
  refine go_s 1 X (pc2 := 546) (st2 := [.ref 0]) rfl ?_
  refine r_arg X SX (i := i) (c9 := 1) (pc2 := 551) rfl rfl i1 ?_
  refine r_arg X SX (i := i) (c9 := 2) (pc2 := 557) rfl rfl i2 ?_
  refine go_s 1 X (pc2 := 559) (st2 := [.ref 201, .int (xs (i + 2).toNatClampNeg), .int (xs (i + 1).toNatClampNeg), .ref 0]) rfl ?_
  refine lcS X _ _ [.int (xs (i + 1).toNatClampNeg), .int (xs (i + 2).toNatClampNeg)] hM pk e0 eq sb (pu hs U A') rfl k_L_ownerNameByte l_L_196 rfl rfl rfl rfl rfl (fitL hR (by decide) (by decide) (by omega) (by omega)) (Nat.le_of_ble_eq_true rfl) ?_
  refine go_l 2 X (pc2 := 565) (ls2 := [some (.ref (SB + 201)), some (.ref 0), some (.ref 190), some (.ref 201), some (.int i), some (.int (MVTh w)), none, none, none]) (st2 := [.ref 190]) rfl ?_
  refine r_arg X SX (i := i) (c9 := 1) (pc2 := 570) rfl rfl i1 ?_
  refine r_arg X SX (i := i) (c9 := 2) (pc2 := 576) rfl rfl i2 ?_
  obtain ⟨pm, em, sm, um⟩ := vw_m b (jf := jf) (hs := hs) (R := R) (T := T) (O := O) (Y := Y) (S := S) (C := C) (K := K) (U := U) (D := D) (v := v) (A := A')
  refine lcV X _ _ (As := [.int (xs (i + 1).toNatClampNeg), .int (xs (i + 2).toNatClampNeg)]) (H.2.2 v (xs (i + 1).toNatClampNeg) (xs (i + 2).toNatClampNeg) x w h2) pm em sm (um w) rfl k_X9_ownerNameByte l_L_198 rfl rfl rfl rfl rfl rfl rfl rfl rfl (fitL hR (by decide) (by decide) (by omega) (by omega)) (Nat.le_of_ble_eq_true rfl) ?_
  refine go_l 2 X (pc2 := 583) (ls2 := [some (.ref (SB + 201)), some (.ref 0), some (.ref 190), some (.ref 201), some (.int i), some (.int (MVTh w)), some (.int x), none, none]) (st2 := [.ref 190]) rfl ?_
  obtain ⟨pt, et, sn, ut⟩ := vw_m b (jf := jf) (hs := hs) (R := R) (T := T) (O := O) (Y := Y) (S := S) (C := C) (K := K) (U := U) (D := D) (v := w) (A := A')
  refine lcV X _ _ (As := []) (hT w (MVTh w) rfl) pt et sn (ut w) rfl k_X9_thrown l_L_193 rfl rfl rfl rfl rfl rfl rfl rfl rfl (fitL hR (by decide) (by decide) (by omega) (by omega)) (Nat.le_of_ble_eq_true rfl) ?_
  refine go_s 1 X (pc2 := 588) (st2 := [.int (MVTh w), .int (MVTh w)]) rfl ?_
  refine r_icmp_eq X 593 rfl rfl (fun _ => ?_) (fun h => absurd rfl h)
  refine go_s 1 X (pc2 := 595) (st2 := [.int (MVTh w)]) rfl ?_
  have fin : AW κ Q 610 [some (.ref (SB + 201)), some (.ref 0), some (.ref 190), some (.ref 201), some (.int i), some (.int (MVTh w)), some (.int x), none, none] [] (LW b jf hs R T O Y S C K U D w A') (nc + 1 + 0 + 0) (ns + 6 + 0 + 0) := go_s 1 X (pc2 := 3130) (st2 := []) rfl (kfin hk hA9 (by omega) (by omega))
  refine r_if_ne X 610 rfl rfl (fun _ => fin) (fun h0 => ?_)
  refine go_s 2 X (pc2 := 600) (st2 := [.int 0, .ref 201]) rfl ?_
  refine r_lald X (o := 201) (n := 1) rfl (lw_x b) in01 ?_
  refine AW.eq (st' := [.long (Int32.toInt64 x)]) ?_ rfl rfl (congrArg (fun q => [Value.long q]) (hA0 h0)) rfl
  refine go_s 3 X (pc2 := 605) (st2 := [.int (lg_cmp (Int32.toInt64 x) (Int32.toInt64 x))]) rfl ?_
  exact r_if_eq X 610 rfl rfl (fun _ => fin) (fun h => absurd (lg_self _) h)
set_option maxRecDepth 20000 in
set_option maxHeartbeats 2000000 in
theorem W_11 {κ : KX} {Q : State → Prop} {nm : String} (X : CX κ (z_W_h nm)) (hR : κR κ = room_1) {L : Nat} {xs : Nat → Int32} (SX : SCX κ L xs) (hT : H_th) (H : H_11) {i : Int32} (hi : SI L i) {nc ns : Nat} (hnc : nc + 4 ≤ 601024) (hns : ns + 24 ≤ 7293034) {b : Bool} {jf : Nat → Int32} {hs : Int32} {R : RV} {T : TV} {O : OV} {Y : YV} {S C K : SV} {U D : UV} {v : MV} {A : Nat → Int64} (hA : ALL' hs R O Y S C K U v) (hk : KONT κ Q i nc ns) : AW κ Q 613 (L0 i) [] (LW b jf hs R T O Y S C K U D v A) nc ns := by
  replace X := CX.swap (z' := z_W_11 nm) X rfl rfl rfl rfl (zo_W_11 nm)
  obtain ⟨i0, i1, i2, i3, i4, i5⟩ := hi
  obtain ⟨rc, x, w, h1, h2, hg, hA9⟩ := A_queueOf hA (xs (i + 1).toNatClampNeg)
  obtain ⟨A', hM, hA0⟩ := s_L_queueOf H (hs, S) A (xs (i + 1).toNatClampNeg) rc x _ h1 hg
  obtain ⟨pk, e0, eq, sb, pu⟩ := vw_so b (jf := jf) (hs := hs) (R := R) (T := T) (O := O) (Y := Y) (S := S) (C := C) (K := K) (U := U) (D := D) (v := v) (A := A)
  refine go_s 1 X (pc2 := 614) (st2 := [.ref 0]) rfl ?_
  refine r_arg X SX (i := i) (c9 := 1) (pc2 := 619) rfl rfl i1 ?_
  refine go_s 1 X (pc2 := 621) (st2 := [.ref 201, .int (xs (i + 1).toNatClampNeg), .ref 0]) rfl ?_
  refine lcS X _ _ [.int (xs (i + 1).toNatClampNeg)] hM pk e0 eq sb (pu hs S A') rfl k_L_queueOf l_L_199 rfl rfl rfl rfl rfl (fitL hR (by decide) (by decide) (by omega) (by omega)) (Nat.le_of_ble_eq_true rfl) ?_
  refine go_l 2 X (pc2 := 627) (ls2 := [some (.ref (SB + 201)), some (.ref 0), some (.ref 190), some (.ref 201), some (.int i), some (.int (MVTh w)), none, none, none]) (st2 := [.ref 190]) rfl ?_
  refine r_arg X SX (i := i) (c9 := 1) (pc2 := 632) rfl rfl i1 ?_
  obtain ⟨pm, em, sm, um⟩ := vw_m b (jf := jf) (hs := hs) (R := R) (T := T) (O := O) (Y := Y) (S := S) (C := C) (K := K) (U := U) (D := D) (v := v) (A := A')
  refine lcV X _ _ (As := [.int (xs (i + 1).toNatClampNeg)]) (H.2.2 v (xs (i + 1).toNatClampNeg) x w h2) pm em sm (um w) rfl k_X9_queueOf l_L_202 rfl rfl rfl rfl rfl rfl rfl rfl rfl (fitL hR (by decide) (by decide) (by omega) (by omega)) (Nat.le_of_ble_eq_true rfl) ?_
  refine go_l 2 X (pc2 := 639) (ls2 := [some (.ref (SB + 201)), some (.ref 0), some (.ref 190), some (.ref 201), some (.int i), some (.int (MVTh w)), some (.int x), none, none]) (st2 := [.ref 190]) rfl ?_
  obtain ⟨pt, et, sn, ut⟩ := vw_m b (jf := jf) (hs := hs) (R := R) (T := T) (O := O) (Y := Y) (S := S) (C := C) (K := K) (U := U) (D := D) (v := w) (A := A')
  refine lcV X _ _ (As := []) (hT w (MVTh w) rfl) pt et sn (ut w) rfl k_X9_thrown l_L_193 rfl rfl rfl rfl rfl rfl rfl rfl rfl (fitL hR (by decide) (by decide) (by omega) (by omega)) (Nat.le_of_ble_eq_true rfl) ?_
  refine go_s 1 X (pc2 := 644) (st2 := [.int (MVTh w), .int (MVTh w)]) rfl ?_
  refine r_icmp_eq X 649 rfl rfl (fun _ => ?_) (fun h => absurd rfl h)
  refine go_s 1 X (pc2 := 651) (st2 := [.int (MVTh w)]) rfl ?_
  have fin : AW κ Q 666 [some (.ref (SB + 201)), some (.ref 0), some (.ref 190), some (.ref 201), some (.int i), some (.int (MVTh w)), some (.int x), none, none] [] (LW b jf hs R T O Y S C K U D w A') (nc + 1 + 0 + 0) (ns + 6 + 0 + 0) := go_s 1 X (pc2 := 3130) (st2 := []) rfl (kfin hk hA9 (by omega) (by omega))
  refine r_if_ne X 666 rfl rfl (fun _ => fin) (fun h0 => ?_)
  refine go_s 2 X (pc2 := 656) (st2 := [.int 0, .ref 201]) rfl ?_
  refine r_lald X (o := 201) (n := 1) rfl (lw_x b) in01 ?_
  refine AW.eq (st' := [.long (Int32.toInt64 x)]) ?_ rfl rfl (congrArg (fun q => [Value.long q]) (hA0 h0)) rfl
  refine go_s 3 X (pc2 := 661) (st2 := [.int (lg_cmp (Int32.toInt64 x) (Int32.toInt64 x))]) rfl ?_
  exact r_if_eq X 666 rfl rfl (fun _ => fin) (fun h => absurd (lg_self _) h)
