/-! ===== 65: the reference's constructor, up to its names (gen65.py) ===== -/
def mv00 : MV := (z0, z0, z0, z0, 0, 0, 0, z0, 0, z0, 0, 0, -1, 0, 0, 0, 0, 0, 0, z0, 0, z0, z0, 0)
set_option maxHeartbeats 8000000 in
set_option maxRecDepth 20000 in
theorem i_X9a {κ : KX} {Q : State → Prop} (X : CX κ z_X9_init) (hR : κR κ = rmM 65 10 6560) (k : AW κ Q 88 [some (.ref 0), none, none, none, none, none] [] (WM mv00) 9 6536) : AW κ Q 0 [some (.ref 0), none, none, none, none, none] [] [.inr (9, [.null, .null, .null, .null, .int 0, .int 0, .int 0, .null, .int 0, .null, .int 0, .int 0, .int 0, .int 0, .int 0, .int 0, .int 0, .int 0, .int 0, .null, .int 0, .null, .null, .int 0])] 0 0 := by
  refine go_s 1 X (pc2 := 1) (st2 := [.ref 0]) rfl ?_
  refine r_obj X rfl (by decide +kernel) ob4 ob6 ⟨by rw [hR]; decide, by rw [hR]; decide⟩ ?_
  refine go_s 2 X (pc2 := 8) (st2 := [.int 500, .ref 0]) rfl ?_
  refine r_newa X 0 .int (a0 := (500, .inl z0)) (N := 500) rfl rfl hkd0 (by decide +kernel) (fun _ => rfl) (fun _ => rfl) (by decide) (by decide) (by decide) ⟨clo_all rfl, rfl, rfl⟩ (by decide) (by rw [hR]; decide) (by rw [hR]; decide) ?_
  refine r_putF X rfl (kk := 0) (ci := 9) (by decide) rfl rfl rfl rfl rfl rfl (by decide +kernel) rfl (by decide) ?_
  refine AW.eq (pc' := 13) (ls' := [some (.ref 0), none, none, none, none, none]) (st' := []) (AH' := [.inr (9, [.ref 1, .null, .null, .null, .int 0, .int 0, .int 0, .null, .int 0, .null, .int 0, .int 0, .int 0, .int 0, .int 0, .int 0, .int 0, .int 0, .int 0, .null, .int 0, .null, .null, .int 0]), .inl (0, 500, .inl z0)]) ?_ rfl rfl rfl rfl
  refine go_s 2 X (pc2 := 17) (st2 := [.int 500, .ref 0]) rfl ?_
  refine r_newa X 0 .int (a0 := (500, .inl z0)) (N := 500) rfl rfl hkd0 (by decide +kernel) (fun _ => rfl) (fun _ => rfl) (by decide) (by decide) (by decide) ⟨clo_all rfl, rfl, rfl⟩ (by decide) (by rw [hR]; decide) (by rw [hR]; decide) ?_
  refine r_putF X rfl (kk := 1) (ci := 9) (by decide) rfl rfl rfl rfl rfl rfl (by decide +kernel) rfl (by decide) ?_
  refine AW.eq (pc' := 22) (ls' := [some (.ref 0), none, none, none, none, none]) (st' := []) (AH' := [.inr (9, [.ref 1, .ref 2, .null, .null, .int 0, .int 0, .int 0, .null, .int 0, .null, .int 0, .int 0, .int 0, .int 0, .int 0, .int 0, .int 0, .int 0, .int 0, .null, .int 0, .null, .null, .int 0]), .inl (0, 500, .inl z0), .inl (0, 500, .inl z0)]) ?_ rfl rfl rfl rfl
  refine go_s 2 X (pc2 := 26) (st2 := [.int 500, .ref 0]) rfl ?_
  refine r_newa X 0 .int (a0 := (500, .inl z0)) (N := 500) rfl rfl hkd0 (by decide +kernel) (fun _ => rfl) (fun _ => rfl) (by decide) (by decide) (by decide) ⟨clo_all rfl, rfl, rfl⟩ (by decide) (by rw [hR]; decide) (by rw [hR]; decide) ?_
  refine r_putF X rfl (kk := 2) (ci := 9) (by decide) rfl rfl rfl rfl rfl rfl (by decide +kernel) rfl (by decide) ?_
  refine AW.eq (pc' := 31) (ls' := [some (.ref 0), none, none, none, none, none]) (st' := []) (AH' := [.inr (9, [.ref 1, .ref 2, .ref 3, .null, .int 0, .int 0, .int 0, .null, .int 0, .null, .int 0, .int 0, .int 0, .int 0, .int 0, .int 0, .int 0, .int 0, .int 0, .null, .int 0, .null, .null, .int 0]), .inl (0, 500, .inl z0), .inl (0, 500, .inl z0), .inl (0, 500, .inl z0)]) ?_ rfl rfl rfl rfl
  refine go_s 2 X (pc2 := 35) (st2 := [.int 4000, .ref 0]) rfl ?_
  refine r_newa X 0 .int (a0 := (4000, .inl z0)) (N := 4000) rfl rfl hkd0 (by decide +kernel) (fun _ => rfl) (fun _ => rfl) (by decide) (by decide) (by decide) ⟨clo_all rfl, rfl, rfl⟩ (by decide) (by rw [hR]; decide) (by rw [hR]; decide) ?_
  refine r_putF X rfl (kk := 3) (ci := 9) (by decide) rfl rfl rfl rfl rfl rfl (by decide +kernel) rfl (by decide) ?_
  refine AW.eq (pc' := 40) (ls' := [some (.ref 0), none, none, none, none, none]) (st' := []) (AH' := [.inr (9, [.ref 1, .ref 2, .ref 3, .ref 4, .int 0, .int 0, .int 0, .null, .int 0, .null, .int 0, .int 0, .int 0, .int 0, .int 0, .int 0, .int 0, .int 0, .int 0, .null, .int 0, .null, .null, .int 0]), .inl (0, 500, .inl z0), .inl (0, 500, .inl z0), .inl (0, 500, .inl z0), .inl (0, 4000, .inl z0)]) ?_ rfl rfl rfl rfl
  refine go_s 2 X (pc2 := 43) (st2 := [.int 6, .ref 0]) rfl ?_
  refine r_newa X 0 .int (a0 := (6, .inl z0)) (N := 6) rfl rfl hkd0 (by decide +kernel) (fun _ => rfl) (fun _ => rfl) (by decide) (by decide) (by decide) ⟨clo_all rfl, rfl, rfl⟩ (by decide) (by rw [hR]; decide) (by rw [hR]; decide) ?_
  refine r_putF X rfl (kk := 7) (ci := 9) (by decide) rfl rfl rfl rfl rfl rfl (by decide +kernel) rfl (by decide) ?_
  refine AW.eq (pc' := 48) (ls' := [some (.ref 0), none, none, none, none, none]) (st' := []) (AH' := [.inr (9, [.ref 1, .ref 2, .ref 3, .ref 4, .int 0, .int 0, .int 0, .ref 5, .int 0, .null, .int 0, .int 0, .int 0, .int 0, .int 0, .int 0, .int 0, .int 0, .int 0, .null, .int 0, .null, .null, .int 0]), .inl (0, 500, .inl z0), .inl (0, 500, .inl z0), .inl (0, 500, .inl z0), .inl (0, 4000, .inl z0), .inl (0, 6, .inl z0)]) ?_ rfl rfl rfl rfl
  refine go_s 2 X (pc2 := 52) (st2 := [.int 600, .ref 0]) rfl ?_
  refine r_newa X 3 .byte (a0 := (600, .inl z0)) (N := 600) rfl rfl hkd3 (by decide +kernel) (fun _ => rfl) (fun _ => rfl) (by decide) (by decide) (by decide) ⟨clo_all rfl, rfl, rfl⟩ (by decide) (by rw [hR]; decide) (by rw [hR]; decide) ?_
  refine r_putF X rfl (kk := 9) (ci := 9) (by decide) rfl rfl rfl rfl rfl rfl (by decide +kernel) rfl (by decide) ?_
  refine AW.eq (pc' := 57) (ls' := [some (.ref 0), none, none, none, none, none]) (st' := []) (AH' := [.inr (9, [.ref 1, .ref 2, .ref 3, .ref 4, .int 0, .int 0, .int 0, .ref 5, .int 0, .ref 6, .int 0, .int 0, .int 0, .int 0, .int 0, .int 0, .int 0, .int 0, .int 0, .null, .int 0, .null, .null, .int 0]), .inl (0, 500, .inl z0), .inl (0, 500, .inl z0), .inl (0, 500, .inl z0), .inl (0, 4000, .inl z0), .inl (0, 6, .inl z0), .inl (3, 600, .inl z0)]) ?_ rfl rfl rfl rfl
  refine go_s 2 X (pc2 := 59) (st2 := [.int (-1), .ref 0]) rfl ?_
  refine go 1 X (pc2 := 62) (ls2 := [some (.ref 0), none, none, none, none, none]) (st2 := []) (AH2 := [.inr (9, [.ref 1, .ref 2, .ref 3, .ref 4, .int 0, .int 0, .int 0, .ref 5, .int 0, .ref 6, .int 0, .int 0, .int (-1), .int 0, .int 0, .int 0, .int 0, .int 0, .int 0, .null, .int 0, .null, .null, .int 0]), .inl (0, 500, .inl z0), .inl (0, 500, .inl z0), .inl (0, 500, .inl z0), .inl (0, 4000, .inl z0), .inl (0, 6, .inl z0), .inl (3, 600, .inl z0)]) rfl ?_
  refine go_s 2 X (pc2 := 66) (st2 := [.int 150, .ref 0]) rfl ?_
  refine r_newa X 0 .int (a0 := (150, .inl z0)) (N := 150) rfl rfl hkd0 (by decide +kernel) (fun _ => rfl) (fun _ => rfl) (by decide) (by decide) (by decide) ⟨clo_all rfl, rfl, rfl⟩ (by decide) (by rw [hR]; decide) (by rw [hR]; decide) ?_
  refine r_putF X rfl (kk := 19) (ci := 9) (by decide) rfl rfl rfl rfl rfl rfl (by decide +kernel) rfl (by decide) ?_
  refine AW.eq (pc' := 71) (ls' := [some (.ref 0), none, none, none, none, none]) (st' := []) (AH' := [.inr (9, [.ref 1, .ref 2, .ref 3, .ref 4, .int 0, .int 0, .int 0, .ref 5, .int 0, .ref 6, .int 0, .int 0, .int (-1), .int 0, .int 0, .int 0, .int 0, .int 0, .int 0, .ref 7, .int 0, .null, .null, .int 0]), .inl (0, 500, .inl z0), .inl (0, 500, .inl z0), .inl (0, 500, .inl z0), .inl (0, 4000, .inl z0), .inl (0, 6, .inl z0), .inl (3, 600, .inl z0), .inl (0, 150, .inl z0)]) ?_ rfl rfl rfl rfl
  refine go_s 2 X (pc2 := 74) (st2 := [.int 40, .ref 0]) rfl ?_
  refine r_newa X 0 .int (a0 := (40, .inl z0)) (N := 40) rfl rfl hkd0 (by decide +kernel) (fun _ => rfl) (fun _ => rfl) (by decide) (by decide) (by decide) ⟨clo_all rfl, rfl, rfl⟩ (by decide) (by rw [hR]; decide) (by rw [hR]; decide) ?_
  refine r_putF X rfl (kk := 21) (ci := 9) (by decide) rfl rfl rfl rfl rfl rfl (by decide +kernel) rfl (by decide) ?_
  refine AW.eq (pc' := 79) (ls' := [some (.ref 0), none, none, none, none, none]) (st' := []) (AH' := [.inr (9, [.ref 1, .ref 2, .ref 3, .ref 4, .int 0, .int 0, .int 0, .ref 5, .int 0, .ref 6, .int 0, .int 0, .int (-1), .int 0, .int 0, .int 0, .int 0, .int 0, .int 0, .ref 7, .int 0, .ref 8, .null, .int 0]), .inl (0, 500, .inl z0), .inl (0, 500, .inl z0), .inl (0, 500, .inl z0), .inl (0, 4000, .inl z0), .inl (0, 6, .inl z0), .inl (3, 600, .inl z0), .inl (0, 150, .inl z0), .inl (0, 40, .inl z0)]) ?_ rfl rfl rfl rfl
  refine go_s 2 X (pc2 := 83) (st2 := [.int 240, .ref 0]) rfl ?_
  refine r_newa X 3 .byte (a0 := (240, .inl z0)) (N := 240) rfl rfl hkd3 (by decide +kernel) (fun _ => rfl) (fun _ => rfl) (by decide) (by decide) (by decide) ⟨clo_all rfl, rfl, rfl⟩ (by decide) (by rw [hR]; decide) (by rw [hR]; decide) ?_
  refine r_putF X rfl (kk := 22) (ci := 9) (by decide) rfl rfl rfl rfl rfl rfl (by decide +kernel) rfl (by decide) ?_
  refine AW.eq (pc' := 88) (ls' := [some (.ref 0), none, none, none, none, none]) (st' := []) (AH' := [.inr (9, [.ref 1, .ref 2, .ref 3, .ref 4, .int 0, .int 0, .int 0, .ref 5, .int 0, .ref 6, .int 0, .int 0, .int (-1), .int 0, .int 0, .int 0, .int 0, .int 0, .int 0, .ref 7, .int 0, .ref 8, .ref 9, .int 0]), .inl (0, 500, .inl z0), .inl (0, 500, .inl z0), .inl (0, 500, .inl z0), .inl (0, 4000, .inl z0), .inl (0, 6, .inl z0), .inl (3, 600, .inl z0), .inl (0, 150, .inl z0), .inl (0, 40, .inl z0), .inl (3, 240, .inl z0)]) ?_ rfl rfl rfl rfl
  exact AW.eq k rfl rfl rfl rfl
