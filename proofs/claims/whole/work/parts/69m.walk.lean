/-! ===== 69m: the claim's one walk, the contracts being given ===== -/
theorem ws_gen {p : Program} {e : Env} {s : State} {m : MethodId} {below : List Frame} {meth : Method} {c : Code} (hT : H_th) (HA : HALL) (HJ : HINI) (l : Launch) (hflags : l.flags = flags0) {b L : Nat} {xs : Nat → Int32} (hL : L ≤ 3072) (C0 : lw_At p s m meth c b L xs) : W p l e room_1 s m #[Value.ref b] below meth c s.heap [] 0 0 (lw_Z below #[Value.ref b] s) (entryFrame m ([Value.ref b] : List Value).toArray 9) := by
  obtain ⟨hx, hb, hr, hml, hown, hts, hX, hbl, hlocks, hgv⟩ := id C0
  have hfl : ∀ c ∈ FLT, c.before #[Value.ref b] s = true := flat_of_before _ hgv
  have hA : ∀ a : Nat, a < s.heap.size → ¬ (fun q : Nat => s.heap.size ≤ q) a := fun a h => Nat.not_le.mpr h
  obtain ⟨ad0, e0, hG⟩ := GL_start b hts hfl hA
  obtain ⟨D, cA, hK⟩ := KA_start hts
  have htr : l.stackTraces = false := by
    show (!l.flags.contains noTraceFlag) = false
    rw [hflags]
    decide +kernel
  have X : CX (p, l, e, room_1, s, m, #[Value.ref b], below, meth, c, D, cA, fun q : Nat => s.heap.size ≤ q, 0, ad0) (z_W_h meth.name) := ⟨hx, hb, hml, hown, fun w hw => hts w (List.mem_filter.mp hw).1, hK, hG, fun q h => h, hlocks, htr, hr, rfl, zo_W_h _⟩
  have SX : SCX (p, l, e, room_1, s, m, #[Value.ref b], below, meth, c, D, cA, fun q : Nat => s.heap.size ≤ q, 0, ad0) L xs := by
    show va_X (ad0 (SB + 201)) L xs s s.heap ∧ ad0 (SB + 201) < s.heap.size ∧ ¬ s.heap.size ≤ ad0 (SB + 201)
    rw [e0]
    exact ⟨hX, hbl, Nat.not_le.mpr hbl⟩
  have hd0 := Drawn.sameBut.refl s.drawn lw_cs
  have k := law_begin (Q := lw_Z below #[Value.ref b] s) X rfl SX hL hT HA HJ (fun i AH nc ns h1 h2 => by
    refine go_s 1 X (pc2 := 3137) (st2 := [.int 1]) rfl ?_
    have hdg : decode code 3137 = .ok (.ireturn, 1) := d_W_h (3137, .ireturn, 1) (List.mem_of_getElem? (i := 28) rfl)
    intro ad H locs lsA g1 g2 g3 hP hD hS hL9
    refine va_forget (fun q hq => hS.2.2 q hq) (W.widen h1 h2 ?_)
    exact lw_ret (d0 := s.drawn) hd0 hx hb hr hlocks hdg)
  have k2 := k ad0 s.heap [] ((lg_sl (([Value.ref (SB + 201)] : List Value).map (cvV ad0)) ++ List.replicate (9 - (lg_sl (([Value.ref (SB + 201)] : List Value).map (cvV ad0))).length) Slot.unset).toArray) (fun _ _ => rfl) (fun _ => rfl) (Nat.le_refl _) (fun k q h => by simp [cw] at h) ⟨fun i j p q h => by simp [cw] at h, fun k q h => by simp [cw] at h⟩ va_S.rf (by rw [hml]; exact LR.entry ad0 (As := [Value.ref (SB + 201)]) (Nat.le_of_ble_eq_true rfl))
  rw [lg_entry_eq]
  have e1 : ([Value.ref (SB + 201)] : List Value).map (cvV ad0) = [Value.ref b] := by
    show [Value.ref (ad0 (SB + 201))] = [Value.ref b]
    rw [e0]
  rw [e1] at k2
  exact k2
