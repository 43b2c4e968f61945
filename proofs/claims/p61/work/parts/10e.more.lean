/-! ===== 10e: floorMod; a NoSuchElementException thrown (began as rows of kit/laws/EXCEPTIONS.to-paste: vx_ofW, vx_ctorMadeS, vx_makeS, turned to this claim) ===== -/
def z_fmod : MZ := (yJ9_floorMod_7cf53, cJ9_floorMod_7cf53, 3, (some .int), [(0, .iload_n 0, 1), (1, .iload_n 1, 1), (2, .irem, 1), (3, .istore_n 2, 1), (4, .iload_n 0, 1), (5, .iload_n 1, 1), (6, .ixor, 1), (7, .ifCond .ge 11, 3), (10, .iload_n 2, 1), (11, .ifCond .eq 7, 3), (14, .iload_n 2, 1), (15, .iload_n 1, 1), (16, .iadd, 1), (17, .ireturn, 1), (18, .iload_n 2, 1), (19, .ireturn, 1)], [])
set_option maxRecDepth 20000 in
theorem zo_fmod : ZOK z_fmod := ⟨by decide +kernel, by intro q hq; cases hq⟩
set_option maxRecDepth 20000 in
theorem k_fmod : LKS z_fmod 2 := ⟨⟨ALL_at 734 (by decide +kernel) rfl, (inALL_at 44 (by decide +kernel) rfl), by decide +kernel⟩, (inALL_at 733 (by decide +kernel) rfl)⟩
theorem nx_ofW {l : Launch} {y : MethodName} {ws ws' : List Cond} {rm : Room} {Pc : Array Value → State → Prop} {Qc : Array Value → State → Outcome → State → Prop} {XC : String → State → State → Prop} {mc ms : Nat} {free : Addr → Prop} {cc : ByteArray} {maxL : Nat} {ret : Option FieldType}
    (hy : plainFor y = true) (hw : ws = Cond.code y cc maxL ret :: ws')
    (body : ∀ p e s m args below meth c s₁, BodyLoose p l y (headSpec ws rm) cc maxL ret e s m args below meth c s₁ → c.maxLocals = maxL → (∀ x ∈ c.exceptionTable.toList, False) → Pc args s →
      W p l e (headSpec ws rm).room s m args below meth c s.heap [] 0 0 (vx_MQ below Qc XC args s mc ms free) (entryFrame m args maxL)) : vx_Met l y ws rm Pc Qc XC mc ms free := by
  refine MetFree.of_bodySF (code := cc) (maxLocals := maxL) (ret := ret) hy ?_ ?_
  · intro args s m h hn
    obtain ⟨meth, c, h1, h2, h3, h4, h5, h6, -, -⟩ := Cond.code_spec hn (atoms_spec (ws := ws) h _ (by rw [hw]; exact List.mem_cons_self))
    exact ⟨meth, c, h1, h2, h3, h4, h5, h6⟩
  · intro p e s m args below meth c s₁ B hml hP _
    have hh0 : s₁.heap = s.heap := by rw [B.state]; rfl
    have ht : ∀ x ∈ c.exceptionTable.toList, False := by
      obtain ⟨meth9, c9, h1, h2, -, -, -, -, h7, -⟩ := Cond.code_spec B.named (atoms_spec (ws := ws) B.pre _ (by rw [hw]; exact List.mem_cons_self))
      cases Option.some.inj (h1.symm.trans B.method)
      cases Option.some.inj (h2.symm.trans (Stand.of_body B).code)
      intro x hx
      rw [Array.isEmpty_iff.mp h7] at hx
      cases hx
    obtain ⟨t, a1, o, b1, b2, b3⟩ := body p e s m args below meth c s₁ B hml ht hP s₁ hh0 (Stand.of_body B)
    exact ⟨t, o, a1, b1, b2, b3⟩
theorem Sem.ofF {z : MZ} {d mc ms : Nat} {As : List Value} {AH : List AC} {P : PO} (hz : ZOK z) (hpl : plainFor (zY z) = true) (hAs : slen As ≤ zN z)
    (body : ∀ κ : KX, CX κ z → CE κ → κR κ = rmM d mc ms → κN κ = AH.length → AW κ (QM κ P mc ms) 0 (loc0 As (zN z)) [] AH 0 0) : Sem z d mc ms As AH P := by
  intro l hl D cA ad sz
  refine nx_ofW (cc := zB z) (maxL := zN z) (ret := zR z) hpl rfl ?_
  intro p e s m args below meth c s₁ B hml hE hv
  obtain ⟨rfl, hsz, hP, hK, hD0, hG⟩ := hv
  subst hsz
  have hts := atoms_spec (ws := wsM z) B.pre
  have k := body (p, l, e, (headSpec (wsM z) (rmM d mc ms)).room, s, m, (As.map (cvV ad)).toArray, below, meth, c, D, cA, va_A (cw cA ad AH) s.heap.size, AH.length, ad)
    ⟨B.exec, B.bytes, hml, findClass_of_methodNamed B.named, fun w hw => hts w (List.mem_cons_of_mem _ hw), hK, hG, fun q h => Or.inr h, B.notSynchronized, hl, B.returns, (name_of_methodNamed B.named B.method).1, hz⟩ hE rfl rfl
  have k2 := k ad s.heap [] ((lg_sl (As.map (cvV ad)) ++ List.replicate (zN z - (lg_sl (As.map (cvV ad))).length) Slot.unset).toArray) (fun _ _ => rfl) (fun _ => rfl) (Nat.le_refl _) hP hD0.self va_S.rf (by rw [hml]; exact LR.entry ad hAs)
  rw [lg_entry_eq]
  exact k2
theorem c_fmod (x y : Int32) (hy : ¬ y = 0) : Sem z_fmod 0 0 0 [.int x, .int y] [] (PST (.inl (some (.int (fmod x y)))) []) := by
  refine Sem.ofF zo_fmod (by decide +kernel) (Nat.le_of_ble_eq_true rfl) fun κ X hE hR hN => ?_
  refine AW.eq (pc' := 0) (ls' := [some (.int x), some (.int y), none]) (st' := []) (AH' := []) ?_ rfl rfl rfl rfl
  refine go_s 2 X (pc2 := 2) (st2 := [.int y, .int x]) rfl ?_
  refine r_irem X rfl hy ?_
  refine go_l 3 X (pc2 := 6) (ls2 := [some (.int x), some (.int y), some (.int (x - x / y * y))]) (st2 := [.int y, .int x]) rfl ?_
  refine r_ixor X rfl ?_
  unfold fmod
  refine r_if_ge X 18 rfl rfl (fun c1 => ?_) (fun c1 => ?_)
  · rw [if_pos c1]
    refine go_s 1 X (pc2 := 19) (st2 := [.int (x - x / y * y)]) rfl ?_
    exact r_iret X rfl rfl ⟨rfl, rfl⟩ (by decide) (by decide)
  · rw [if_neg c1]
    refine go_s 1 X (pc2 := 11) (st2 := [.int (x - x / y * y)]) rfl ?_
    refine r_if_eq X 18 rfl rfl (fun c2 => ?_) (fun c2 => ?_)
    · rw [if_pos c2]
      refine go_s 1 X (pc2 := 19) (st2 := [.int (x - x / y * y)]) rfl ?_
      exact r_iret X rfl rfl ⟨rfl, rfl⟩ (by decide) (by decide)
    · rw [if_neg c2]
      refine go_s 3 X (pc2 := 17) (st2 := [.int (x - x / y * y + y)]) rfl ?_
      exact r_iret X rfl rfl ⟨rfl, rfl⟩ (by decide) (by decide)
theorem r_fmod {κ : KX} {z : MZ} {Q : State → Prop} {pc : Nat} {ls : List (Option Value)} {r : List Value} {AH : List AC} {nc ns : Nat} (X : CX κ z) {index d0 mc0 ms0 : Nat} {x y : Int32} (hd : fetch (zC z) pc = some (.invokestatic index, 3)) (hl : inALL (.methodLink (zY z).cls index yJ9_floorMod_7cf53) = true) (hy : ¬ y = 0) (hR : κR κ = rmM d0 mc0 ms0) (hd0 : 0 < d0) (hc : nc ≤ mc0) (hs : ns ≤ ms0) (hsum : csum r ≤ 8)
    (k : AW κ Q (pc + 3) ls (.int (fmod x y) :: r) AH nc ns) : AW κ Q pc ls (.int y :: .int x :: r) AH nc ns := by
  refine r_callS X [] [] (As := [.int x, .int y]) (rest := r) (c_fmod x y hy) ⟨rfl, rfl⟩ hd k_fmod (Or.inl hl) rfl rfl (fit_of hR hd0 (by decide) (by omega) (by omega)) hsum (Nat.zero_le _) (fun _ _ e => by rw [e.2]) (fun v A9 e => ?_) (fun _ _ e => by have e1 := e.1; cases e1)
  obtain ⟨e1, rfl⟩ := e
  cases e1
  rw [show ([] : List AC).map (rnE (iof [] [] AH.length)) = [] from rfl, putB_nil]
  exact k
theorem iof_k {i : Nat} (hi : i < 6) (n : Nat) : iof [] [] n (SB + i) = SB + i := iof_sb (Nat.le_add_right _ _) (by have : nStr = 18 := rfl; unfold SD; omega) (Nat.zero_le _)
