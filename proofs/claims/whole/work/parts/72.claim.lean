/-! ===== 72: the contracts put in; the claim ===== -/
theorem hth : H_th := c_X9_thrown
theorem hall : HALL := ⟨⟨c_X8_appendInput, c_X9_appendInput⟩, ⟨c_X8_truncateInput, c_X9_truncateInput⟩, ⟨c_X8_loadSetup, c_X9_loadSetup⟩, ⟨c_X8_runScript, c_X9_runScript⟩, ⟨c_X8_errorCode, c_X9_errorCode⟩, ⟨c_X8_errorOffset, c_X9_errorOffset⟩, ⟨c_X8_queueCount, c_X9_queueCount⟩, ⟨c_X8_ownerCount, c_X9_ownerCount⟩, ⟨c_X8_jobCount, c_X9_jobCount⟩, ⟨c_L_queueNameByte, c_L_queueNameByte_x1, c_X9_queueNameByte⟩, ⟨c_L_ownerNameByte, c_L_ownerNameByte_x1, c_X9_ownerNameByte⟩, ⟨c_L_queueOf, c_L_queueOf_x1, c_X9_queueOf⟩, ⟨c_L_ownerOf, c_L_ownerOf_x1, c_X9_ownerOf⟩, ⟨c_L_priority, c_L_priority_x1, c_X9_priority⟩, ⟨c_L_pages, c_L_pages_x1, c_X9_pages⟩, ⟨c_L_isWaiting, c_L_isWaiting_x1, c_X9_isWaiting⟩, ⟨c_L_isPrinted, c_L_isPrinted_x1, c_X9_isPrinted⟩, ⟨c_L_isCancelled, c_L_isCancelled_x1, c_X9_isCancelled⟩, ⟨c_L_root, c_L_root_x1, c_X9_root⟩, ⟨c_L_leftChild, c_L_leftChild_x1, c_X9_leftChild⟩, ⟨c_L_rightChild, c_L_rightChild_x1, c_X9_rightChild⟩, ⟨c_L_parent, c_L_parent_x1, c_X9_parent⟩, ⟨c_L_rank, c_L_rank_x1, c_X9_rank⟩, ⟨c_L_depth, c_L_depth_x1, c_L_depth_x2, c_X9_depth⟩, ⟨c_L_height, c_L_height_x1, c_X9_height⟩, ⟨c_L_size, c_L_size_x1, c_X9_size⟩, ⟨c_L_jobAt, c_L_jobAt_x1, c_X9_jobAt⟩, ⟨c_L_positionOf, c_L_positionOf_x1, c_L_positionOf_x2, c_X9_positionOf⟩, ⟨c_L_pagesBefore, c_L_pagesBefore_x1, c_L_pagesBefore_x2, c_X9_pagesBefore⟩, ⟨c_L_minutesUntilPrinted, c_L_minutesUntilPrinted_x1, c_L_minutesUntilPrinted_x2, c_X9_minutesUntilPrinted⟩, ⟨c_L_waitingPages, c_L_waitingPages_x1, c_X9_waitingPages⟩, ⟨c_L_printedPages, c_L_printedPages_x1, c_X9_printedPages⟩, ⟨c_L_speed, c_L_speed_x1, c_X9_speed⟩, ⟨c_L_isPaused, c_L_isPaused_x1, c_X9_isPaused⟩, ⟨c_X8_leastLoadedQueue, c_X9_leastLoadedQueue⟩, ⟨c_L_waitingPagesOfOwner, c_L_waitingPagesOfOwner_x1, c_X9_waitingPagesOfOwner⟩, ⟨c_L_printedPagesOfOwner, c_L_printedPagesOfOwner_x1, c_X9_printedPagesOfOwner⟩, ⟨c_L_printingObstacle, c_L_printingObstacle_x1, c_X9_printingObstacle⟩, ⟨c_X8_comparisons, c_X9_comparisons⟩, ⟨c_X8_swaps, c_X9_swaps⟩, ⟨c_L_mergeCost, c_L_mergeCost_x1, c_L_mergeCost_x2, c_X9_mergeCost⟩, ⟨c_L_rankAfterMerge, c_L_rankAfterMerge_x1, c_L_rankAfterMerge_x2, c_X9_rankAfterMerge⟩, ⟨c_L_positionWith, c_L_positionWith_x1, c_L_positionWith_x2, c_L_positionWith_x3, c_X9_positionWith⟩, ⟨c_X8_meanRank, c_X9_meanRank⟩, ⟨c_X8_printedPart, c_X9_printedPart⟩, ⟨c_X8_isConsistent, c_X9_isConsistent⟩, ⟨c_L_submit, c_L_submit_x1, c_L_submit_x2, c_L_submit_x3, c_X9_submit⟩, ⟨c_L_printNext, c_L_printNext_x1, c_L_printNext_x2, c_X9_printNext⟩, ⟨c_L_cancel, c_L_cancel_x1, c_L_cancel_x2, c_X9_cancel⟩, ⟨c_L_changePriority, c_L_changePriority_x1, c_L_changePriority_x2, c_L_changePriority_x3, c_X9_changePriority⟩, ⟨c_L_moveJob, c_L_moveJob_x1, c_L_moveJob_x2, c_X9_moveJob⟩, ⟨c_L_mergeQueues, c_L_mergeQueues_x1, c_L_mergeQueues_x2, c_X9_mergeQueues⟩, ⟨c_L_setPaused, c_L_setPaused_x1, c_X9_setPaused⟩, ⟨c_L_undo, c_L_undo_x1, c_X9_undo⟩, ⟨c_L_writeHeap, c_L_writeHeap_x1, c_X9_writeHeap⟩, ⟨c_X8_outputByte, c_X9_outputByte⟩, ⟨c_X8_saveState, c_X9_saveState⟩, ⟨c_L_restoreState, c_L_restoreState_x1, c_X9_restoreState⟩⟩
theorem hini : HINI := ⟨c_X4_appendText, c_X8_readSetup, c_X8_adoptDraft, fun w h => c_X9_init h⟩
theorem whole_start {p : Program} {e : Env} {s : State} {m : MethodId} {below : List Frame} {meth : Method} {c : Code} (l : Launch) (hflags : l.flags = flags0) {b L : Nat} {xs : Nat → Int32} (hL : L ≤ 3072) (C0 : lw_At p s m meth c b L xs) : W p l e room_1 s m #[Value.ref b] below meth c s.heap [] 0 0 (lw_Z below #[Value.ref b] s) (entryFrame m ([Value.ref b] : List Value).toArray 9) :=
  ws_gen hth hall hini l hflags hL C0
set_option maxHeartbeats 4000000 in
theorem lw_walk (l : Launch) (hflags : l.flags = flags0) (b : Addr) (xs : List Int32) : MetFree l x (headSpec (Jvm.Cond.code x code maxLocals ret :: tables_1) room_1) (lw_P b xs) (fun _ _ _ _ _ => True) lw_Q := by
  refine MetFree.of_bodyS (code := code) (maxLocals := maxLocals) (ret := ret) (by decide) ?_ ?_
  · intro args s m h hn
    obtain ⟨meth, c, h1, h2, h3, h4, h5, h6, -, -⟩ := Cond.code_spec hn (atoms_spec (ws := Jvm.Cond.code x code maxLocals ret :: tables_1) h _ List.mem_cons_self)
    exact ⟨meth, c, h1, h2, h3, h4, h5, h6⟩
  · intro p e s m args below meth c s₁ B hml0 hP _
    obtain ⟨rfl, hx, hbd, hgv⟩ := hP
    obtain ⟨scr, harrAt, hlist, hof, hsmall⟩ := hx
    obtain ⟨hcb, hkn, -, -⟩ := State.arrayAt?_spec harrAt
    have hown : s.vm.findClass R_law = some m.cls := findClass_of_methodNamed B.named
    have hts0 : ∀ c ∈ (Jvm.Cond.code x code maxLocals ret :: tables_1), c.before #[Value.ref b] s = true := atoms_spec (ws := Jvm.Cond.code x code maxLocals ret :: tables_1) B.pre
    have hts : ∀ w ∈ lw_tbl, w.before #[Value.ref b] s = true := k2_hts_sels lw_privs (fun w hw => hts0 w (List.mem_cons_of_mem _ hw)) lw_privs_ok
    have hml : c.maxLocals = 9 := B.maxLocals_eq (hts0 _ List.mem_cons_self)
    have X₀ : Stand p l e room_1 s m #[Value.ref b] below meth c s₁ [] 0 0 := Stand.of_body B
    have hh0 : s₁.heap = s.heap := by rw [B.state]; rfl
    have hsz : scr.slots.size = xs.length := by rw [← Array.length_toList, hlist, List.length_map]
    have hval : ∀ j : Nat, j < xs.length → scr.slots[j]? = some (.int (xs.getD j 0)) := fun j hj => by
      rw [← Array.getElem?_toList, hlist]
      simp [hj]
    have hbl : b < s.heap.size := (Array.getElem?_eq_some_iff.mp hcb).1
    have hX : va_X b xs.length (fun j => xs.getD j 0) s s.heap := ⟨scr, hcb, hof, hkn, hsz, hval⟩
    have K : W p l e room_1 s m #[Value.ref b] below meth c s₁.heap [] 0 0 (lw_Z below #[Value.ref b] s) (entryFrame m ([Value.ref b] : List Value).toArray 9) := by
      rw [hh0]
      exact whole_start l hflags hbd ⟨B.exec, B.bytes, B.returns, hml, hown, hts, hX, hbl, B.notSynchronized, hgv⟩
    obtain ⟨t, a1, o, b1, b2, b3⟩ := K s₁ rfl X₀
    exact ⟨t, o, a1, b1, b2, b3⟩
theorem lw_pre_spec {args : Array Value} {s : State} (h : (Jvm.Cond.and given_1 narrow_1).before args s = true) (hr : rest_1_c.before args s = true) : ∃ (b : Addr) (xs : List Int32), lw_P b xs args s := by
  have hs := flat_of_before _ h
  have hq := flat_of_before _ hr
  have hc : (Cond.count 1).before args s = true := hs _ (by decide +kernel)
  have harr : (Cond.arrayOf (.arg 0) .int).before args s = true := hs _ (by decide +kernel)
  have hle : (Cond.le (.length (.arg 0)) (.int 3072)).before args s = true := hs _ (by decide +kernel)
  have hlen : (Cond.isInt (.length (.arg 0))).before args s = true := hq _ (by decide +kernel)
  have hall : (Cond.all (.arg 0) (.isInt (.elem (.arg 0) (.index 0)))).before args s = true := hq _ (by decide +kernel)
  obtain ⟨b, xs, hb, hx⟩ := State.ints_of_pre rfl harr hlen hall
  have hsm : xs.length < 2 ^ 31 := hx.choose_spec.2.2.2
  have hev : (Term.length (.arg 0)).eval args s none [] s = some (.int xs.length.toInt32) := hx.length_eval hb
  have hv := Cond.le_ints hev (show (Term.int 3072).eval args s none [] s = some (.int 3072) from rfl)
  have hd : xs.length.toInt32 ≤ 3072 := by
    simpa [Cond.before, Cond.holds, hv] using hle
  have hN : xs.length ≤ 3072 := (Int32.ofNat_le_ofNat hsm (by decide)).mp (show Int32.ofNat xs.length ≤ Int32.ofNat 3072 from hd)
  exact ⟨b, xs, Cond.one_arg hc (show args[0]? = some (.ref b) from hb), hx, hN, h⟩
theorem lw_comes (l : Launch) (hflags : l.flags = flags0) : Comes l x (Jvm.Cond.code x code maxLocals ret :: tables_1) room_1 (fun tb e args s => Calls_1 tb e args s ∧ rest_1 tb e args s ∧ Pre_1 tb e args s)
    (fun _ _ args s o t => lw_Q args s o t) := by
  intro p e ha hc hk s m args below hf hfit hheap happ hpre
  obtain ⟨b, xs, hP⟩ := lw_pre_spec hpre.2.2 hpre.2.1
  obtain ⟨k, o, h1, h2, h3, hQ⟩ := lw_walk l hflags b xs p e ha hc hk s m args below hf ((Spec.applies_iff_loose hf).mp happ).1 hP trivial
  exact ⟨k, o, h1, h2, h3, hQ⟩
theorem lw_frame {s t : State} {o : Outcome} {args : Array Value} (h : State.butDraws s t lw_cs (fun t1 => Framed s o t1 [] 601024 7293034)) :
    State.butDraws s t [Jvm.Choice.named "NaN.bits"] (fun t1 => Framed s o t1 (fieldLocs frame_1_writes args s ++ arrayLocs frame_1_arrays args s ++ staticLocs frame_1_statics s) 601024 7293034) := h
theorem lw_limb (L : Cond) (hL : ∀ (args : Array Value) (s t : State), L.after args s (.returned (some (.int 1))) t = true) :
    ArmFor flags0 classFile x code maxLocals ret World_1 tables_1 room_1 Calls_1 rest_1 Pre_1
      (fun tb e a s o t => postC L tb e a s o t ∧ State.butDraws s t [Jvm.Choice.named "NaN.bits"] (fun t1 => Framed s o t1 (fieldLocs frame_1_writes a s ++ arrayLocs frame_1_arrays a s ++ staticLocs frame_1_statics s) 601024 7293034)) := by
  intro l hflags _ _ p e ha hc hk s m args below hf hfit hheap happ hpre
  obtain ⟨k, o, h1, h2, h3, rfl, hF⟩ := lw_comes l hflags p e ha hc hk s m args below hf hfit hheap happ hpre
  exact ⟨k, _, h1, h2, h3, hL args s _, lw_frame hF⟩
theorem i_vc : Claimed_1_1 ∧ Claimed_1_2 := ⟨lw_limb limb_1_1 (fun args s t => by simp [limb_1_1, Cond.after, Cond.holds, Cond.value]), lw_limb limb_1_2 (fun args s t => Cond.after_iff.mpr (by
  first | (rw [show limb_1_2 = Cond.eq .result (.int 1) from rfl, Cond.eq_ints (x := 1) (y := 1) rfl rfl]; simp; done) | (simp [limb_1_2, Cond.value, Term.eval]; done)))⟩
