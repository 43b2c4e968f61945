/-! ===== 79k: what the Statement gives at the start: text constants, statics, words, classes ===== -/
abbrev FLT : List Cond := flatC (Jvm.Cond.and given_1 narrow_1)
def tmS (i : Nat) : Term := match strTab[i]? with
  | some q => .string q.1 q.2.1
  | none => .string "" 0
def expS (i : Nat) : List Cond := [Cond.exactly (tmS i) "java/lang/String", Cond.eq (.field (tmS i) "java/lang/String" "coder" "B") (.int 0), Cond.arrayOf (.field (tmS i) "java/lang/String" "value" "[B") .byte, Cond.eq (.length (.field (tmS i) "java/lang/String" "value" "[B")) (.int (Int32.ofNat (lenT.getD i 0)))] ++ (List.range (lenT.getD i 0)).map fun j => Cond.eq (.elem (.field (tmS i) "java/lang/String" "value" "[B") (.int (Int32.ofNat j))) (.int ((bytT.getD i []).getD j 0))
def isEqS : Cond → Bool
  | .not (.eq (.string _ _) (.string _ _)) => true
  | .exactly (.static _ _ _) _ => true
  | .exactly (.field _ _ _ _) _ => true
  | .eq (.string _ _) (.string _ _) => true
  | _ => false
set_option maxRecDepth 100000 in
theorem strs_flat : (FLT.drop 231).filter (fun c => !isEqS c) = (List.range 18).flatMap expS := by decide +kernel
theorem STRS_of {args : Array Value} {s : State} {A : Nat → Prop} (h : ∀ c ∈ FLT, c.before args s = true) (hA : ∀ a : Nat, a < s.heap.size → ¬ A a) : ∃ adK adV : Nat → Nat, STRS adK adV A s s.heap ∧ ∀ i : Nat, i < 18 → (tmS i).eval args s none [] s = some (.ref (adK i)) := by
  have hin : ∀ i, i < 18 → ∀ c ∈ expS i, c.before args s = true := fun i hi c hc => h c (by
    have h1 : c ∈ (List.range 18).flatMap expS := List.mem_flatMap.mpr ⟨i, List.mem_range.mpr hi, hc⟩
    rw [← strs_flat] at h1
    exact List.mem_of_mem_drop (List.mem_filter.mp h1).1)
  have h0 : ∀ i : Nat, ∃ q : Nat × Nat, i < 18 → (tmS i).eval args s none [] s = some (.ref q.1) ∧ va_O "java/lang/String" q.1 A s s.heap ∧ va_OF "java/lang/String" "coder" "B" (.int 0) q.1 A s s.heap ∧ va_OF "java/lang/String" "value" "[B" (.ref q.2) q.1 A s s.heap ∧ va_T .byte q.2 (lenT.getD i 0) (fun j => .int ((bytT.getD i []).getD j 0)) A s s.heap := by
    intro i
    by_cases hi : i < 18
    · have hh := hin i hi
      obtain ⟨a, c, cA, kA, q1, q2, q3, q4, q5, q6, -⟩ := Cond.exactly_spec (args := args) (first := s) (o := none) (s := s) (idx := []) (t := tmS i) (cls := "java/lang/String") (hh _ (List.mem_append_left _ (List.mem_of_getElem? (i := 0) rfl)))
      obtain ⟨t, ht, hT⟩ := va_Tof (f := fun j => .int ((bytT.getD i []).getD j 0)) (A := A) (lenT_lt i) (hh _ (List.mem_append_left _ (List.mem_of_getElem? (i := 2) rfl))) (va_eqt (hh _ (List.mem_append_left _ (List.mem_of_getElem? (i := 3) rfl)))) (fun j hj => va_eqt (hh _ (List.mem_append_right _ (List.mem_map.mpr ⟨j, List.mem_range.mpr hj, rfl⟩)))) hA
      exact ⟨(a, t), fun _ => ⟨q1, ⟨cA, q3, q5, by rw [q6]; exact q2, hA a (Array.getElem?_eq_some_iff.mp q3).1⟩, vk_OFof q1 (va_eqt (hh _ (List.mem_append_left _ (List.mem_of_getElem? (i := 1) rfl)))) hA, vk_OFof q1 ht hA, hT⟩⟩
    · exact ⟨(0, 0), fun h => absurd h hi⟩
  obtain ⟨ad, had⟩ := Classical.axiomOfChoice h0
  exact ⟨fun i => (ad i).1, fun i => (ad i).2, fun i hi => (had i hi).2, fun i hi => (had i hi).1⟩
set_option maxRecDepth 20000 in
theorem w_str : (strTab.all fun q => decide (Cond.stringRef q.1 q.2.1 q.2.2 ∈ lw_tbl)) = true := by decide +kernel
set_option maxRecDepth 20000 in
theorem w_nest : (nestTab.all fun q => decide (Cond.methodLinkNest q.1 q.2.1 q.2.2 "LeftistSpooler" ∈ lw_tbl)) = true := by decide +kernel
set_option maxRecDepth 20000 in
theorem w_cast : (excs.all fun E => decide (Cond.castable E E ∈ lw_tbl)) = true := by decide +kernel
set_option maxRecDepth 20000 in
theorem w_decl : (dcls.all fun Y => decide (Cond.declares (Bundle.initS Y) ∈ lw_tbl)) = true := by decide +kernel
set_option maxRecDepth 20000 in
theorem w_inst : (vwCl.all fun r => decide (Cond.instantiable r.1 r.2.2 ∈ lw_tbl)) = true := by decide +kernel
set_option maxRecDepth 20000 in
theorem w_arr : ([FieldType.int, .long, .boolean, .byte].all fun ty => decide (Cond.arrayClass ty ∈ lw_tbl)) = true := by decide +kernel
set_option maxRecDepth 20000 in
theorem w_one : ([Cond.arrayOver (.object "LeftistSpooler$State"), Cond.laysStatic "java/lang/Throwable" "UNASSIGNED_STACK" "[Ljava/lang/StackTraceElement;", Cond.laysStatic "java/lang/Throwable" "SUPPRESSED_SENTINEL" "Ljava/util/List;", Cond.laysStatic "java/lang/String" "COMPACT_STRINGS" "Z", Cond.laysStatic "jdk/internal/util/Preconditions" "SIOOBE_FORMATTER" "Ljava/util/function/BiFunction;", Cond.initialized "java/lang/Throwable", Cond.initialized "java/lang/String", Cond.initialized "jdk/internal/util/Preconditions", Cond.laysStatic "java/lang/Integer" "DigitOnes" "[B", Cond.laysStatic "java/lang/Integer" "DigitTens" "[B", Cond.initialized "java/lang/Integer", Cond.castable "[B" "java/lang/Cloneable", Cond.instantiable "java/lang/StringBuilder" 4].all fun w => decide (w ∈ lw_tbl)) = true := by decide +kernel
set_option maxRecDepth 20000 in
theorem f_not : (excs.all fun E => ["java/lang/IllegalStateException"].all fun E2 => decide (E = E2) || decide (Cond.not (.castable E E2) ∈ FLT)) = true := by decide +kernel
set_option maxRecDepth 20000 in
theorem f_one : ([Cond.eq (.static "java/lang/String" "COMPACT_STRINGS" "Z") (.int 1), Cond.isRef (.static "jdk/internal/util/Preconditions" "SIOOBE_FORMATTER" "Ljava/util/function/BiFunction;"), Cond.isRef (.static "java/lang/Throwable" "UNASSIGNED_STACK" "[Ljava/lang/StackTraceElement;"), Cond.isRef (.static "java/lang/Throwable" "SUPPRESSED_SENTINEL" "Ljava/util/List;"), Cond.arrayOf (.static "java/lang/Integer" "DigitOnes" "[B") .byte, Cond.eq (.length (.static "java/lang/Integer" "DigitOnes" "[B")) (.int 100), Cond.arrayOf (.static "java/lang/Integer" "DigitTens" "[B") .byte, Cond.eq (.length (.static "java/lang/Integer" "DigitTens" "[B")) (.int 100)].all fun w => decide (w ∈ FLT)) = true := by decide +kernel
set_option maxRecDepth 20000 in
theorem w_prv : (privB.all fun y => decide (Cond.privateMethod y ∈ lw_tbl) && (decide (Cond.instanceMethod y ∈ lw_tbl) && decide (Cond.sameMethod y.cls y.cls y.name y.desc ∈ lw_tbl))) = true := by decide +kernel
set_option maxRecDepth 20000 in
theorem f_on : (FLT.drop 14).take 100 = (List.range 100).map fun j => Cond.eq (.elem (.static "java/lang/Integer" "DigitOnes" "[B") (.int (Int32.ofNat j))) (.int (nI (48 + j % 10))) := by decide +kernel
set_option maxRecDepth 20000 in
theorem f_te : (FLT.drop 117).take 100 = (List.range 100).map fun j => Cond.eq (.elem (.static "java/lang/Integer" "DigitTens" "[B") (.int (Int32.ofNat j))) (.int (nI (48 + j / 10))) := by decide +kernel
/-- a private method of a class above (follows the kit's k2_selects_private) -/
theorem sel_prv {C : String} {y : MethodName} {s : State} {args : Array Value} {n : Nat} (hy : y.cls ≠ "java/lang/invoke/MethodHandle" ∧ y.cls ≠ "java/lang/invoke/VarHandle")
    (hins : (Cond.instantiable C n).before args s = true) (hpriv : (Cond.privateMethod y).before args s = true) (hinst : (Cond.instanceMethod y).before args s = true) (hsame : (Cond.sameMethod y.cls y.cls y.name y.desc).before args s = true) :
    (Cond.selects C y y).before args s = true := by
  obtain ⟨c, k, hc, hk, -, hniab, -, -⟩ := Cond.instantiable_spec hins
  have hni : k.isInterface = false := (Bool.or_eq_false_iff.mp hniab).1
  obtain ⟨mk, methM, hnamed, hmethM, -, -⟩ := Cond.instanceMethod_spec hinst
  have hfound : s.methodFound? y.cls y.name y.desc = some mk := State.methodFound?_of_named hnamed hy
  have hsel : selectMethod {} s.vm c mk = .method mk := selectMethod_private hmethM (Cond.privateMethod_at hpriv mk methM hnamed hmethM)
  obtain ⟨cn, ck, r1, hcn, hck, hni2, -, -⟩ := Cond.sameMethod_found hsame
  have hcls : mk.cls = cn := Option.some.inj ((findClass_of_methodNamed hnamed).symm.trans hcn)
  simp only [Cond.before, Cond.holds, Cond.value, hc, hfound, hnamed, hsel, hk, hcls, hck]
  simp [hni, hni2]
theorem all_in {α : Type} {l : List α} {P : α → Prop} {hd : ∀ a, Decidable (P a)} (h : (l.all fun a => @decide (P a) (hd a)) = true) {a : α} (ha : a ∈ l) : P a := of_decide_eq_true (List.all_eq_true.mp h a ha)
theorem tmS_at {i : Nat} {q : String × Nat × String} (h : strTab[i]? = some q) : tmS i = .string q.1 q.2.1 := by
  unfold tmS
  rw [h]
theorem GL_start {args : Array Value} {s : State} {A : Nat → Prop} (b : Nat) (hts : ∀ w ∈ lw_tbl, w.before args s = true) (h : ∀ c ∈ FLT, c.before args s = true) (hA : ∀ a : Nat, a < s.heap.size → ¬ A a) : ∃ ad0 : Nat → Nat, ad0 (SB + 201) = b ∧ GL ad0 A s s.heap := by
  obtain ⟨adK, adV, hS, hE⟩ := STRS_of h hA
  have one : ∀ (i : Nat) (w : Cond), [Cond.arrayOver (.object "LeftistSpooler$State"), Cond.laysStatic "java/lang/Throwable" "UNASSIGNED_STACK" "[Ljava/lang/StackTraceElement;", Cond.laysStatic "java/lang/Throwable" "SUPPRESSED_SENTINEL" "Ljava/util/List;", Cond.laysStatic "java/lang/String" "COMPACT_STRINGS" "Z", Cond.laysStatic "jdk/internal/util/Preconditions" "SIOOBE_FORMATTER" "Ljava/util/function/BiFunction;", Cond.initialized "java/lang/Throwable", Cond.initialized "java/lang/String", Cond.initialized "jdk/internal/util/Preconditions", Cond.laysStatic "java/lang/Integer" "DigitOnes" "[B", Cond.laysStatic "java/lang/Integer" "DigitTens" "[B", Cond.initialized "java/lang/Integer", Cond.castable "[B" "java/lang/Cloneable", Cond.instantiable "java/lang/StringBuilder" 4][i]? = some w → w.before args s = true := fun i w hw => hts w (all_in w_one (List.mem_of_getElem? hw))
  have two : ∀ (i : Nat) (w : Cond), [Cond.eq (.static "java/lang/String" "COMPACT_STRINGS" "Z") (.int 1), Cond.isRef (.static "jdk/internal/util/Preconditions" "SIOOBE_FORMATTER" "Ljava/util/function/BiFunction;"), Cond.isRef (.static "java/lang/Throwable" "UNASSIGNED_STACK" "[Ljava/lang/StackTraceElement;"), Cond.isRef (.static "java/lang/Throwable" "SUPPRESSED_SENTINEL" "Ljava/util/List;"), Cond.arrayOf (.static "java/lang/Integer" "DigitOnes" "[B") .byte, Cond.eq (.length (.static "java/lang/Integer" "DigitOnes" "[B")) (.int 100), Cond.arrayOf (.static "java/lang/Integer" "DigitTens" "[B") .byte, Cond.eq (.length (.static "java/lang/Integer" "DigitTens" "[B")) (.int 100)][i]? = some w → w.before args s = true := fun i w hw => h w (all_in f_one (List.mem_of_getElem? hw))
  have hq : va_Zq "jdk/internal/util/Preconditions" "SIOOBE_FORMATTER" "Ljava/util/function/BiFunction;" A s s.heap := va_Zqof (one 4 _ rfl) (one 7 _ rfl) (two 1 _ rfl) hA
  obtain ⟨f9, h9⟩ : ∃ f9 : Nat, va_Z "jdk/internal/util/Preconditions" "SIOOBE_FORMATTER" "Ljava/util/function/BiFunction;" .null A s s.heap ∨ va_Z "jdk/internal/util/Preconditions" "SIOOBE_FORMATTER" "Ljava/util/function/BiFunction;" (.ref f9) A s s.heap := by
    rcases hq with h1 | ⟨t, h1⟩
    · exact ⟨0, Or.inl h1⟩
    · exact ⟨t, Or.inr h1⟩
  obtain ⟨t1, o1, O1⟩ := va_Tof (A := A) (N := 100) (f := dOnes) (by decide) (two 4 _ rfl) (va_eqt (two 5 _ rfl)) (fun j hj => va_eqt (h _ (List.mem_of_mem_drop (List.mem_of_mem_take (by rw [f_on]; exact List.mem_map.mpr ⟨j, List.mem_range.mpr hj, rfl⟩))))) hA
  obtain ⟨t2, o2, O2⟩ := va_Tof (A := A) (N := 100) (f := dTens) (by decide) (two 6 _ rfl) (va_eqt (two 7 _ rfl)) (fun j hj => va_eqt (h _ (List.mem_of_mem_drop (List.mem_of_mem_take (by rw [f_te]; exact List.mem_map.mpr ⟨j, List.mem_range.mpr hj, rfl⟩))))) hA
  obtain ⟨ad0, e1, e2, e21, e22, e3, e4⟩ : ∃ ad0 : Nat → Nat, ad0 (SB + 201) = b ∧ ad0 (SB + 200) = f9 ∧ ad0 (SB + 202) = t1 ∧ ad0 (SB + 203) = t2 ∧ (∀ i, i < 18 → ad0 (SB + i) = adK i) ∧ ∀ i, i < 18 → ad0 (SB + 100 + i) = adV i := by
    refine ⟨fun k => if k = SB + 201 then b else if k = SB + 200 then f9 else if k = SB + 202 then t1 else if k = SB + 203 then t2 else if SB + 100 ≤ k then adV (k - (SB + 100)) else adK (k - SB), if_pos rfl, ?_, ?_, ?_, fun i hi => ?_, fun i hi => ?_⟩
    · show (if SB + 200 = SB + 201 then b else if SB + 200 = SB + 200 then f9 else _) = f9
      rw [if_neg (by omega), if_pos rfl]
    · show (if SB + 202 = SB + 201 then b else if SB + 202 = SB + 200 then f9 else if SB + 202 = SB + 202 then t1 else _) = t1
      rw [if_neg (by omega), if_neg (by omega), if_pos rfl]
    · show (if SB + 203 = SB + 201 then b else if SB + 203 = SB + 200 then f9 else if SB + 203 = SB + 202 then t1 else if SB + 203 = SB + 203 then t2 else _) = t2
      rw [if_neg (by omega), if_neg (by omega), if_neg (by omega), if_pos rfl]
    · show (if SB + i = SB + 201 then b else if SB + i = SB + 200 then f9 else if SB + i = SB + 202 then t1 else if SB + i = SB + 203 then t2 else if SB + 100 ≤ SB + i then _ else adK (SB + i - SB)) = adK i
      rw [if_neg (by omega), if_neg (by omega), if_neg (by omega), if_neg (by omega), if_neg (by omega), Nat.add_sub_cancel_left]
    · show (if SB + 100 + i = SB + 201 then b else if SB + 100 + i = SB + 200 then f9 else if SB + 100 + i = SB + 202 then t1 else if SB + 100 + i = SB + 203 then t2 else if SB + 100 ≤ SB + 100 + i then adV (SB + 100 + i - (SB + 100)) else _) = adV i
      rw [if_neg (by omega), if_neg (by omega), if_neg (by omega), if_neg (by omega), if_pos (by omega), Nat.add_sub_cancel_left]
  refine ⟨ad0, e1, hS.congr e3 e4, fun i q hi => ?_, vx_Zqof (one 1 _ rfl) (one 5 _ rfl) (two 2 _ rfl) hA, vx_Zqof (one 2 _ rfl) (one 5 _ rfl) (two 3 _ rfl) hA, va_Zof (one 3 _ rfl) (one 6 _ rfl) (va_eqi (two 0 _ rfl)) hA, ⟨by rw [e2]; exact h9, by rw [e21]; exact va_Zof (one 8 _ rfl) (one 10 _ rfl) o1 hA, by rw [e21]; exact O1, by rw [e22]; exact va_Zof (one 9 _ rfl) (one 10 _ rfl) o2 hA, by rw [e22]; exact O2, va_Nw.of rfl (one 11 _ rfl), fun y hy => ?_⟩, fun q hq => va_Nw.of rfl (hts _ (all_in w_nest hq)), fun E hE => va_Nw.of rfl (hts _ (all_in w_cast hE)), fun E hE E2 hE2 hne => ?_, va_AO.of (one 0 _ rfl), fun Y hY => va_Nw.of rfl (hts _ (all_in w_decl hY))⟩
  · have hl : i < 18 := (List.getElem?_eq_some_iff.mp hi).1
    have h1 := hE i hl
    rw [tmS_at hi] at h1
    rw [e3 i hl]
    exact vk_R.of (hts _ (all_in w_str (List.mem_of_getElem? hi))) h1
  · have h1 := List.all_eq_true.mp w_prv y hy
    rw [Bool.and_eq_true, Bool.and_eq_true] at h1
    have hc : y.cls = "java/lang/AbstractStringBuilder" := by
      have h2 : ∀ y, y ∈ privB → y.cls = "java/lang/AbstractStringBuilder" := by decide +kernel
      exact h2 y hy
    exact va_Nw.of rfl (sel_prv (by rw [hc]; decide +kernel) (one 12 _ rfl) (hts _ (of_decide_eq_true h1.1)) (hts _ (of_decide_eq_true h1.2.1)) (hts _ (of_decide_eq_true h1.2.2)))
  · have h1 := List.all_eq_true.mp (List.all_eq_true.mp f_not E hE) E2 hE2
    rcases Bool.or_eq_true_iff.mp h1 with h1 | h1
    · exact absurd (of_decide_eq_true h1) hne
    · exact va_Nc.of (h _ (of_decide_eq_true h1))
theorem arr_start {args : Array Value} {s : State} {ty : FieldType} (h : (Cond.arrayClass ty).before args s = true) (hp : ∀ c, s.vm.findClass ("[" ++ ty.toString) = some c → va_RA s c ty) : ∃ c : ClassId, ArrOfT s c ty ∧ va_RA s c ty := by
  obtain ⟨c, k, comp, h1, h2, h3⟩ := Cond.arrayClass_spec h
  exact ⟨c, fun n z => ⟨(fun k h => by cases h), k, h2, comp, h3⟩, hp c h1⟩
theorem KA_start {args : Array Value} {s : State} (hts : ∀ w ∈ lw_tbl, w.before args s = true) : ∃ (D : va_G) (cA : Nat → ClassId), va_K D vwCl (TYS cA) s := by
  have hts2 : ∀ w ∈ ALL, w.before args s = true := fun w hw => hts w (List.mem_filter.mp hw).1
  have hk : ∀ k : Nat, ∃ p : ClassId × (Nat → Nat), ∀ r, vwCl[k]? = some r → u_Kn s r.1 r.2.1 r.2.2 p.1 p.2 := by
    intro k
    cases h : vwCl[k]? with
    | none => exact ⟨(0, fun _ => 0), fun r e => by cases e⟩
    | some r =>
      obtain ⟨cC, iS, hK⟩ := u_known hts2 (vw_in h) (hts _ (all_in w_inst (List.mem_of_getElem? h)))
      exact ⟨(cC, iS), fun r e => by cases e; exact hK⟩
  obtain ⟨f, hf⟩ := Classical.axiomOfChoice hk
  have ha : ∀ ty ∈ [FieldType.int, .long, .boolean, .byte], (Cond.arrayClass ty).before args s = true := fun ty h => hts _ (all_in w_arr h)
  obtain ⟨c0, a0, b0⟩ := arr_start (ha .int (List.mem_of_getElem? (i := 0) rfl)) (fun c h => h)
  obtain ⟨c1, a1, b1⟩ := arr_start (ha .long (List.mem_of_getElem? (i := 1) rfl)) (fun c h => h)
  obtain ⟨c2, a2, b2⟩ := arr_start (ha .boolean (List.mem_of_getElem? (i := 2) rfl)) (fun c h => h)
  obtain ⟨c3, a3, b3⟩ := arr_start (ha .byte (List.mem_of_getElem? (i := 3) rfl)) (fun c h => h)
  obtain ⟨comp, c4, kS, h1, h2, h3, h4, h5⟩ := Cond.arrayOver_spec (hts (Cond.arrayOver (.object "LeftistSpooler$State")) (all_in w_one (List.mem_of_getElem? (i := 0) rfl)))
  refine ⟨(fun k => (f k).1, fun k => (f k).2), fun k => match k with | 0 => c0 | 1 => c1 | 2 => c2 | 3 => c3 | _ => c4, fun k r h => hf k r h, fun k q h => ?_⟩
  match k, h with
  | 0, h => cases h; exact ⟨a0, b0⟩
  | 1, h => cases h; exact ⟨a1, b1⟩
  | 2, h => cases h; exact ⟨a2, b2⟩
  | 3, h => cases h; exact ⟨a3, b3⟩
  | 4, h => cases h; exact ⟨fun n z => ⟨(fun k h => by cases h), kS, h3, comp, h4⟩, kS, comp, h3, h4, h1, h5⟩
  | n + 5, h => cases h
