/-! ===== 03: the judgement AW and the walk over straight stretches ===== -/
def strTab : List (String × Nat × String) := [("LeftistSpooler", 64, "queue fast 20;queue slow 5;owner ann;owner bob;"), ("LeftistSpooler", 70, "job fast ann 50 10;job fast bob 30 4;job fast ann 70 25;job fast bob 40 8;"), ("LeftistSpooler", 72, "job slow ann 20 3;job slow bob 60 6;"), ("LeftistSpooler", 346, "queue"), ("LeftistSpooler", 354, "owner"), ("LeftistSpooler", 358, "job"), ("LeftistSpooler", 322, "there is no such queue"), ("LeftistSpooler", 276, "the queue is paused or empty"), ("LeftistSpooler", 327, "there is no such job"), ("LeftistSpooler", 332, "the job is not waiting"), ("LeftistSpooler", 336, "a priority is 0 to 99"), ("LeftistSpooler", 289, "the job is not waiting, or is in this queue"), ("LeftistSpooler", 325, "there is no such owner"), ("LeftistSpooler", 260, "pages are 1 to 99"), ("LeftistSpooler", 269, "there are 40 jobs"), ("LeftistSpooler", 334, "both queues are the same"), ("LeftistSpoolerLaw", 207, "queue "), ("LeftistSpoolerLaw", 219, "owner ")]
def lenT : List Nat := [47, 74, 36, 5, 5, 3, 22, 28, 20, 22, 21, 43, 22, 17, 17, 24, 6, 6]
def bytT : List (List Int32) := [[113, 117, 101, 117, 101, 32, 102, 97, 115, 116, 32, 50, 48, 59, 113, 117, 101, 117, 101, 32, 115, 108, 111, 119, 32, 53, 59, 111, 119, 110, 101, 114, 32, 97, 110, 110, 59, 111, 119, 110, 101, 114, 32, 98, 111, 98, 59], [106, 111, 98, 32, 102, 97, 115, 116, 32, 97, 110, 110, 32, 53, 48, 32, 49, 48, 59, 106, 111, 98, 32, 102, 97, 115, 116, 32, 98, 111, 98, 32, 51, 48, 32, 52, 59, 106, 111, 98, 32, 102, 97, 115, 116, 32, 97, 110, 110, 32, 55, 48, 32, 50, 53, 59, 106, 111, 98, 32, 102, 97, 115, 116, 32, 98, 111, 98, 32, 52, 48, 32, 56, 59], [106, 111, 98, 32, 115, 108, 111, 119, 32, 97, 110, 110, 32, 50, 48, 32, 51, 59, 106, 111, 98, 32, 115, 108, 111, 119, 32, 98, 111, 98, 32, 54, 48, 32, 54, 59], [113, 117, 101, 117, 101], [111, 119, 110, 101, 114], [106, 111, 98], [116, 104, 101, 114, 101, 32, 105, 115, 32, 110, 111, 32, 115, 117, 99, 104, 32, 113, 117, 101, 117, 101], [116, 104, 101, 32, 113, 117, 101, 117, 101, 32, 105, 115, 32, 112, 97, 117, 115, 101, 100, 32, 111, 114, 32, 101, 109, 112, 116, 121], [116, 104, 101, 114, 101, 32, 105, 115, 32, 110, 111, 32, 115, 117, 99, 104, 32, 106, 111, 98], [116, 104, 101, 32, 106, 111, 98, 32, 105, 115, 32, 110, 111, 116, 32, 119, 97, 105, 116, 105, 110, 103], [97, 32, 112, 114, 105, 111, 114, 105, 116, 121, 32, 105, 115, 32, 48, 32, 116, 111, 32, 57, 57], [116, 104, 101, 32, 106, 111, 98, 32, 105, 115, 32, 110, 111, 116, 32, 119, 97, 105, 116, 105, 110, 103, 44, 32, 111, 114, 32, 105, 115, 32, 105, 110, 32, 116, 104, 105, 115, 32, 113, 117, 101, 117, 101], [116, 104, 101, 114, 101, 32, 105, 115, 32, 110, 111, 32, 115, 117, 99, 104, 32, 111, 119, 110, 101, 114], [112, 97, 103, 101, 115, 32, 97, 114, 101, 32, 49, 32, 116, 111, 32, 57, 57], [116, 104, 101, 114, 101, 32, 97, 114, 101, 32, 52, 48, 32, 106, 111, 98, 115], [98, 111, 116, 104, 32, 113, 117, 101, 117, 101, 115, 32, 97, 114, 101, 32, 116, 104, 101, 32, 115, 97, 109, 101], [113, 117, 101, 117, 101, 32], [111, 119, 110, 101, 114, 32]]
def nStr : Nat := 18
abbrev KX : Type _ := Program × Launch × Env × Room × State × MethodId × Array Value × List Frame × Method × Code × va_G × (Nat → ClassId) × (Nat → Prop) × Nat × (Nat → Nat)
/-- a private constructor or method of a nest mate, by which instruction it is named -/
def nestTab : List (String × Nat × MethodName) := [("LeftistSpooler", 9, yX4_init), ("LeftistSpooler", 18, yX5_init), ("LeftistSpooler", 25, yX3_init), ("LeftistSpooler$History", 24, yX7_init), ("LeftistSpooler$State", 11, yX0_init), ("LeftistSpooler", 39, yX7_init), ("LeftistSpooler", 56, yX6_init), ("LeftistSpooler$Setup", 11, yX2_init), ("LeftistSpooler$Heaps", 37, yX8_copyRow), ("LeftistSpooler$State", 52, yX8_copyRow)]
def excs : List String := ["java/lang/IndexOutOfBoundsException", "java/lang/IllegalStateException", "java/lang/IllegalArgumentException"]
def dcls : List String := ["java/lang/RuntimeException", "java/lang/Exception", "java/lang/Throwable"]
def STRS (adK adV : Nat → Nat) (A : Nat → Prop) (U : State) (H : Heap) : Prop :=
  ∀ i : Nat, i < nStr → va_O "java/lang/String" (adK i) A U H ∧ va_OF "java/lang/String" "coder" "B" (.int 0) (adK i) A U H ∧ va_OF "java/lang/String" "value" "[B" (.ref (adV i)) (adK i) A U H ∧ va_T .byte (adV i) (lenT.getD i 0) (fun j => .int ((bytT.getD i []).getD j 0)) A U H
theorem STRS.moved {adK adV : Nat → Nat} {A : Nat → Prop} {u U : State} {H : Heap} (hvm : u.vm.Alike U.vm) (h : STRS adK adV A u H) : STRS adK adV A U H :=
  fun i hi => ⟨va_O.moved hvm (h i hi).1, va_OF.moved hvm (h i hi).2.1, va_OF.moved hvm (h i hi).2.2.1, va_T.moved hvm (h i hi).2.2.2⟩
theorem STRS.kept {adK adV : Nat → Nat} {A : Nat → Prop} {U : State} {H H1 : Heap} (h : STRS adK adV A U H) (hq : ∀ a : Nat, a < H.size → ¬ A a → H1[a]? = H[a]?) : STRS adK adV A U H1 :=
  fun i hi => ⟨(h i hi).1.kept hq, (h i hi).2.1.kept hq, (h i hi).2.2.1.kept hq, (h i hi).2.2.2.kept hq⟩
theorem STRS.narrow {adK adV : Nat → Nat} {A B : Nat → Prop} {U : State} {H : Heap} (h : STRS adK adV A U H) (hAB : ∀ q, B q → A q) : STRS adK adV B U H :=
  fun i hi => ⟨(h i hi).1.narrow hAB, (h i hi).2.1.narrow hAB, (h i hi).2.2.1.narrow hAB, (h i hi).2.2.2.narrow hAB⟩
theorem STRS.congr {adK adK' adV adV' : Nat → Nat} {A : Nat → Prop} {U : State} {H : Heap} (h : STRS adK adV A U H) (he : ∀ i, i < nStr → adK' i = adK i) (he2 : ∀ i, i < nStr → adV' i = adV i) : STRS adK' adV' A U H := fun i hi => by
  rw [he i hi, he2 i hi]
  exact h i hi
def AG (n0 : Nat) (ad0 ad : Nat → Nat) : Prop := ∀ k, k < n0 ∨ SB ≤ k → ad k = ad0 k
/-- private methods of AbstractStringBuilder that are called on a StringBuilder -/
def privB : List MethodName := [yJ5_ensureCapacityInternal_d00df, yJ5_newCapacity_0f7a4, yJ5_putStringAt_47b60, yJ5_inflateIfNeededFor_a7421]
def dOnes (j : Nat) : Value := .int (nI (48 + j % 10))
def dTens (j : Nat) : Value := .int (nI (48 + j / 10))
/-- the formatter of Preconditions; the two rows of digits of Integer -/
def FMD (ad : Nat → Nat) (A : Nat → Prop) (U : State) (H : Heap) : Prop :=
  (va_Z "jdk/internal/util/Preconditions" "SIOOBE_FORMATTER" "Ljava/util/function/BiFunction;" .null A U H ∨ va_Z "jdk/internal/util/Preconditions" "SIOOBE_FORMATTER" "Ljava/util/function/BiFunction;" (.ref (ad (SB + 200))) A U H) ∧
  va_Z "java/lang/Integer" "DigitOnes" "[B" (.ref (ad (SB + 202))) A U H ∧ va_T .byte (ad (SB + 202)) 100 dOnes A U H ∧ va_Z "java/lang/Integer" "DigitTens" "[B" (.ref (ad (SB + 203))) A U H ∧ va_T .byte (ad (SB + 203)) 100 dTens A U H ∧ va_Nw (.castable "[B" "java/lang/Cloneable") U ∧ ∀ y ∈ privB, va_Nw (.selects "java/lang/StringBuilder" y y) U
/-- what holds of the launch besides the worlds: the text constants, the statics that the JDK's methods read -/
def GL (ad : Nat → Nat) (A : Nat → Prop) (U : State) (H : Heap) : Prop :=
  STRS (fun i => ad (SB + i)) (fun i => ad (SB + 100 + i)) A U H ∧ (∀ (i : Nat) (q : String × Nat × String), strTab[i]? = some q → vk_R q.1 q.2.1 q.2.2 (ad (SB + i)) U) ∧
  vx_Zq Bundle.tN "UNASSIGNED_STACK" Bundle.steD A U H ∧ vx_Zq Bundle.tN "SUPPRESSED_SENTINEL" Bundle.listD A U H ∧
  va_Z "java/lang/String" "COMPACT_STRINGS" "Z" (.int 1) A U H ∧ FMD ad A U H ∧
  (∀ q ∈ nestTab, va_Nw (.methodLinkNest q.1 q.2.1 q.2.2 "LeftistSpooler") U) ∧ (∀ E ∈ excs, va_Nw (.castable E E) U) ∧ (∀ E ∈ excs, ∀ E2 ∈ ["java/lang/IllegalStateException"], E ≠ E2 → va_Nc E E2 U) ∧ va_AO "LeftistSpooler$State" U ∧ (∀ Y ∈ dcls, va_Nw (.declares (Bundle.initS Y)) U)
theorem GL.use {ad ad' : Nat → Nat} {A B : Nat → Prop} {s U : State} {H : Heap} (h : GL ad A s s.heap) (hW : s.WarmedH U.vm) (hk : ∀ a : Nat, a < s.heap.size → ¬ A a → H[a]? = s.heap[a]?) (hAB : ∀ q, B q → A q) (had : ∀ k, SB ≤ k → k < SD → ad' k = ad k) : GL ad' B U H := by
  obtain ⟨h1, h2, h3, h4, h5, h6, h7, h8, h9, h10, h11⟩ := h
  refine ⟨?_, fun i q hq => ?_, ((h3.kept hk).moved hW.alike).narrow hAB, ((h4.kept hk).moved hW.alike).narrow hAB, ((h5.kept hk).moved hW.alike).narrow hAB, ?_, fun q hq => va_Nw.warmM hW (h7 q hq), fun E hE => va_Nw.warmC hW (h8 E hE), fun E hE E2 hE2 hne => va_Nc.moved hW.alike (h9 E hE E2 hE2 hne), h10.moved hW.alike, fun Y hY => va_Nw.warmD hW (h11 Y hY)⟩
  · exact (((h1.kept hk).moved hW.alike).narrow hAB).congr (fun i hi => had _ (by omega) (by have : nStr = 18 := rfl; unfold SD; omega)) (fun i hi => had _ (by omega) (by have : nStr = 18 := rfl; unfold SD; omega))
  · have hi : i < strTab.length := (List.getElem?_eq_some_iff.mp hq).1
    rw [had _ (by omega) (by have : strTab.length = 18 := rfl; unfold SD; omega)]
    exact (h2 i q hq).warm hW
  · obtain ⟨g1, g2, g3, g4, g5, g6, g7⟩ := h6
    unfold FMD
    rw [had (SB + 200) (by omega) (by unfold SD; omega), had (SB + 202) (by omega) (by unfold SD; omega), had (SB + 203) (by omega) (by unfold SD; omega)]
    exact ⟨g1.imp (fun h => ((h.kept hk).moved hW.alike).narrow hAB) (fun h => ((h.kept hk).moved hW.alike).narrow hAB), ((g2.kept hk).moved hW.alike).narrow hAB, ((g3.kept hk).moved hW.alike).narrow hAB, ((g4.kept hk).moved hW.alike).narrow hAB, ((g5.kept hk).moved hW.alike).narrow hAB, va_Nw.warmC hW g6, fun y hy => word_at hW (Or.inl rfl) (g7 y hy)⟩
theorem GL.calling {ad : Nat → Nat} {A : Nat → Prop} {U : State} {g : JFrame} {mk : MethodId} {a : Array Value} (h : GL ad A U U.heap) : GL ad A (U.calling g mk a) (U.calling g mk a).heap := by
  obtain ⟨h1, h2, h3, h4, h5, h6, h7, h8, h9, h10, h11⟩ := h
  have hv : U.vm.Alike (U.calling g mk a).vm := Vm.Alike.refl U.vm
  exact ⟨h1.moved hv, fun i q hq => (h2 i q hq).same rfl, h3.moved hv, h4.moved hv, h5.moved hv, ⟨h6.1.imp (fun h => h.moved hv) (fun h => h.moved hv), h6.2.1.moved hv, h6.2.2.1.moved hv, h6.2.2.2.1.moved hv, h6.2.2.2.2.1.moved hv, va_Nw.same rfl rfl h6.2.2.2.2.2.1, fun y hy => va_Nw.same rfl rfl (h6.2.2.2.2.2.2 y hy)⟩, fun q hq => va_Nw.same rfl rfl (h7 q hq), fun E hE => va_Nw.same rfl rfl (h8 E hE), fun E hE E2 hE2 hne => va_Nc.moved hv (h9 E hE E2 hE2 hne), h10.moved hv, fun Y hY => va_Nw.same rfl rfl (h11 Y hY)⟩
def vwTy : List (Nat → FieldType) := [tyX0, tyX1, tyX2, tyX3, tyX4, tyX5, tyX6, tyX7, tyX8, tyL, tyJ4, tyJ0]
def okF (own : String) (q : Nat × Nat × Nat) : Bool := match vwCl[q.2.1]? with
  | none => false
  | some r => decide (q.2.2 < r.2.2) && inALL (Cond.fieldLink own q.1 (r.2.1 q.2.2).1 (r.2.1 q.2.2).2.1 (r.2.1 q.2.2).2.2.1)
theorem okF_of {own : String} {q : Nat × Nat × Nat} (h : okF own q = true) : ∃ r, vwCl[q.2.1]? = some r ∧ q.2.2 < r.2.2 ∧ Cond.fieldLink own q.1 (r.2.1 q.2.2).1 (r.2.1 q.2.2).2.1 (r.2.1 q.2.2).2.2.1 ∈ ALL := by
  unfold okF at h
  split at h
  · cases h
  · rename_i r hr
    simp only [Bool.and_eq_true, decide_eq_true_eq] at h
    exact ⟨r, hr, h.1, ALL_of h.2⟩
set_option maxRecDepth 20000 in
theorem vw_lay : (vwCl.all fun r => (u_ws r.1 r.2.1 r.2.2).all inALL) = true := by decide +kernel
theorem vw_in {ci : Nat} {r : vw_C} (h : vwCl[ci]? = some r) : ∀ w ∈ u_ws r.1 r.2.1 r.2.2, w ∈ ALL := fun w hw =>
  ALL_of (List.all_eq_true.mp (List.all_eq_true.mp vw_lay r (List.mem_of_getElem? h)) w hw)
theorem vw_ty {ci : Nat} {r : vw_C} (h : vwCl[ci]? = some r) : ∃ tf, vwTy[ci]? = some tf ∧ (∀ k, k < r.2.2 → parseFieldDescriptor (r.2.1 k).2.2.1 = some (tf k)) ∧ ∀ a, a < r.2.2 → ∀ b, b < r.2.2 → a ≠ b → (r.2.1 a).2.1 ≠ (r.2.1 b).2.1 := by
  match ci, h with

  | 0, h => cases h; exact ⟨_, rfl, tyX0_ok, nmX0⟩
  | 1, h => cases h; exact ⟨_, rfl, tyX1_ok, nmX1⟩
  | 2, h => cases h; exact ⟨_, rfl, tyX2_ok, nmX2⟩
  | 3, h => cases h; exact ⟨_, rfl, tyX3_ok, nmX3⟩
  | 4, h => cases h; exact ⟨_, rfl, tyX4_ok, nmX4⟩
  | 5, h => cases h; exact ⟨_, rfl, tyX5_ok, nmX5⟩
  | 6, h => cases h; exact ⟨_, rfl, tyX6_ok, nmX6⟩
  | 7, h => cases h; exact ⟨_, rfl, tyX7_ok, nmX7⟩
  | 8, h => cases h; exact ⟨_, rfl, tyX8_ok, nmX8⟩
  | 9, h => cases h; exact ⟨_, rfl, tyL_ok, nmL⟩
  | 10, h => cases h; exact ⟨_, rfl, tyJ4_ok, nmJ4⟩
  | 11, h => cases h; exact ⟨_, rfl, tyJ0_ok, nmJ0⟩
  | n + 12, h => simp [vwCl] at h
def ZOK (z : MZ) : Prop := (∀ q ∈ zC z, decode (zB z) q.1 = .ok q.2) ∧ ∀ q ∈ zF z, okF (zY z).cls q = true
def CX : KX → MZ → Prop
  | (p, l, e, R, s, m, args, below, meth, c, D, cA, A, n0, ad0), z => p.tables.exec = Jvm.exec ∧ c.code = zB z ∧ c.maxLocals = zN z ∧ s.vm.findClass (zY z).cls = some m.cls ∧ (∀ w ∈ ALL, w.before args s = true) ∧ va_K D vwCl (TYS cA) s ∧ GL ad0 A s s.heap ∧ (∀ q, s.heap.size ≤ q → A q) ∧ meth.locks = false ∧ l.stackTraces = false ∧ meth.sig.returnType = zR z ∧ meth.name = (zY z).name ∧ ZOK z
def AW : KX → (State → Prop) → Nat → List (Option Value) → List Value → List AC → Nat → Nat → Prop
  | (p, l, e, R, s, m, args, below, meth, c, D, cA, A, n0, ad0), Q, pc, ls, st, AH, nc, ns =>
    ∀ (ad : Nat → Nat) (H : Heap) (locs : List Loc) (lsA : Array Slot), AG n0 ad0 ad → (AH.length = n0 → ad = ad0) → n0 ≤ AH.length → va_P D vwCl (cw cA ad AH) H → va_D A (cw cA ad AH) → va_S A s.heap H locs → LR c.maxLocals ad ls lsA →
      W p l e R s m args below meth c H locs nc ns Q (F0 m pc lsA (st.map (cvV ad)))
theorem AW.eq {κ : KX} {Q : State → Prop} {pc pc' : Nat} {ls ls' : List (Option Value)} {st st' : List Value} {AH AH' : List AC} {nc ns : Nat} (k : AW κ Q pc' ls' st' AH' nc ns) (h1 : pc = pc') (h2 : ls = ls') (h3 : st = st') (h4 : AH = AH') : AW κ Q pc ls st AH nc ns := by subst h1; subst h2; subst h3; subst h4; exact k
/-- less known of the locals -/
def lsLe : List (Option Value) → List (Option Value) → Bool
  | [], [] => true
  | none :: a, _ :: b => lsLe a b
  | some _ :: a, some _ :: b => lsLe a b
  | _, _ => false
theorem AW.forget {κ : KX} {Q : State → Prop} {pc : Nat} {ls ls' : List (Option Value)} {st : List Value} {AH : List AC} {nc ns : Nat} (hl : ls'.length = ls.length) (h : ∀ (i : Nat) (v : Value), ls'[i]? = some (some v) → ls[i]? = some (some v)) (k : AW κ Q pc ls' st AH nc ns) : AW κ Q pc ls st AH nc ns := by
  obtain ⟨p, l, e, R, s, m, args, below, meth, c, D, cA, A, n0, ad0⟩ := κ
  intro ad H locs lsA h1 h2 h3 hP hD hS hL
  exact k ad H locs lsA h1 h2 h3 hP hD hS ⟨hL.1, hl.trans hL.2.1, hL.2.2.1, fun i v hv => hL.2.2.2 i v (h i v hv)⟩
theorem TYS_at {cA : Nat → ClassId} {k : Nat} (h : k < 5) : ∃ ty, (TYS cA)[k]? = some (cA k, ty) := by
  match k, h with
  | 0, _ => exact ⟨_, rfl⟩
  | 1, _ => exact ⟨_, rfl⟩
  | 2, _ => exact ⟨_, rfl⟩
  | 3, _ => exact ⟨_, rfl⟩
  | 4, _ => exact ⟨_, rfl⟩
  | n + 5, h => omega
section WALK
variable {κ : KX} {z : MZ} {Q : State → Prop} {pc : Nat} {ls : List (Option Value)} {st r : List Value} {AH : List AC} {nc ns : Nat}

theorem s_iconst (X : CX κ z) {n : Int} (hd : decode (zB z) pc = .ok (.iconst n, 1))  (k : AW κ Q (pc + 1) ls (.int (Int32.ofInt n) :: st) AH nc ns) : AW κ Q pc ls (st) AH nc ns := by
  obtain ⟨p, l, e, R, s, m, args, below, meth, c, D, cA, A, n0, ad0⟩ := κ
  obtain ⟨hx, hb, hml, hown, hts, hK, hG, hA, hlk, htr, hrt, hnm, hz, hf⟩ := X
  intro ad H locs lsA h1 h2 h3 hP hD hS hL
  exact lv_iconst hx hb hd rfl (k ad H locs lsA h1 h2 h3 hP hD hS hL)
theorem s_bipush (X : CX κ z) {n : Int} (hd : decode (zB z) pc = .ok (.bipush n, 2))  (k : AW κ Q (pc + 2) ls (.int (Int8.ofInt n).toInt32 :: st) AH nc ns) : AW κ Q pc ls (st) AH nc ns := by
  obtain ⟨p, l, e, R, s, m, args, below, meth, c, D, cA, A, n0, ad0⟩ := κ
  obtain ⟨hx, hb, hml, hown, hts, hK, hG, hA, hlk, htr, hrt, hnm, hz, hf⟩ := X
  intro ad H locs lsA h1 h2 h3 hP hD hS hL
  exact lv_bipush hx hb hd rfl (k ad H locs lsA h1 h2 h3 hP hD hS hL)
theorem s_sipush (X : CX κ z) {n : Int} (hd : decode (zB z) pc = .ok (.sipush n, 3))  (k : AW κ Q (pc + 3) ls (.int (Int16.ofInt n).toInt32 :: st) AH nc ns) : AW κ Q pc ls (st) AH nc ns := by
  obtain ⟨p, l, e, R, s, m, args, below, meth, c, D, cA, A, n0, ad0⟩ := κ
  obtain ⟨hx, hb, hml, hown, hts, hK, hG, hA, hlk, htr, hrt, hnm, hz, hf⟩ := X
  intro ad H locs lsA h1 h2 h3 hP hD hS hL
  exact lv_sipush hx hb hd rfl (k ad H locs lsA h1 h2 h3 hP hD hS hL)
theorem s_lconst (X : CX κ z) {n : Fin 2} (hd : decode (zB z) pc = .ok (.lconst n, 1))  (k : AW κ Q (pc + 1) ls (.long (Int64.ofNat (n : Nat)) :: st) AH nc ns) : AW κ Q pc ls (st) AH nc ns := by
  obtain ⟨p, l, e, R, s, m, args, below, meth, c, D, cA, A, n0, ad0⟩ := κ
  obtain ⟨hx, hb, hml, hown, hts, hK, hG, hA, hlk, htr, hrt, hnm, hz, hf⟩ := X
  intro ad H locs lsA h1 h2 h3 hP hD hS hL
  exact lv_lconst hx hb hd rfl (k ad H locs lsA h1 h2 h3 hP hD hS hL)
theorem s_dconst (X : CX κ z)  (hd : decode (zB z) pc = .ok (.dconst 0, 1))  (k : AW κ Q (pc + 1) ls (.double FP.dconst0 :: st) AH nc ns) : AW κ Q pc ls (st) AH nc ns := by
  obtain ⟨p, l, e, R, s, m, args, below, meth, c, D, cA, A, n0, ad0⟩ := κ
  obtain ⟨hx, hb, hml, hown, hts, hK, hG, hA, hlk, htr, hrt, hnm, hz, hf⟩ := X
  intro ad H locs lsA h1 h2 h3 hP hD hS hL
  exact lv_dconst0 hx hb hd (k ad H locs lsA h1 h2 h3 hP hD hS hL)
theorem s_fconst (X : CX κ z)  (hd : decode (zB z) pc = .ok (.fconst 0, 1))  (k : AW κ Q (pc + 1) ls (.float FP.fconst0 :: st) AH nc ns) : AW κ Q pc ls (st) AH nc ns := by
  obtain ⟨p, l, e, R, s, m, args, below, meth, c, D, cA, A, n0, ad0⟩ := κ
  obtain ⟨hx, hb, hml, hown, hts, hK, hG, hA, hlk, htr, hrt, hnm, hz, hf⟩ := X
  intro ad H locs lsA h1 h2 h3 hP hD hS hL
  exact lv_fconst0 hx hb hd (k ad H locs lsA h1 h2 h3 hP hD hS hL)
theorem s_iload_n (X : CX κ z) {n : Fin 4} {x : Int32} (hd : decode (zB z) pc = .ok (.iload_n n, 1)) (hl : ls[(n : Nat)]? = some (some (.int x))) (k : AW κ Q (pc + 1) ls (.int x :: st) AH nc ns) : AW κ Q pc ls (st) AH nc ns := by
  obtain ⟨p, l, e, R, s, m, args, below, meth, c, D, cA, A, n0, ad0⟩ := κ
  obtain ⟨hx, hb, hml, hown, hts, hK, hG, hA, hlk, htr, hrt, hnm, hz, hf⟩ := X
  intro ad H locs lsA h1 h2 h3 hP hD hS hL
  exact lv_iload_n hx hb hd rfl (hL.2.2.2 _ _ hl) (k ad H locs lsA h1 h2 h3 hP hD hS hL)
theorem s_iload (X : CX κ z) {i : Nat} {x : Int32} (hd : decode (zB z) pc = .ok (.iload i, 2)) (hl : ls[i]? = some (some (.int x))) (k : AW κ Q (pc + 2) ls (.int x :: st) AH nc ns) : AW κ Q pc ls (st) AH nc ns := by
  obtain ⟨p, l, e, R, s, m, args, below, meth, c, D, cA, A, n0, ad0⟩ := κ
  obtain ⟨hx, hb, hml, hown, hts, hK, hG, hA, hlk, htr, hrt, hnm, hz, hf⟩ := X
  intro ad H locs lsA h1 h2 h3 hP hD hS hL
  exact lv_iload hx hb hd (hL.2.2.2 _ _ hl) (k ad H locs lsA h1 h2 h3 hP hD hS hL)
theorem s_lload_n (X : CX κ z) {n : Fin 4} {x : Int64} (hd : decode (zB z) pc = .ok (.lload_n n, 1)) (hl : ls[(n : Nat)]? = some (some (.long x))) (k : AW κ Q (pc + 1) ls (.long x :: st) AH nc ns) : AW κ Q pc ls (st) AH nc ns := by
  obtain ⟨p, l, e, R, s, m, args, below, meth, c, D, cA, A, n0, ad0⟩ := κ
  obtain ⟨hx, hb, hml, hown, hts, hK, hG, hA, hlk, htr, hrt, hnm, hz, hf⟩ := X
  intro ad H locs lsA h1 h2 h3 hP hD hS hL
  exact lv_lload_n hx hb hd rfl (hL.2.2.2 _ _ hl) (k ad H locs lsA h1 h2 h3 hP hD hS hL)
theorem s_lload (X : CX κ z) {i : Nat} {x : Int64} (hd : decode (zB z) pc = .ok (.lload i, 2)) (hl : ls[i]? = some (some (.long x))) (k : AW κ Q (pc + 2) ls (.long x :: st) AH nc ns) : AW κ Q pc ls (st) AH nc ns := by
  obtain ⟨p, l, e, R, s, m, args, below, meth, c, D, cA, A, n0, ad0⟩ := κ
  obtain ⟨hx, hb, hml, hown, hts, hK, hG, hA, hlk, htr, hrt, hnm, hz, hf⟩ := X
  intro ad H locs lsA h1 h2 h3 hP hD hS hL
  exact lv_lload hx hb hd (hL.2.2.2 _ _ hl) (k ad H locs lsA h1 h2 h3 hP hD hS hL)
theorem s_dload_n (X : CX κ z) {n : Fin 4} {x : UInt64} (hd : decode (zB z) pc = .ok (.dload_n n, 1)) (hl : ls[(n : Nat)]? = some (some (.double x))) (k : AW κ Q (pc + 1) ls (.double x :: st) AH nc ns) : AW κ Q pc ls (st) AH nc ns := by
  obtain ⟨p, l, e, R, s, m, args, below, meth, c, D, cA, A, n0, ad0⟩ := κ
  obtain ⟨hx, hb, hml, hown, hts, hK, hG, hA, hlk, htr, hrt, hnm, hz, hf⟩ := X
  intro ad H locs lsA h1 h2 h3 hP hD hS hL
  exact lv_dload_n hx hb hd rfl (hL.2.2.2 _ _ hl) (k ad H locs lsA h1 h2 h3 hP hD hS hL)
theorem s_dload (X : CX κ z) {i : Nat} {x : UInt64} (hd : decode (zB z) pc = .ok (.dload i, 2)) (hl : ls[i]? = some (some (.double x))) (k : AW κ Q (pc + 2) ls (.double x :: st) AH nc ns) : AW κ Q pc ls (st) AH nc ns := by
  obtain ⟨p, l, e, R, s, m, args, below, meth, c, D, cA, A, n0, ad0⟩ := κ
  obtain ⟨hx, hb, hml, hown, hts, hK, hG, hA, hlk, htr, hrt, hnm, hz, hf⟩ := X
  intro ad H locs lsA h1 h2 h3 hP hD hS hL
  exact lv_dload hx hb hd (hL.2.2.2 _ _ hl) (k ad H locs lsA h1 h2 h3 hP hD hS hL)
theorem s_aload_n (X : CX κ z) {n : Fin 4} {x : Nat} (hd : decode (zB z) pc = .ok (.aload_n n, 1)) (hl : ls[(n : Nat)]? = some (some (.ref x))) (k : AW κ Q (pc + 1) ls (.ref x :: st) AH nc ns) : AW κ Q pc ls (st) AH nc ns := by
  obtain ⟨p, l, e, R, s, m, args, below, meth, c, D, cA, A, n0, ad0⟩ := κ
  obtain ⟨hx, hb, hml, hown, hts, hK, hG, hA, hlk, htr, hrt, hnm, hz, hf⟩ := X
  intro ad H locs lsA h1 h2 h3 hP hD hS hL
  exact lv_aload_n hx hb hd rfl (hL.2.2.2 _ _ hl) (k ad H locs lsA h1 h2 h3 hP hD hS hL)
theorem s_aload (X : CX κ z) {i : Nat} {x : Nat} (hd : decode (zB z) pc = .ok (.aload i, 2)) (hl : ls[i]? = some (some (.ref x))) (k : AW κ Q (pc + 2) ls (.ref x :: st) AH nc ns) : AW κ Q pc ls (st) AH nc ns := by
  obtain ⟨p, l, e, R, s, m, args, below, meth, c, D, cA, A, n0, ad0⟩ := κ
  obtain ⟨hx, hb, hml, hown, hts, hK, hG, hA, hlk, htr, hrt, hnm, hz, hf⟩ := X
  intro ad H locs lsA h1 h2 h3 hP hD hS hL
  exact lv_aload hx hb hd (hL.2.2.2 _ _ hl) (k ad H locs lsA h1 h2 h3 hP hD hS hL)
theorem s_aload_nN (X : CX κ z) {n : Fin 4} (hd : decode (zB z) pc = .ok (.aload_n n, 1)) (hl : ls[(n : Nat)]? = some (some .null)) (k : AW κ Q (pc + 1) ls (.null :: st) AH nc ns) : AW κ Q pc ls (st) AH nc ns := by
  obtain ⟨p, l, e, R, s, m, args, below, meth, c, D, cA, A, n0, ad0⟩ := κ
  obtain ⟨hx, hb, hml, hown, hts, hK, hG, hA, hlk, htr, hrt, hnm, hz, hf⟩ := X
  intro ad H locs lsA h1 h2 h3 hP hD hS hL
  exact lv_aload_nN hx hb hd rfl (hL.2.2.2 _ _ hl) (k ad H locs lsA h1 h2 h3 hP hD hS hL)
theorem s_aloadN (X : CX κ z) {i : Nat} (hd : decode (zB z) pc = .ok (.aload i, 2)) (hl : ls[i]? = some (some .null)) (k : AW κ Q (pc + 2) ls (.null :: st) AH nc ns) : AW κ Q pc ls (st) AH nc ns := by
  obtain ⟨p, l, e, R, s, m, args, below, meth, c, D, cA, A, n0, ad0⟩ := κ
  obtain ⟨hx, hb, hml, hown, hts, hK, hG, hA, hlk, htr, hrt, hnm, hz, hf⟩ := X
  intro ad H locs lsA h1 h2 h3 hP hD hS hL
  exact lv_aloadN hx hb hd (hL.2.2.2 _ _ hl) (k ad H locs lsA h1 h2 h3 hP hD hS hL)
theorem s_istore_n (X : CX κ z) {n : Fin 4} {x : Int32} (hd : decode (zB z) pc = .ok (.istore_n n, 1)) (hi : (n : Nat) < ls.length) (k : AW κ Q (pc + 1) (lset1 ls (n : Nat) (.int x)) (r) AH nc ns) : AW κ Q pc ls (.int x :: r) AH nc ns := by
  obtain ⟨p, l, e, R, s, m, args, below, meth, c, D, cA, A, n0, ad0⟩ := κ
  obtain ⟨hx, hb, hml, hown, hts, hK, hG, hA, hlk, htr, hrt, hnm, hz, hf⟩ := X
  intro ad H locs lsA h1 h2 h3 hP hD hS hL
  exact lv_istore_n hx hb hd rfl hL.has (hL.2.1 ▸ hi) rfl (fun ls9 hn => k ad H locs ls9 h1 h2 h3 hP hD hS (hL.store1 hn))
theorem s_istore (X : CX κ z) {i : Nat} {x : Int32} (hd : decode (zB z) pc = .ok (.istore i, 2)) (hi : i < ls.length) (k : AW κ Q (pc + 2) (lset1 ls i (.int x)) (r) AH nc ns) : AW κ Q pc ls (.int x :: r) AH nc ns := by
  obtain ⟨p, l, e, R, s, m, args, below, meth, c, D, cA, A, n0, ad0⟩ := κ
  obtain ⟨hx, hb, hml, hown, hts, hK, hG, hA, hlk, htr, hrt, hnm, hz, hf⟩ := X
  intro ad H locs lsA h1 h2 h3 hP hD hS hL
  exact lv_istore hx hb hd hL.has (hL.2.1 ▸ hi) rfl (fun ls9 hn => k ad H locs ls9 h1 h2 h3 hP hD hS (hL.store1 hn))
theorem s_lstore_n (X : CX κ z) {n : Fin 4} {x : Int64} (hd : decode (zB z) pc = .ok (.lstore_n n, 1)) (hi : (n : Nat) + 1 < ls.length) (k : AW κ Q (pc + 1) (lset2 ls (n : Nat) (.long x)) (r) AH nc ns) : AW κ Q pc ls (.long x :: r) AH nc ns := by
  obtain ⟨p, l, e, R, s, m, args, below, meth, c, D, cA, A, n0, ad0⟩ := κ
  obtain ⟨hx, hb, hml, hown, hts, hK, hG, hA, hlk, htr, hrt, hnm, hz, hf⟩ := X
  intro ad H locs lsA h1 h2 h3 hP hD hS hL
  exact lv_lstore_n hx hb hd rfl hL.has (hL.2.1 ▸ hi) rfl (fun ls9 hn => k ad H locs ls9 h1 h2 h3 hP hD hS (hL.store2 hn))
theorem s_lstore (X : CX κ z) {i : Nat} {x : Int64} (hd : decode (zB z) pc = .ok (.lstore i, 2)) (hi : i + 1 < ls.length) (k : AW κ Q (pc + 2) (lset2 ls i (.long x)) (r) AH nc ns) : AW κ Q pc ls (.long x :: r) AH nc ns := by
  obtain ⟨p, l, e, R, s, m, args, below, meth, c, D, cA, A, n0, ad0⟩ := κ
  obtain ⟨hx, hb, hml, hown, hts, hK, hG, hA, hlk, htr, hrt, hnm, hz, hf⟩ := X
  intro ad H locs lsA h1 h2 h3 hP hD hS hL
  exact lv_lstore hx hb hd hL.has (hL.2.1 ▸ hi) rfl (fun ls9 hn => k ad H locs ls9 h1 h2 h3 hP hD hS (hL.store2 hn))
theorem s_dstore_n (X : CX κ z) {n : Fin 4} {x : UInt64} (hd : decode (zB z) pc = .ok (.dstore_n n, 1)) (hi : (n : Nat) + 1 < ls.length) (k : AW κ Q (pc + 1) (lset2 ls (n : Nat) (.double x)) (r) AH nc ns) : AW κ Q pc ls (.double x :: r) AH nc ns := by
  obtain ⟨p, l, e, R, s, m, args, below, meth, c, D, cA, A, n0, ad0⟩ := κ
  obtain ⟨hx, hb, hml, hown, hts, hK, hG, hA, hlk, htr, hrt, hnm, hz, hf⟩ := X
  intro ad H locs lsA h1 h2 h3 hP hD hS hL
  exact lv_dstore_n hx hb hd rfl hL.has (hL.2.1 ▸ hi) rfl (fun ls9 hn => k ad H locs ls9 h1 h2 h3 hP hD hS (hL.store2 hn))
theorem s_dstore (X : CX κ z) {i : Nat} {x : UInt64} (hd : decode (zB z) pc = .ok (.dstore i, 2)) (hi : i + 1 < ls.length) (k : AW κ Q (pc + 2) (lset2 ls i (.double x)) (r) AH nc ns) : AW κ Q pc ls (.double x :: r) AH nc ns := by
  obtain ⟨p, l, e, R, s, m, args, below, meth, c, D, cA, A, n0, ad0⟩ := κ
  obtain ⟨hx, hb, hml, hown, hts, hK, hG, hA, hlk, htr, hrt, hnm, hz, hf⟩ := X
  intro ad H locs lsA h1 h2 h3 hP hD hS hL
  exact lv_dstore hx hb hd hL.has (hL.2.1 ▸ hi) rfl (fun ls9 hn => k ad H locs ls9 h1 h2 h3 hP hD hS (hL.store2 hn))
theorem s_astore_n (X : CX κ z) {n : Fin 4} {x : Nat} (hd : decode (zB z) pc = .ok (.astore_n n, 1)) (hi : (n : Nat) < ls.length) (k : AW κ Q (pc + 1) (lset1 ls (n : Nat) (.ref x)) (r) AH nc ns) : AW κ Q pc ls (.ref x :: r) AH nc ns := by
  obtain ⟨p, l, e, R, s, m, args, below, meth, c, D, cA, A, n0, ad0⟩ := κ
  obtain ⟨hx, hb, hml, hown, hts, hK, hG, hA, hlk, htr, hrt, hnm, hz, hf⟩ := X
  intro ad H locs lsA h1 h2 h3 hP hD hS hL
  exact lv_astore_n hx hb hd rfl hL.has (hL.2.1 ▸ hi) rfl (fun ls9 hn => k ad H locs ls9 h1 h2 h3 hP hD hS (hL.store1 hn))
theorem s_astore (X : CX κ z) {i : Nat} {x : Nat} (hd : decode (zB z) pc = .ok (.astore i, 2)) (hi : i < ls.length) (k : AW κ Q (pc + 2) (lset1 ls i (.ref x)) (r) AH nc ns) : AW κ Q pc ls (.ref x :: r) AH nc ns := by
  obtain ⟨p, l, e, R, s, m, args, below, meth, c, D, cA, A, n0, ad0⟩ := κ
  obtain ⟨hx, hb, hml, hown, hts, hK, hG, hA, hlk, htr, hrt, hnm, hz, hf⟩ := X
  intro ad H locs lsA h1 h2 h3 hP hD hS hL
  exact lv_astore hx hb hd hL.has (hL.2.1 ▸ hi) rfl (fun ls9 hn => k ad H locs ls9 h1 h2 h3 hP hD hS (hL.store1 hn))
theorem s_iinc (X : CX κ z) {i : Nat} {n : Int} {x : Int32} (hd : decode (zB z) pc = .ok (.iinc i n, 3)) (hl : ls[i]? = some (some (.int x))) (k : AW κ Q (pc + 3) (lset1 ls i (.int (x + Int32.ofInt n))) st AH nc ns) : AW κ Q pc ls st AH nc ns := by
  obtain ⟨p, l, e, R, s, m, args, below, meth, c, D, cA, A, n0, ad0⟩ := κ
  obtain ⟨hx, hb, hml, hown, hts, hK, hG, hA, hlk, htr, hrt, hnm, hz, hf⟩ := X
  intro ad H locs lsA h1 h2 h3 hP hD hS hL
  have hm := lvL_of (ad := ad) (n := 0) hl
  rw [Nat.zero_add] at hm
  obtain ⟨k0, hk0⟩ := List.getElem?_of_mem hm
  have hi : i < c.maxLocals := hL.2.1 ▸ (List.getElem?_eq_some_iff.mp hl).1
  exact lv_iinc hx hb hd hL.has hk0 rfl hi rfl (fun ls9 hn => k ad H locs ls9 h1 h2 h3 hP hD hS (hL.store1 hn))
theorem s_iadd (X : CX κ z) {x y : Int32} (hd : decode (zB z) pc = .ok (.iadd, 1))  (k : AW κ Q (pc + 1) ls (.int (x + y) :: r) AH nc ns) : AW κ Q pc ls (.int y :: .int x :: r) AH nc ns := by
  obtain ⟨p, l, e, R, s, m, args, below, meth, c, D, cA, A, n0, ad0⟩ := κ
  obtain ⟨hx, hb, hml, hown, hts, hK, hG, hA, hlk, htr, hrt, hnm, hz, hf⟩ := X
  intro ad H locs lsA h1 h2 h3 hP hD hS hL
  exact lv_iadd hx hb hd (k ad H locs lsA h1 h2 h3 hP hD hS hL)
theorem s_isub (X : CX κ z) {x y : Int32} (hd : decode (zB z) pc = .ok (.isub, 1))  (k : AW κ Q (pc + 1) ls (.int (x - y) :: r) AH nc ns) : AW κ Q pc ls (.int y :: .int x :: r) AH nc ns := by
  obtain ⟨p, l, e, R, s, m, args, below, meth, c, D, cA, A, n0, ad0⟩ := κ
  obtain ⟨hx, hb, hml, hown, hts, hK, hG, hA, hlk, htr, hrt, hnm, hz, hf⟩ := X
  intro ad H locs lsA h1 h2 h3 hP hD hS hL
  exact lv_isub hx hb hd (k ad H locs lsA h1 h2 h3 hP hD hS hL)
theorem s_imul (X : CX κ z) {x y : Int32} (hd : decode (zB z) pc = .ok (.imul, 1))  (k : AW κ Q (pc + 1) ls (.int (x * y) :: r) AH nc ns) : AW κ Q pc ls (.int y :: .int x :: r) AH nc ns := by
  obtain ⟨p, l, e, R, s, m, args, below, meth, c, D, cA, A, n0, ad0⟩ := κ
  obtain ⟨hx, hb, hml, hown, hts, hK, hG, hA, hlk, htr, hrt, hnm, hz, hf⟩ := X
  intro ad H locs lsA h1 h2 h3 hP hD hS hL
  exact lv_imul hx hb hd (k ad H locs lsA h1 h2 h3 hP hD hS hL)
theorem s_iand (X : CX κ z) {x y : Int32} (hd : decode (zB z) pc = .ok (.iand, 1))  (k : AW κ Q (pc + 1) ls (.int (x &&& y) :: r) AH nc ns) : AW κ Q pc ls (.int y :: .int x :: r) AH nc ns := by
  obtain ⟨p, l, e, R, s, m, args, below, meth, c, D, cA, A, n0, ad0⟩ := κ
  obtain ⟨hx, hb, hml, hown, hts, hK, hG, hA, hlk, htr, hrt, hnm, hz, hf⟩ := X
  intro ad H locs lsA h1 h2 h3 hP hD hS hL
  exact lv_iand hx hb hd (k ad H locs lsA h1 h2 h3 hP hD hS hL)
theorem s_ishr (X : CX κ z) {x y : Int32} (hd : decode (zB z) pc = .ok (.ishr, 1))  (k : AW κ Q (pc + 1) ls (.int (x >>> (y &&& 31)) :: r) AH nc ns) : AW κ Q pc ls (.int y :: .int x :: r) AH nc ns := by
  obtain ⟨p, l, e, R, s, m, args, below, meth, c, D, cA, A, n0, ad0⟩ := κ
  obtain ⟨hx, hb, hml, hown, hts, hK, hG, hA, hlk, htr, hrt, hnm, hz, hf⟩ := X
  intro ad H locs lsA h1 h2 h3 hP hD hS hL
  exact lv_ishr hx hb hd (k ad H locs lsA h1 h2 h3 hP hD hS hL)
theorem s_iushr (X : CX κ z) {x y : Int32} (hd : decode (zB z) pc = .ok (.iushr, 1))  (k : AW κ Q (pc + 1) ls (.int (x.toUInt32 >>> (y.toUInt32 &&& Int32.toUInt32 31)).toInt32 :: r) AH nc ns) : AW κ Q pc ls (.int y :: .int x :: r) AH nc ns := by
  obtain ⟨p, l, e, R, s, m, args, below, meth, c, D, cA, A, n0, ad0⟩ := κ
  obtain ⟨hx, hb, hml, hown, hts, hK, hG, hA, hlk, htr, hrt, hnm, hz, hf⟩ := X
  intro ad H locs lsA h1 h2 h3 hP hD hS hL
  exact lv_iushr hx hb hd rfl (k ad H locs lsA h1 h2 h3 hP hD hS hL)
theorem s_lor (X : CX κ z) {x y : Int64} (hd : decode (zB z) pc = .ok (.lor, 1))  (k : AW κ Q (pc + 1) ls (.long (x ||| y) :: r) AH nc ns) : AW κ Q pc ls (.long y :: .long x :: r) AH nc ns := by
  obtain ⟨p, l, e, R, s, m, args, below, meth, c, D, cA, A, n0, ad0⟩ := κ
  obtain ⟨hx, hb, hml, hown, hts, hK, hG, hA, hlk, htr, hrt, hnm, hz, hf⟩ := X
  intro ad H locs lsA h1 h2 h3 hP hD hS hL
  exact lv_lor hx hb hd (k ad H locs lsA h1 h2 h3 hP hD hS hL)
theorem s_lcmp (X : CX κ z) {x y : Int64} (hd : decode (zB z) pc = .ok (.lcmp, 1))  (k : AW κ Q (pc + 1) ls (.int (lg_cmp x y) :: r) AH nc ns) : AW κ Q pc ls (.long y :: .long x :: r) AH nc ns := by
  obtain ⟨p, l, e, R, s, m, args, below, meth, c, D, cA, A, n0, ad0⟩ := κ
  obtain ⟨hx, hb, hml, hown, hts, hK, hG, hA, hlk, htr, hrt, hnm, hz, hf⟩ := X
  intro ad H locs lsA h1 h2 h3 hP hD hS hL
  exact W.lcmp hx hb hd (k ad H locs lsA h1 h2 h3 hP hD hS hL)
theorem s_lshl (X : CX κ z) {x : Int64} {y : Int32} (hd : decode (zB z) pc = .ok (.lshl, 1))  (k : AW κ Q (pc + 1) ls (.long (x <<< (y.toInt64 &&& 63)) :: r) AH nc ns) : AW κ Q pc ls (.int y :: .long x :: r) AH nc ns := by
  obtain ⟨p, l, e, R, s, m, args, below, meth, c, D, cA, A, n0, ad0⟩ := κ
  obtain ⟨hx, hb, hml, hown, hts, hK, hG, hA, hlk, htr, hrt, hnm, hz, hf⟩ := X
  intro ad H locs lsA h1 h2 h3 hP hD hS hL
  exact lv_lshl hx hb hd rfl (k ad H locs lsA h1 h2 h3 hP hD hS hL)
theorem s_lushr (X : CX κ z) {x : Int64} {y : Int32} (hd : decode (zB z) pc = .ok (.lushr, 1))  (k : AW κ Q (pc + 1) ls (.long (x.toUInt64 >>> (y.toInt64.toUInt64 &&& Int64.toUInt64 63)).toInt64 :: r) AH nc ns) : AW κ Q pc ls (.int y :: .long x :: r) AH nc ns := by
  obtain ⟨p, l, e, R, s, m, args, below, meth, c, D, cA, A, n0, ad0⟩ := κ
  obtain ⟨hx, hb, hml, hown, hts, hK, hG, hA, hlk, htr, hrt, hnm, hz, hf⟩ := X
  intro ad H locs lsA h1 h2 h3 hP hD hS hL
  exact lv_lushr hx hb hd rfl (k ad H locs lsA h1 h2 h3 hP hD hS hL)
theorem s_i2l (X : CX κ z) {x : Int32} (hd : decode (zB z) pc = .ok (.i2l, 1))  (k : AW κ Q (pc + 1) ls (.long x.toInt64 :: r) AH nc ns) : AW κ Q pc ls (.int x :: r) AH nc ns := by
  obtain ⟨p, l, e, R, s, m, args, below, meth, c, D, cA, A, n0, ad0⟩ := κ
  obtain ⟨hx, hb, hml, hown, hts, hK, hG, hA, hlk, htr, hrt, hnm, hz, hf⟩ := X
  intro ad H locs lsA h1 h2 h3 hP hD hS hL
  exact lv_i2l hx hb hd rfl (k ad H locs lsA h1 h2 h3 hP hD hS hL)
theorem s_l2i (X : CX κ z) {x : Int64} (hd : decode (zB z) pc = .ok (.l2i, 1))  (k : AW κ Q (pc + 1) ls (.int x.toInt32 :: r) AH nc ns) : AW κ Q pc ls (.long x :: r) AH nc ns := by
  obtain ⟨p, l, e, R, s, m, args, below, meth, c, D, cA, A, n0, ad0⟩ := κ
  obtain ⟨hx, hb, hml, hown, hts, hK, hG, hA, hlk, htr, hrt, hnm, hz, hf⟩ := X
  intro ad H locs lsA h1 h2 h3 hP hD hS hL
  exact lv_l2i hx hb hd rfl (k ad H locs lsA h1 h2 h3 hP hD hS hL)
theorem s_i2b (X : CX κ z) {x : Int32} (hd : decode (zB z) pc = .ok (.i2b, 1))  (k : AW κ Q (pc + 1) ls (.int x.toInt8.toInt32 :: r) AH nc ns) : AW κ Q pc ls (.int x :: r) AH nc ns := by
  obtain ⟨p, l, e, R, s, m, args, below, meth, c, D, cA, A, n0, ad0⟩ := κ
  obtain ⟨hx, hb, hml, hown, hts, hK, hG, hA, hlk, htr, hrt, hnm, hz, hf⟩ := X
  intro ad H locs lsA h1 h2 h3 hP hD hS hL
  exact lv_i2b hx hb hd rfl (k ad H locs lsA h1 h2 h3 hP hD hS hL)
theorem s_i2d (X : CX κ z) {x : Int32} (hd : decode (zB z) pc = .ok (.i2d, 1))  (k : AW κ Q (pc + 1) ls (.double (FP.i2d x) :: r) AH nc ns) : AW κ Q pc ls (.int x :: r) AH nc ns := by
  obtain ⟨p, l, e, R, s, m, args, below, meth, c, D, cA, A, n0, ad0⟩ := κ
  obtain ⟨hx, hb, hml, hown, hts, hK, hG, hA, hlk, htr, hrt, hnm, hz, hf⟩ := X
  intro ad H locs lsA h1 h2 h3 hP hD hS hL
  exact lv_i2d hx hb hd (k ad H locs lsA h1 h2 h3 hP hD hS hL)
theorem s_i2f (X : CX κ z) {x : Int32} (hd : decode (zB z) pc = .ok (.i2f, 1))  (k : AW κ Q (pc + 1) ls (.float (FP.i2f x) :: r) AH nc ns) : AW κ Q pc ls (.int x :: r) AH nc ns := by
  obtain ⟨p, l, e, R, s, m, args, below, meth, c, D, cA, A, n0, ad0⟩ := κ
  obtain ⟨hx, hb, hml, hown, hts, hK, hG, hA, hlk, htr, hrt, hnm, hz, hf⟩ := X
  intro ad H locs lsA h1 h2 h3 hP hD hS hL
  exact lv_i2f hx hb hd (k ad H locs lsA h1 h2 h3 hP hD hS hL)
theorem s_dcmp (X : CX κ z) {x y : UInt64} {op : CmpOp} (hd : decode (zB z) pc = .ok (.dcmp op, 1))  (k : AW κ Q (pc + 1) ls (.int (Op.cmpValue (FP.dcmp x y) op) :: r) AH nc ns) : AW κ Q pc ls (.double y :: .double x :: r) AH nc ns := by
  obtain ⟨p, l, e, R, s, m, args, below, meth, c, D, cA, A, n0, ad0⟩ := κ
  obtain ⟨hx, hb, hml, hown, hts, hK, hG, hA, hlk, htr, hrt, hnm, hz, hf⟩ := X
  intro ad H locs lsA h1 h2 h3 hP hD hS hL
  exact lv_dcmp hx hb hd (k ad H locs lsA h1 h2 h3 hP hD hS hL)
theorem s_dup (X : CX κ z) {v : Value} (hd : decode (zB z) pc = .ok (.dup, 1)) (hc : v.category = 1) (k : AW κ Q (pc + 1) ls (v :: v :: r) AH nc ns) : AW κ Q pc ls (v :: r) AH nc ns := by
  obtain ⟨p, l, e, R, s, m, args, below, meth, c, D, cA, A, n0, ad0⟩ := κ
  obtain ⟨hx, hb, hml, hown, hts, hK, hG, hA, hlk, htr, hrt, hnm, hz, hf⟩ := X
  intro ad H locs lsA h1 h2 h3 hP hD hS hL
  exact lv_dup hx hb hd ((cvV_cat ad v).trans hc) (k ad H locs lsA h1 h2 h3 hP hD hS hL)
theorem s_pop (X : CX κ z) {v : Value} (hd : decode (zB z) pc = .ok (.pop, 1)) (hc : v.category = 1) (k : AW κ Q (pc + 1) ls (r) AH nc ns) : AW κ Q pc ls (v :: r) AH nc ns := by
  obtain ⟨p, l, e, R, s, m, args, below, meth, c, D, cA, A, n0, ad0⟩ := κ
  obtain ⟨hx, hb, hml, hown, hts, hK, hG, hA, hlk, htr, hrt, hnm, hz, hf⟩ := X
  intro ad H locs lsA h1 h2 h3 hP hD hS hL
  exact lv_pop hx hb hd ((cvV_cat ad v).trans hc) (k ad H locs lsA h1 h2 h3 hP hD hS hL)
theorem s_dup2 (X : CX κ z) {v u : Value} (hd : decode (zB z) pc = .ok (.dup2, 1)) (hc : v.category = 1) (hc2 : u.category = 1) (k : AW κ Q (pc + 1) ls (v :: u :: v :: u :: r) AH nc ns) : AW κ Q pc ls (v :: u :: r) AH nc ns := by
  obtain ⟨p, l, e, R, s, m, args, below, meth, c, D, cA, A, n0, ad0⟩ := κ
  obtain ⟨hx, hb, hml, hown, hts, hK, hG, hA, hlk, htr, hrt, hnm, hz, hf⟩ := X
  intro ad H locs lsA h1 h2 h3 hP hD hS hL
  exact lv_dup2_11 hx hb hd ((cvV_cat ad v).trans hc) ((cvV_cat ad u).trans hc2) (k ad H locs lsA h1 h2 h3 hP hD hS hL)
theorem s_goto (X : CX κ z) {off : Int} {tgt : Nat} (hd : decode (zB z) pc = .ok (.goto off, 3)) (ht : (pc : Int) + off = (tgt : Int)) (k : AW κ Q tgt ls st AH nc ns) : AW κ Q pc ls st AH nc ns := by
  obtain ⟨p, l, e, R, s, m, args, below, meth, c, D, cA, A, n0, ad0⟩ := κ
  obtain ⟨hx, hb, hml, hown, hts, hK, hG, hA, hlk, htr, hrt, hnm, hz, hf⟩ := X
  intro ad H locs lsA h1 h2 h3 hP hD hS hL
  exact lv_goto hx hb hd ht (k ad H locs lsA h1 h2 h3 hP hD hS hL)
theorem s_alen (X : CX κ z) {o kd : Nat} {a : vp_A} (hd : decode (zB z) pc = .ok (.arraylength, 1)) (ha : AH[o]? = some (.inl (kd, a))) (hk : kd < 5) (k : AW κ Q (pc + 1) ls (.int (Int32.ofNat a.1) :: r) AH nc ns) : AW κ Q pc ls (.ref o :: r) AH nc ns := by
  obtain ⟨p, l, e, R, s, m, args, below, meth, c, D, cA, A, n0, ad0⟩ := κ
  obtain ⟨hx, hb, hml, hown, hts, hK, hG, hA, hlk, htr, hrt, hnm, hz, hf⟩ := X
  intro ad H locs lsA h1 h2 h3 hP hD hS hL
  obtain ⟨ty, ht⟩ := TYS_at (cA := cA) hk
  have e : (cvA ad a).1 = a.1 := by
    obtain ⟨n, a⟩ := a
    rcases a with f | f | f | f | f <;> rfl
  exact va_alen hx hb hK hP o kd (cw_at ha) ht (by rw [e]) hd (k ad H locs lsA h1 h2 h3 hP hD hS hL)
theorem s_get (X : CX κ z) {index ci kk o : Nat} {fs : List Value} {v : Value} (hd : decode (zB z) pc = .ok (.getfield index, 3)) (hF : (index, ci, kk) ∈ zF z) (ha : AH[o]? = some (.inr (ci, fs))) (hv : fs[kk]? = some v) (k : AW κ Q (pc + 3) ls (v :: r) AH nc ns) : AW κ Q pc ls (.ref o :: r) AH nc ns := by
  obtain ⟨p, l, e, R, s, m, args, below, meth, c, D, cA, A, n0, ad0⟩ := κ
  obtain ⟨hx, hb, hml, hown, hts, hK, hG, hA, hlk, htr, hrt, hnm, hz, hf⟩ := X
  intro ad H locs lsA h1 h2 h3 hP hD hS hL
  obtain ⟨⟨C, T, N⟩, g1, g2, g3⟩ := okF_of (hf _ hF)
  have hv' : (fs.map (cvV ad))[kk]? = some (cvV ad v) := by rw [List.getElem?_map, hv]; rfl
  exact va_get hx hb hts (vw_in g1) hown hK hP o (cw_at ha) g1 kk g2 (hts _ g3) (fun _ h => h) hv' hd (k ad H locs lsA h1 h2 h3 hP hD hS hL)
def pfit : FieldType → Value → Bool
  | .int, .int _ => true
  | .long, .long _ => true
  | .object _, .ref _ => true
  | .object _, .null => true
  | .array _, .ref _ => true
  | _, _ => false
theorem pfit_ok {ty : FieldType} {v : Value} {ad : Nat → Nat} (h : pfit ty v = true) : narrow ty (cvV ad v) = cvV ad v ∧ fits ty (cvV ad v) = true := by
  cases ty <;> cases v <;> first | (cases h; done) | exact ⟨rfl, rfl⟩
theorem s_put (X : CX κ z) {index ci kk o : Nat} {fs : List Value} {v : Value} {r9 : vw_C} {tf : Nat → FieldType} (hd : decode (zB z) pc = .ok (.putfield index, 3)) (hF : (index, ci, kk) ∈ zF z) (ha : AH[o]? = some (.inr (ci, fs))) (hr : vwCl[ci]? = some r9) (htf : vwTy[ci]? = some tf) (hfin : (r9.2.1 kk).2.2.2 = false) (hv : ∀ ad : Nat → Nat, narrow (tf kk) (cvV ad v) = cvV ad v ∧ fits (tf kk) (cvV ad v) = true) (hl : kk < fs.length) (k : AW κ Q (pc + 3) ls r (AH.set o (.inr (ci, fs.set kk v))) nc ns) : AW κ Q pc ls (v :: .ref o :: r) AH nc ns := by
  obtain ⟨p, l, e, R, s, m, args, below, meth, c, D, cA, A, n0, ad0⟩ := κ
  obtain ⟨hx, hb, hml, hown, hts, hK, hG, hA, hlk, htr, hrt, hnm, hz, hf⟩ := X
  intro ad H locs lsA h1 h2 h3 hP hD hS hL
  obtain ⟨⟨C, T, N⟩, g1, g2, g3⟩ := okF_of (hf _ hF)
  cases hr.symm.trans g1
  obtain ⟨tf', t1, t2, t3⟩ := vw_ty g1
  cases htf.symm.trans t1
  have hl' : kk < (fs.map (cvV ad)).length := by rw [List.length_map]; exact hl
  have fin : ∀ (H1 : Heap) (locs1 : List Loc), va_P D vwCl ((cw cA ad AH).set o (ad o, .inr (ci, (fs.map (cvV ad)).set kk (cvV ad v)))) H1 → va_D A ((cw cA ad AH).set o (ad o, .inr (ci, (fs.map (cvV ad)).set kk (cvV ad v)))) → va_S A s.heap H1 locs1 → W p l e R s m args below meth c H1 locs1 nc ns Q (F0 m (pc + 3) lsA (r.map (cvV ad))) := by
    intro H1 locs1 hP1 hD1 hS1
    have e1 : (cw cA ad AH).set o (ad o, .inr (ci, (fs.map (cvV ad)).set kk (cvV ad v))) = cw cA ad (AH.set o (.inr (ci, fs.set kk v))) := by
      rw [← cw_set]
      show _ = (cw cA ad AH).set o (ad o, .inr (ci, (fs.set kk v).map (cvV ad)))
      rw [List.map_set]
    rw [e1] at hP1 hD1
    exact k ad H1 locs1 lsA h1 (by rw [List.length_set]; exact h2) (by rw [List.length_set]; exact h3) hP1 hD1 hS1 hL
  exact va_put hx hb hts (vw_in g1) tf t2 t3 hown hK hP hD hS o (cw_at ha) g1 kk g2 (hts _ g3) (fun _ h => h) hfin (t2 kk g2) (hv ad).1 (hv ad).2 hl' hd fin
theorem s_putF (X : CX κ z) {index ci kk o : Nat} {fs : List Value} {v : Value} {r9 : vw_C} {tf : Nat → FieldType} (hd : decode (zB z) pc = .ok (.putfield index, 3)) (hF : (index, ci, kk) ∈ zF z) (ha : AH[o]? = some (.inr (ci, fs))) (hr : vwCl[ci]? = some r9) (htf : vwTy[ci]? = some tf) (hfin : (r9.2.1 kk).2.2.2 = true) (hi : (zY z).name = "<init>") (hdc : (r9.2.1 kk).1 = (zY z).cls) (hpl : inALL (Cond.fieldLink (zY z).cls index (r9.2.1 kk).1 (r9.2.1 kk).2.1 (r9.2.1 kk).2.2.1) = true) (hv : ∀ ad : Nat → Nat, narrow (tf kk) (cvV ad v) = cvV ad v ∧ fits (tf kk) (cvV ad v) = true) (hl : kk < fs.length) (k : AW κ Q (pc + 3) ls r (AH.set o (.inr (ci, fs.set kk v))) nc ns) : AW κ Q pc ls (v :: .ref o :: r) AH nc ns := by
  obtain ⟨p, l, e, R, s, m, args, below, meth, c, D, cA, A, n0, ad0⟩ := κ
  obtain ⟨hx, hb, hml, hown, hts, hK, hG, hA, hlk, htr, hrt, hnm, hz, hf⟩ := X
  intro ad H locs lsA h1 h2 h3 hP hD hS hL
  obtain ⟨⟨C, T, N⟩, g1, g2, g3⟩ := okF_of (hf _ hF)
  cases hr.symm.trans g1
  obtain ⟨tf', t1, t2, t3⟩ := vw_ty g1
  cases htf.symm.trans t1
  have hl' : kk < (fs.map (cvV ad)).length := by rw [List.length_map]; exact hl
  have fin : ∀ (H1 : Heap) (locs1 : List Loc), va_P D vwCl ((cw cA ad AH).set o (ad o, .inr (ci, (fs.map (cvV ad)).set kk (cvV ad v)))) H1 → va_D A ((cw cA ad AH).set o (ad o, .inr (ci, (fs.map (cvV ad)).set kk (cvV ad v)))) → va_S A s.heap H1 locs1 → W p l e R s m args below meth c H1 locs1 nc ns Q (F0 m (pc + 3) lsA (r.map (cvV ad))) := by
    intro H1 locs1 hP1 hD1 hS1
    have e1 : (cw cA ad AH).set o (ad o, .inr (ci, (fs.map (cvV ad)).set kk (cvV ad v))) = cw cA ad (AH.set o (.inr (ci, fs.set kk v))) := by
      rw [← cw_set]
      show _ = (cw cA ad AH).set o (ad o, .inr (ci, (fs.set kk v).map (cvV ad)))
      rw [List.map_set]
    rw [e1] at hP1 hD1
    exact k ad H1 locs1 lsA h1 (by rw [List.length_set]; exact h2) (by rw [List.length_set]; exact h3) hP1 hD1 hS1 hL
  exact va_putF hx hb hts (vw_in g1) tf t2 t3 hown hK hP hD hS o (cw_at ha) g1 kk g2 (hts _ (ALL_of hpl)) (fun _ h => h) hfin (hnm.trans hi) hdc (t2 kk g2) (hv ad).1 (hv ad).2 hl' hd fin
end WALK
