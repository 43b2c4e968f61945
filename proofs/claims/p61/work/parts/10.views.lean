/-! ===== 10: values of worlds; words that the decompiled functions use ===== -/
abbrev oob (i : Int32) (n : Nat) : Prop := i < 0 ∨ n ≤ i.toNatClampNeg
def PST (q0 : Option Value ⊕ String) (W : List AC) : PO := fun q AH => q = q0 ∧ AH = W
def eqU : Unit ⊕ String → Option Value ⊕ String
  | .inl _ => .inl none
  | .inr e => .inr e
def eqI : Int32 ⊕ String → Option Value ⊕ String
  | .inl r => .inl (some (.int r))
  | .inr e => .inr e
def thr {α β : Type} (x : α ⊕ String) (k : α → Option β) (kx : String → Option β) : Option β := match x with
  | .inl a => k a
  | .inr e => kx e
def bnd2 {α β γ : Type} (x : Option (α × β)) (k : α → β → Option γ) : Option γ := match x with
  | some (a, b) => k a b
  | none => none
theorem bnd2_some {α β γ : Type} {a : α} {b : β} {k : α → β → Option γ} : bnd2 (some (a, b)) k = k a b := rfl
def bndT {α γ : Type} (x : Option (α ⊕ String)) (k : α → Option γ) (kx : String → Option γ) : Option γ := match x with
  | some (.inl a) => k a
  | some (.inr e) => kx e
  | none => none
theorem bndT_ok {α γ : Type} {a : α} {k : α → Option γ} {kx : String → Option γ} : bndT (some (.inl a)) k kx = k a := rfl
theorem bndT_ex {α γ : Type} {e : String} {k : α → Option γ} {kx : String → Option γ} : bndT (some (.inr e)) k kx = kx e := rfl
def bndX {α β γ : Type} (x : Option ((α ⊕ String) × β)) (k : α → β → Option γ) (kx : String → β → Option γ) : Option γ := match x with
  | some (.inl a, b) => k a b
  | some (.inr e, b) => kx e b
  | none => none
theorem bndX_ok {α β γ : Type} {a : α} {b : β} {k : α → β → Option γ} {kx : String → β → Option γ} : bndX (some (.inl a, b)) k kx = k a b := rfl
theorem bndX_ex {α β γ : Type} {e : String} {b : β} {k : α → β → Option γ} {kx : String → β → Option γ} : bndX (some (.inr e, b)) k kx = kx e b := rfl
def FU : Nat := 5000
theorem obind_inv {α β : Type} {x : Option α} {f : α → Option β} {y : β} (h : x.bind f = some y) : ∃ a, x = some a ∧ f a = some y := by
  cases x with
  | none => cases h
  | some a => exact ⟨a, rfl, h⟩
theorem bnd2_inv {α β γ : Type} {x : Option (α × β)} {f : α → β → Option γ} {y : γ} (h : bnd2 x f = some y) : ∃ a b, x = some (a, b) ∧ f a b = some y := by
  rcases x with _ | ⟨a, b⟩
  · cases h
  · exact ⟨a, b, rfl, h⟩
theorem bndT_inv {α γ : Type} {x : Option (α ⊕ String)} {k : α → Option γ} {kx : String → Option γ} {y : γ} (h : bndT x k kx = some y) : (∃ a, x = some (.inl a) ∧ k a = some y) ∨ (∃ e, x = some (.inr e) ∧ kx e = some y) := by
  rcases x with _ | (a | e)
  · cases h
  · exact Or.inl ⟨a, rfl, h⟩
  · exact Or.inr ⟨e, rfl, h⟩
theorem bndX_inv {α β γ : Type} {x : Option ((α ⊕ String) × β)} {k : α → β → Option γ} {kx : String → β → Option γ} {y : γ} (h : bndX x k kx = some y) : (∃ a b, x = some (.inl a, b) ∧ k a b = some y) ∨ (∃ e b, x = some (.inr e, b) ∧ kx e b = some y) := by
  rcases x with _ | ⟨(a | e), b⟩
  · cases h
  · exact Or.inl ⟨a, b, rfl, h⟩
  · exact Or.inr ⟨e, b, rfl, h⟩
theorem nar_b {r : Int32} (h : ¬ ¬ (r = 0 ∨ r = 1)) : narrow .boolean (.int r) = .int r := by
  rcases Classical.not_not.mp h with rfl | rfl <;> rfl
def subL : List (Option Value) → List (Option Value) → Prop
  | [], [] => True
  | none :: a, _ :: b => subL a b
  | some v :: a, some w :: b => v = w ∧ subL a b
  | _, _ => False
theorem subL_of : ∀ {a b : List (Option Value)}, subL a b → ∀ (i : Nat) (v : Value), a[i]? = some (some v) → b[i]? = some (some v)
  | [], _, _, i, v, hv => by simp at hv
  | none :: a, [], h, _, _, _ => h.elim
  | none :: a, _ :: b, h, 0, v, hv => by simp at hv
  | none :: a, _ :: b, h, i + 1, v, hv => subL_of (a := a) (b := b) h i v hv
  | some w :: a, [], h, _, _, _ => h.elim
  | some w :: a, none :: b, h, _, _, _ => h.elim
  | some w :: a, some u :: b, h, 0, v, hv => by
    have e : w = v := by simpa using hv
    show some (some u) = some (some v)
    rw [← h.1, e]
  | some w :: a, some u :: b, h, i + 1, v, hv => subL_of (a := a) (b := b) h.2 i v hv
/-- lengths and bytes of texts, as the pure part numbers them: 0 to 5 are the same here -/
def lenS : List Nat := [47, 74, 36, 5, 5, 3, 6, 5, 6, 8, 4, 5, 5, 6, 22, 22, 20, 22, 24, 21, 17, 17, 28, 43, 26, 17, 18, 5, 5, 3, 6, 5, 6, 8, 4, 5, 5, 6]
def bytS : List (List Int32) := [[113, 117, 101, 117, 101, 32, 102, 97, 115, 116, 32, 50, 48, 59, 113, 117, 101, 117, 101, 32, 115, 108, 111, 119, 32, 53, 59, 111, 119, 110, 101, 114, 32, 97, 110, 110, 59, 111, 119, 110, 101, 114, 32, 98, 111, 98, 59], [106, 111, 98, 32, 102, 97, 115, 116, 32, 97, 110, 110, 32, 53, 48, 32, 49, 48, 59, 106, 111, 98, 32, 102, 97, 115, 116, 32, 98, 111, 98, 32, 51, 48, 32, 52, 59, 106, 111, 98, 32, 102, 97, 115, 116, 32, 97, 110, 110, 32, 55, 48, 32, 50, 53, 59, 106, 111, 98, 32, 102, 97, 115, 116, 32, 98, 111, 98, 32, 52, 48, 32, 56, 59], [106, 111, 98, 32, 115, 108, 111, 119, 32, 97, 110, 110, 32, 50, 48, 32, 51, 59, 106, 111, 98, 32, 115, 108, 111, 119, 32, 98, 111, 98, 32, 54, 48, 32, 54, 59], [113, 117, 101, 117, 101], [111, 119, 110, 101, 114], [106, 111, 98], [115, 117, 98, 109, 105, 116], [112, 114, 105, 110, 116], [99, 97, 110, 99, 101, 108], [112, 114, 105, 111, 114, 105, 116, 121], [109, 111, 118, 101], [109, 101, 114, 103, 101], [112, 97, 117, 115, 101], [114, 101, 115, 117, 109, 101], [116, 104, 101, 114, 101, 32, 105, 115, 32, 110, 111, 32, 115, 117, 99, 104, 32, 113, 117, 101, 117, 101], [116, 104, 101, 114, 101, 32, 105, 115, 32, 110, 111, 32, 115, 117, 99, 104, 32, 111, 119, 110, 101, 114], [116, 104, 101, 114, 101, 32, 105, 115, 32, 110, 111, 32, 115, 117, 99, 104, 32, 106, 111, 98], [116, 104, 101, 32, 106, 111, 98, 32, 105, 115, 32, 110, 111, 116, 32, 119, 97, 105, 116, 105, 110, 103], [98, 111, 116, 104, 32, 113, 117, 101, 117, 101, 115, 32, 97, 114, 101, 32, 116, 104, 101, 32, 115, 97, 109, 101], [97, 32, 112, 114, 105, 111, 114, 105, 116, 121, 32, 105, 115, 32, 48, 32, 116, 111, 32, 57, 57], [112, 97, 103, 101, 115, 32, 97, 114, 101, 32, 49, 32, 116, 111, 32, 57, 57], [116, 104, 101, 114, 101, 32, 97, 114, 101, 32, 52, 48, 32, 106, 111, 98, 115], [116, 104, 101, 32, 113, 117, 101, 117, 101, 32, 105, 115, 32, 112, 97, 117, 115, 101, 100, 32, 111, 114, 32, 101, 109, 112, 116, 121], [116, 104, 101, 32, 106, 111, 98, 32, 105, 115, 32, 110, 111, 116, 32, 119, 97, 105, 116, 105, 110, 103, 44, 32, 111, 114, 32, 105, 115, 32, 105, 110, 32, 116, 104, 105, 115, 32, 113, 117, 101, 117, 101], [116, 104, 101, 114, 101, 32, 105, 115, 32, 110, 111, 32, 99, 104, 97, 110, 103, 101, 32, 116, 111, 32, 117, 110, 100, 111], [110, 111, 32, 115, 116, 97, 116, 101, 32, 105, 115, 32, 115, 97, 118, 101, 100], [102, 97, 115, 116, 32, 115, 108, 111, 119, 32, 97, 110, 110, 32, 98, 111, 98, 32], [113, 117, 101, 117, 101], [111, 119, 110, 101, 114], [106, 111, 98], [115, 117, 98, 109, 105, 116], [112, 114, 105, 110, 116], [99, 97, 110, 99, 101, 108], [112, 114, 105, 111, 114, 105, 116, 121], [109, 111, 118, 101], [109, 101, 114, 103, 101], [112, 97, 117, 115, 101], [114, 101, 115, 117, 109, 101]]
def fmod (x y : Int32) : Int32 := if 0 ≤ x ^^^ y then x - x / y * y else if x - x / y * y = 0 then x - x / y * y else x - x / y * y + y
def hA (b : Nat) : Nat → Option Nat := fun j => bif Nat.blt j 8 then some (b + 15 * j) else none
def updS {α : Type} (f : Nat → α) (i : Nat) (x : α) : Nat → α := fun j => if j = i then x else f j
def schar (i k : Nat) : Int32 := (bytS.getD i []).getD k 0 &&& 255
def scharT (i k : Nat) : Int32 := (bytT.getD i []).getD k 0 &&& 255
theorem lenST : ∀ i, i < 6 → lenT.getD i 0 = lenS.getD i 0 := by decide +kernel
theorem bytST : ∀ i, i < 6 → bytT.getD i [] = bytS.getD i [] := by decide +kernel
theorem scharST {i k : Nat} (h : i < 6) : scharT i k = schar i k := by unfold scharT schar; rw [bytST i h]
theorem hA_iof {ι δ : List Nat} {n b b' : Nat} (h : ∀ j, j < 8 → b + 15 * j < ι.length ∧ ι.getD (b + 15 * j) 0 = b' + 15 * j) : (fun j => (hA b j).map (iof ι δ n)) = hA b' := by
  funext j
  unfold hA
  by_cases hj : j < 8
  · obtain ⟨h1, h2⟩ := h j hj
    rw [show Nat.blt j 8 = true from Nat.ble_eq_true_of_le hj]
    show some (iof ι δ n (b + 15 * j)) = some (b' + 15 * j)
    unfold iof
    rw [show Nat.blt (b + 15 * j) ι.length = true from Nat.ble_eq_true_of_le h1, cond_true, h2]
  · rw [show Nat.blt j 8 = false from blt_no hj]
    rfl
abbrev HV : Type := (Nat → Int32) × (Nat → Int32) × (Nat → Int32) × (Nat → Int32) × (Nat → Int32) × Int32 × Int32 × (Nat → Int32)
def HVPr (v : HV) : Nat → Int32 := v.1
def HVLf (v : HV) : Nat → Int32 := v.2.1
def HVRt (v : HV) : Nat → Int32 := v.2.2.1
def HVUp (v : HV) : Nat → Int32 := v.2.2.2.1
def HVRk (v : HV) : Nat → Int32 := v.2.2.2.2.1
def HVCm (v : HV) : Int32 := v.2.2.2.2.2.1
def HVSw (v : HV) : Int32 := v.2.2.2.2.2.2.1
def HVPa (v : HV) : Nat → Int32 := v.2.2.2.2.2.2.2
def HV_sPr (v : HV) (x : Nat → Int32) : HV := (x, HVLf v, HVRt v, HVUp v, HVRk v, HVCm v, HVSw v, HVPa v)
def HV_sLf (v : HV) (x : Nat → Int32) : HV := (HVPr v, x, HVRt v, HVUp v, HVRk v, HVCm v, HVSw v, HVPa v)
def HV_sRt (v : HV) (x : Nat → Int32) : HV := (HVPr v, HVLf v, x, HVUp v, HVRk v, HVCm v, HVSw v, HVPa v)
def HV_sUp (v : HV) (x : Nat → Int32) : HV := (HVPr v, HVLf v, HVRt v, x, HVRk v, HVCm v, HVSw v, HVPa v)
def HV_sRk (v : HV) (x : Nat → Int32) : HV := (HVPr v, HVLf v, HVRt v, HVUp v, x, HVCm v, HVSw v, HVPa v)
def HV_sCm (v : HV) (x : Int32) : HV := (HVPr v, HVLf v, HVRt v, HVUp v, HVRk v, x, HVSw v, HVPa v)
def HV_sSw (v : HV) (x : Int32) : HV := (HVPr v, HVLf v, HVRt v, HVUp v, HVRk v, HVCm v, x, HVPa v)
def HV_sPa (v : HV) (x : Nat → Int32) : HV := (HVPr v, HVLf v, HVRt v, HVUp v, HVRk v, HVCm v, HVSw v, x)
def WH (v : HV) : List AC := [.inr (0, [.ref 1, .ref 2, .ref 3, .ref 4, .ref 5, .int (HVCm v), .int (HVSw v), .ref 6]), .inl (0, 40, .inl (HVPr v)), .inl (0, 40, .inl (HVLf v)), .inl (0, 40, .inl (HVRt v)), .inl (0, 40, .inl (HVUp v)), .inl (0, 40, .inl (HVRk v)), .inl (0, 40, .inl (HVPa v))]
abbrev SV : Type := HV × Int32 × (Nat → Int32) × (Nat → Int32) × (Nat → Int32) × (Nat → Int32) × (Nat → Int32) × (Nat → Int32) × (Nat → Int32)
def SVH (v : SV) : HV := v.1
def SVJc (v : SV) : Int32 := v.2.1
def SVOw (v : SV) : Nat → Int32 := v.2.2.1
def SVPg (v : SV) : Nat → Int32 := v.2.2.2.1
def SVFt (v : SV) : Nat → Int32 := v.2.2.2.2.1
def SVQu (v : SV) : Nat → Int32 := v.2.2.2.2.2.1
def SVRo (v : SV) : Nat → Int32 := v.2.2.2.2.2.2.1
def SVPd (v : SV) : Nat → Int32 := v.2.2.2.2.2.2.2.1
def SVPs (v : SV) : Nat → Int32 := v.2.2.2.2.2.2.2.2
def SV_sH (v : SV) (x : HV) : SV := (x, SVJc v, SVOw v, SVPg v, SVFt v, SVQu v, SVRo v, SVPd v, SVPs v)
def SV_sJc (v : SV) (x : Int32) : SV := (SVH v, x, SVOw v, SVPg v, SVFt v, SVQu v, SVRo v, SVPd v, SVPs v)
def SV_sOw (v : SV) (x : Nat → Int32) : SV := (SVH v, SVJc v, x, SVPg v, SVFt v, SVQu v, SVRo v, SVPd v, SVPs v)
def SV_sPg (v : SV) (x : Nat → Int32) : SV := (SVH v, SVJc v, SVOw v, x, SVFt v, SVQu v, SVRo v, SVPd v, SVPs v)
def SV_sFt (v : SV) (x : Nat → Int32) : SV := (SVH v, SVJc v, SVOw v, SVPg v, x, SVQu v, SVRo v, SVPd v, SVPs v)
def SV_sQu (v : SV) (x : Nat → Int32) : SV := (SVH v, SVJc v, SVOw v, SVPg v, SVFt v, x, SVRo v, SVPd v, SVPs v)
def SV_sRo (v : SV) (x : Nat → Int32) : SV := (SVH v, SVJc v, SVOw v, SVPg v, SVFt v, SVQu v, x, SVPd v, SVPs v)
def SV_sPd (v : SV) (x : Nat → Int32) : SV := (SVH v, SVJc v, SVOw v, SVPg v, SVFt v, SVQu v, SVRo v, x, SVPs v)
def SV_sPs (v : SV) (x : Nat → Int32) : SV := (SVH v, SVJc v, SVOw v, SVPg v, SVFt v, SVQu v, SVRo v, SVPd v, x)
def WS (v : SV) : List AC := [.inr (7, [.ref 1, .int (SVJc v), .ref 8, .ref 9, .ref 10, .ref 11, .ref 12, .ref 13, .ref 14]), .inr (0, [.ref 2, .ref 3, .ref 4, .ref 5, .ref 6, .int (HVCm (SVH v)), .int (HVSw (SVH v)), .ref 7]), .inl (0, 40, .inl (HVPr (SVH v))), .inl (0, 40, .inl (HVLf (SVH v))), .inl (0, 40, .inl (HVRt (SVH v))), .inl (0, 40, .inl (HVUp (SVH v))), .inl (0, 40, .inl (HVRk (SVH v))), .inl (0, 40, .inl (HVPa (SVH v))), .inl (0, 40, .inl (SVOw v)), .inl (0, 40, .inl (SVPg v)), .inl (0, 40, .inl (SVFt v)), .inl (0, 40, .inl (SVQu v)), .inl (0, 6, .inl (SVRo v)), .inl (0, 6, .inl (SVPd v)), .inl (2, 6, .inl (SVPs v))]
abbrev NV : Type := (Nat → Int64) × Int32
def NVPk (v : NV) : Nat → Int64 := v.1
def NVCt (v : NV) : Int32 := v.2
def NV_sPk (v : NV) (x : Nat → Int64) : NV := (x, NVCt v)
def NV_sCt (v : NV) (x : Int32) : NV := (NVPk v, x)
def WN (v : NV) : List AC := [.inr (2, [.ref 1, .int (NVCt v)]), .inl (1, 8, .inr (.inl (NVPk v)))]
abbrev OV : Type := (Nat → Int32) × Int32
def OVBy (v : OV) : Nat → Int32 := v.1
def OVLn (v : OV) : Int32 := v.2
def OV_sBy (v : OV) (x : Nat → Int32) : OV := (x, OVLn v)
def OV_sLn (v : OV) (x : Int32) : OV := (OVBy v, x)
def WO (v : OV) : List AC := [.inr (3, [.ref 1, .int (OVLn v)]), .inl (0, 200, .inl (OVBy v))]
abbrev TV : Type := (Nat → Int32) × (Nat → Int32) × (Nat → Int32) × (Nat → Int32) × (Nat → Int32) × Int32
def TVK (v : TV) : Nat → Int32 := v.1
def TVA (v : TV) : Nat → Int32 := v.2.1
def TVB (v : TV) : Nat → Int32 := v.2.2.1
def TVC (v : TV) : Nat → Int32 := v.2.2.2.1
def TVD (v : TV) : Nat → Int32 := v.2.2.2.2.1
def TVCt (v : TV) : Int32 := v.2.2.2.2.2
def TV_sK (v : TV) (x : Nat → Int32) : TV := (x, TVA v, TVB v, TVC v, TVD v, TVCt v)
def TV_sA (v : TV) (x : Nat → Int32) : TV := (TVK v, x, TVB v, TVC v, TVD v, TVCt v)
def TV_sB (v : TV) (x : Nat → Int32) : TV := (TVK v, TVA v, x, TVC v, TVD v, TVCt v)
def TV_sC (v : TV) (x : Nat → Int32) : TV := (TVK v, TVA v, TVB v, x, TVD v, TVCt v)
def TV_sD (v : TV) (x : Nat → Int32) : TV := (TVK v, TVA v, TVB v, TVC v, x, TVCt v)
def TV_sCt (v : TV) (x : Int32) : TV := (TVK v, TVA v, TVB v, TVC v, TVD v, x)
def WT (v : TV) : List AC := [.inr (5, [.ref 1, .ref 2, .ref 3, .ref 4, .ref 5, .int (TVCt v)]), .inl (0, 30, .inl (TVK v)), .inl (0, 30, .inl (TVA v)), .inl (0, 30, .inl (TVB v)), .inl (0, 30, .inl (TVC v)), .inl (0, 30, .inl (TVD v))]
abbrev RV : Type := (Nat → Int32) × Int32 × Int32 × Int32 × Int32 × Int32 × Int64 × Int32 × Int32 × Int32
def RVTx (v : RV) : Nat → Int32 := v.1
def RVLn (v : RV) : Int32 := v.2.1
def RVEn (v : RV) : Int32 := v.2.2.1
def RVNx (v : RV) : Int32 := v.2.2.2.1
def RVTk (v : RV) : Int32 := v.2.2.2.2.1
def RVAt (v : RV) : Int32 := v.2.2.2.2.2.1
def RVWd (v : RV) : Int64 := v.2.2.2.2.2.2.1
def RVVa (v : RV) : Int32 := v.2.2.2.2.2.2.2.1
def RVEk (v : RV) : Int32 := v.2.2.2.2.2.2.2.2.1
def RVEa (v : RV) : Int32 := v.2.2.2.2.2.2.2.2.2
def RV_sTx (v : RV) (x : Nat → Int32) : RV := (x, RVLn v, RVEn v, RVNx v, RVTk v, RVAt v, RVWd v, RVVa v, RVEk v, RVEa v)
def RV_sLn (v : RV) (x : Int32) : RV := (RVTx v, x, RVEn v, RVNx v, RVTk v, RVAt v, RVWd v, RVVa v, RVEk v, RVEa v)
def RV_sEn (v : RV) (x : Int32) : RV := (RVTx v, RVLn v, x, RVNx v, RVTk v, RVAt v, RVWd v, RVVa v, RVEk v, RVEa v)
def RV_sNx (v : RV) (x : Int32) : RV := (RVTx v, RVLn v, RVEn v, x, RVTk v, RVAt v, RVWd v, RVVa v, RVEk v, RVEa v)
def RV_sTk (v : RV) (x : Int32) : RV := (RVTx v, RVLn v, RVEn v, RVNx v, x, RVAt v, RVWd v, RVVa v, RVEk v, RVEa v)
def RV_sAt (v : RV) (x : Int32) : RV := (RVTx v, RVLn v, RVEn v, RVNx v, RVTk v, x, RVWd v, RVVa v, RVEk v, RVEa v)
def RV_sWd (v : RV) (x : Int64) : RV := (RVTx v, RVLn v, RVEn v, RVNx v, RVTk v, RVAt v, x, RVVa v, RVEk v, RVEa v)
def RV_sVa (v : RV) (x : Int32) : RV := (RVTx v, RVLn v, RVEn v, RVNx v, RVTk v, RVAt v, RVWd v, x, RVEk v, RVEa v)
def RV_sEk (v : RV) (x : Int32) : RV := (RVTx v, RVLn v, RVEn v, RVNx v, RVTk v, RVAt v, RVWd v, RVVa v, x, RVEa v)
def RV_sEa (v : RV) (x : Int32) : RV := (RVTx v, RVLn v, RVEn v, RVNx v, RVTk v, RVAt v, RVWd v, RVVa v, RVEk v, x)
def WR (v : RV) : List AC := [.inr (4, [.ref 1, .int (RVLn v), .int (RVEn v), .int (RVNx v), .int (RVTk v), .int (RVAt v), .long (RVWd v), .int (RVVa v), .int (RVEk v), .int (RVEa v)]), .inl (0, 600, .inl (RVTx v))]
abbrev UV : Type := NV × NV × (Nat → Int32)
def UVQs (v : UV) : NV := v.1
def UVOs (v : UV) : NV := v.2.1
def UVSp (v : UV) : Nat → Int32 := v.2.2
def UV_sQs (v : UV) (x : NV) : UV := (x, UVOs v, UVSp v)
def UV_sOs (v : UV) (x : NV) : UV := (UVQs v, x, UVSp v)
def UV_sSp (v : UV) (x : Nat → Int32) : UV := (UVQs v, UVOs v, x)
def WU (v : UV) : List AC := [.inr (6, [.ref 1, .ref 3, .ref 5]), .inr (2, [.ref 2, .int (NVCt (UVQs v))]), .inl (1, 8, .inr (.inl (NVPk (UVQs v)))), .inr (2, [.ref 4, .int (NVCt (UVOs v))]), .inl (1, 8, .inr (.inl (NVPk (UVOs v)))), .inl (0, 6, .inl (UVSp v))]
abbrev MV : Type := (Nat → Int32) × (Nat → Int32) × (Nat → Int32) × (Nat → Int32) × Int32 × Int32 × Int32 × (Nat → Int32) × Int32 × (Nat → Int32) × Int32 × Int32 × Int32 × Int32 × Int32 × Int32 × Int32 × Int32 × Int32 × (Nat → Int32) × Int32 × (Nat → Int32) × (Nat → Int32) × Int32
def MVSt (v : MV) : Nat → Int32 := v.1
def MVAs (v : MV) : Nat → Int32 := v.2.1
def MVSv (v : MV) : Nat → Int32 := v.2.2.1
def MVPt (v : MV) : Nat → Int32 := v.2.2.2.1
def MVPc (v : MV) : Int32 := v.2.2.2.2.1
def MVIs (v : MV) : Int32 := v.2.2.2.2.2.1
def MVTh (v : MV) : Int32 := v.2.2.2.2.2.2.1
def MVSp (v : MV) : Nat → Int32 := v.2.2.2.2.2.2.2.1
def MVSl (v : MV) : Int32 := v.2.2.2.2.2.2.2.2.1
def MVBf (v : MV) : Nat → Int32 := v.2.2.2.2.2.2.2.2.2.1
def MVLn (v : MV) : Int32 := v.2.2.2.2.2.2.2.2.2.2.1
def MVEc (v : MV) : Int32 := v.2.2.2.2.2.2.2.2.2.2.2.1
def MVEo (v : MV) : Int32 := v.2.2.2.2.2.2.2.2.2.2.2.2.1
def MVSa (v : MV) : Int32 := v.2.2.2.2.2.2.2.2.2.2.2.2.2.1
def MVEn (v : MV) : Int32 := v.2.2.2.2.2.2.2.2.2.2.2.2.2.2.1
def MVTk (v : MV) : Int32 := v.2.2.2.2.2.2.2.2.2.2.2.2.2.2.2.1
def MVVa (v : MV) : Int32 := v.2.2.2.2.2.2.2.2.2.2.2.2.2.2.2.2.1
def MVFa (v : MV) : Int32 := v.2.2.2.2.2.2.2.2.2.2.2.2.2.2.2.2.2.1
def MVFo (v : MV) : Int32 := v.2.2.2.2.2.2.2.2.2.2.2.2.2.2.2.2.2.2.1
def MVSm (v : MV) : Nat → Int32 := v.2.2.2.2.2.2.2.2.2.2.2.2.2.2.2.2.2.2.2.1
def MVSc (v : MV) : Int32 := v.2.2.2.2.2.2.2.2.2.2.2.2.2.2.2.2.2.2.2.2.1
def MVOr (v : MV) : Nat → Int32 := v.2.2.2.2.2.2.2.2.2.2.2.2.2.2.2.2.2.2.2.2.2.1
def MVOu (v : MV) : Nat → Int32 := v.2.2.2.2.2.2.2.2.2.2.2.2.2.2.2.2.2.2.2.2.2.2.1
def MVOl (v : MV) : Int32 := v.2.2.2.2.2.2.2.2.2.2.2.2.2.2.2.2.2.2.2.2.2.2.2
def MV_sSt (v : MV) (x : Nat → Int32) : MV := (x, MVAs v, MVSv v, MVPt v, MVPc v, MVIs v, MVTh v, MVSp v, MVSl v, MVBf v, MVLn v, MVEc v, MVEo v, MVSa v, MVEn v, MVTk v, MVVa v, MVFa v, MVFo v, MVSm v, MVSc v, MVOr v, MVOu v, MVOl v)
def MV_sAs (v : MV) (x : Nat → Int32) : MV := (MVSt v, x, MVSv v, MVPt v, MVPc v, MVIs v, MVTh v, MVSp v, MVSl v, MVBf v, MVLn v, MVEc v, MVEo v, MVSa v, MVEn v, MVTk v, MVVa v, MVFa v, MVFo v, MVSm v, MVSc v, MVOr v, MVOu v, MVOl v)
def MV_sSv (v : MV) (x : Nat → Int32) : MV := (MVSt v, MVAs v, x, MVPt v, MVPc v, MVIs v, MVTh v, MVSp v, MVSl v, MVBf v, MVLn v, MVEc v, MVEo v, MVSa v, MVEn v, MVTk v, MVVa v, MVFa v, MVFo v, MVSm v, MVSc v, MVOr v, MVOu v, MVOl v)
def MV_sPt (v : MV) (x : Nat → Int32) : MV := (MVSt v, MVAs v, MVSv v, x, MVPc v, MVIs v, MVTh v, MVSp v, MVSl v, MVBf v, MVLn v, MVEc v, MVEo v, MVSa v, MVEn v, MVTk v, MVVa v, MVFa v, MVFo v, MVSm v, MVSc v, MVOr v, MVOu v, MVOl v)
def MV_sPc (v : MV) (x : Int32) : MV := (MVSt v, MVAs v, MVSv v, MVPt v, x, MVIs v, MVTh v, MVSp v, MVSl v, MVBf v, MVLn v, MVEc v, MVEo v, MVSa v, MVEn v, MVTk v, MVVa v, MVFa v, MVFo v, MVSm v, MVSc v, MVOr v, MVOu v, MVOl v)
def MV_sIs (v : MV) (x : Int32) : MV := (MVSt v, MVAs v, MVSv v, MVPt v, MVPc v, x, MVTh v, MVSp v, MVSl v, MVBf v, MVLn v, MVEc v, MVEo v, MVSa v, MVEn v, MVTk v, MVVa v, MVFa v, MVFo v, MVSm v, MVSc v, MVOr v, MVOu v, MVOl v)
def MV_sTh (v : MV) (x : Int32) : MV := (MVSt v, MVAs v, MVSv v, MVPt v, MVPc v, MVIs v, x, MVSp v, MVSl v, MVBf v, MVLn v, MVEc v, MVEo v, MVSa v, MVEn v, MVTk v, MVVa v, MVFa v, MVFo v, MVSm v, MVSc v, MVOr v, MVOu v, MVOl v)
def MV_sSp (v : MV) (x : Nat → Int32) : MV := (MVSt v, MVAs v, MVSv v, MVPt v, MVPc v, MVIs v, MVTh v, x, MVSl v, MVBf v, MVLn v, MVEc v, MVEo v, MVSa v, MVEn v, MVTk v, MVVa v, MVFa v, MVFo v, MVSm v, MVSc v, MVOr v, MVOu v, MVOl v)
def MV_sSl (v : MV) (x : Int32) : MV := (MVSt v, MVAs v, MVSv v, MVPt v, MVPc v, MVIs v, MVTh v, MVSp v, x, MVBf v, MVLn v, MVEc v, MVEo v, MVSa v, MVEn v, MVTk v, MVVa v, MVFa v, MVFo v, MVSm v, MVSc v, MVOr v, MVOu v, MVOl v)
def MV_sBf (v : MV) (x : Nat → Int32) : MV := (MVSt v, MVAs v, MVSv v, MVPt v, MVPc v, MVIs v, MVTh v, MVSp v, MVSl v, x, MVLn v, MVEc v, MVEo v, MVSa v, MVEn v, MVTk v, MVVa v, MVFa v, MVFo v, MVSm v, MVSc v, MVOr v, MVOu v, MVOl v)
def MV_sLn (v : MV) (x : Int32) : MV := (MVSt v, MVAs v, MVSv v, MVPt v, MVPc v, MVIs v, MVTh v, MVSp v, MVSl v, MVBf v, x, MVEc v, MVEo v, MVSa v, MVEn v, MVTk v, MVVa v, MVFa v, MVFo v, MVSm v, MVSc v, MVOr v, MVOu v, MVOl v)
def MV_sEc (v : MV) (x : Int32) : MV := (MVSt v, MVAs v, MVSv v, MVPt v, MVPc v, MVIs v, MVTh v, MVSp v, MVSl v, MVBf v, MVLn v, x, MVEo v, MVSa v, MVEn v, MVTk v, MVVa v, MVFa v, MVFo v, MVSm v, MVSc v, MVOr v, MVOu v, MVOl v)
def MV_sEo (v : MV) (x : Int32) : MV := (MVSt v, MVAs v, MVSv v, MVPt v, MVPc v, MVIs v, MVTh v, MVSp v, MVSl v, MVBf v, MVLn v, MVEc v, x, MVSa v, MVEn v, MVTk v, MVVa v, MVFa v, MVFo v, MVSm v, MVSc v, MVOr v, MVOu v, MVOl v)
def MV_sSa (v : MV) (x : Int32) : MV := (MVSt v, MVAs v, MVSv v, MVPt v, MVPc v, MVIs v, MVTh v, MVSp v, MVSl v, MVBf v, MVLn v, MVEc v, MVEo v, x, MVEn v, MVTk v, MVVa v, MVFa v, MVFo v, MVSm v, MVSc v, MVOr v, MVOu v, MVOl v)
def MV_sEn (v : MV) (x : Int32) : MV := (MVSt v, MVAs v, MVSv v, MVPt v, MVPc v, MVIs v, MVTh v, MVSp v, MVSl v, MVBf v, MVLn v, MVEc v, MVEo v, MVSa v, x, MVTk v, MVVa v, MVFa v, MVFo v, MVSm v, MVSc v, MVOr v, MVOu v, MVOl v)
def MV_sTk (v : MV) (x : Int32) : MV := (MVSt v, MVAs v, MVSv v, MVPt v, MVPc v, MVIs v, MVTh v, MVSp v, MVSl v, MVBf v, MVLn v, MVEc v, MVEo v, MVSa v, MVEn v, x, MVVa v, MVFa v, MVFo v, MVSm v, MVSc v, MVOr v, MVOu v, MVOl v)
def MV_sVa (v : MV) (x : Int32) : MV := (MVSt v, MVAs v, MVSv v, MVPt v, MVPc v, MVIs v, MVTh v, MVSp v, MVSl v, MVBf v, MVLn v, MVEc v, MVEo v, MVSa v, MVEn v, MVTk v, x, MVFa v, MVFo v, MVSm v, MVSc v, MVOr v, MVOu v, MVOl v)
def MV_sFa (v : MV) (x : Int32) : MV := (MVSt v, MVAs v, MVSv v, MVPt v, MVPc v, MVIs v, MVTh v, MVSp v, MVSl v, MVBf v, MVLn v, MVEc v, MVEo v, MVSa v, MVEn v, MVTk v, MVVa v, x, MVFo v, MVSm v, MVSc v, MVOr v, MVOu v, MVOl v)
def MV_sFo (v : MV) (x : Int32) : MV := (MVSt v, MVAs v, MVSv v, MVPt v, MVPc v, MVIs v, MVTh v, MVSp v, MVSl v, MVBf v, MVLn v, MVEc v, MVEo v, MVSa v, MVEn v, MVTk v, MVVa v, MVFa v, x, MVSm v, MVSc v, MVOr v, MVOu v, MVOl v)
def MV_sSm (v : MV) (x : Nat → Int32) : MV := (MVSt v, MVAs v, MVSv v, MVPt v, MVPc v, MVIs v, MVTh v, MVSp v, MVSl v, MVBf v, MVLn v, MVEc v, MVEo v, MVSa v, MVEn v, MVTk v, MVVa v, MVFa v, MVFo v, x, MVSc v, MVOr v, MVOu v, MVOl v)
def MV_sSc (v : MV) (x : Int32) : MV := (MVSt v, MVAs v, MVSv v, MVPt v, MVPc v, MVIs v, MVTh v, MVSp v, MVSl v, MVBf v, MVLn v, MVEc v, MVEo v, MVSa v, MVEn v, MVTk v, MVVa v, MVFa v, MVFo v, MVSm v, x, MVOr v, MVOu v, MVOl v)
def MV_sOr (v : MV) (x : Nat → Int32) : MV := (MVSt v, MVAs v, MVSv v, MVPt v, MVPc v, MVIs v, MVTh v, MVSp v, MVSl v, MVBf v, MVLn v, MVEc v, MVEo v, MVSa v, MVEn v, MVTk v, MVVa v, MVFa v, MVFo v, MVSm v, MVSc v, x, MVOu v, MVOl v)
def MV_sOu (v : MV) (x : Nat → Int32) : MV := (MVSt v, MVAs v, MVSv v, MVPt v, MVPc v, MVIs v, MVTh v, MVSp v, MVSl v, MVBf v, MVLn v, MVEc v, MVEo v, MVSa v, MVEn v, MVTk v, MVVa v, MVFa v, MVFo v, MVSm v, MVSc v, MVOr v, x, MVOl v)
def MV_sOl (v : MV) (x : Int32) : MV := (MVSt v, MVAs v, MVSv v, MVPt v, MVPc v, MVIs v, MVTh v, MVSp v, MVSl v, MVBf v, MVLn v, MVEc v, MVEo v, MVSa v, MVEn v, MVTk v, MVVa v, MVFa v, MVFo v, MVSm v, MVSc v, MVOr v, MVOu v, x)
def WM (v : MV) : List AC := [.inr (9, [.ref 1, .ref 2, .ref 3, .ref 4, .int (MVPc v), .int (MVIs v), .int (MVTh v), .ref 5, .int (MVSl v), .ref 6, .int (MVLn v), .int (MVEc v), .int (MVEo v), .int (MVSa v), .int (MVEn v), .int (MVTk v), .int (MVVa v), .int (MVFa v), .int (MVFo v), .ref 7, .int (MVSc v), .ref 8, .ref 9, .int (MVOl v)]), .inl (0, 500, .inl (MVSt v)), .inl (0, 500, .inl (MVAs v)), .inl (0, 500, .inl (MVSv v)), .inl (0, 4000, .inl (MVPt v)), .inl (0, 6, .inl (MVSp v)), .inl (3, 600, .inl (MVBf v)), .inl (0, 150, .inl (MVSm v)), .inl (0, 40, .inl (MVOr v)), .inl (3, 240, .inl (MVOu v))]
abbrev YV : Type := (Nat → SV) × Int32 × Int32
def YVKs (v : YV) : Nat → SV := v.1
def YVCt (v : YV) : Int32 := v.2.1
def YVNx (v : YV) : Int32 := v.2.2
def YV_sKs (v : YV) (x : Nat → SV) : YV := (x, YVCt v, YVNx v)
def YV_sCt (v : YV) (x : Int32) : YV := (YVKs v, x, YVNx v)
def YV_sNx (v : YV) (x : Int32) : YV := (YVKs v, YVCt v, x)
def WY (v : YV) : List AC := [.inr (1, [.ref 1, .int (YVCt v), .int (YVNx v)]), .inl (4, 8, .inr (.inr (.inr (.inr (hA 2))))), .inr (7, [.ref 3, .int (SVJc ((YVKs v) 0)), .ref 10, .ref 11, .ref 12, .ref 13, .ref 14, .ref 15, .ref 16]), .inr (0, [.ref 4, .ref 5, .ref 6, .ref 7, .ref 8, .int (HVCm (SVH ((YVKs v) 0))), .int (HVSw (SVH ((YVKs v) 0))), .ref 9]), .inl (0, 40, .inl (HVPr (SVH ((YVKs v) 0)))), .inl (0, 40, .inl (HVLf (SVH ((YVKs v) 0)))), .inl (0, 40, .inl (HVRt (SVH ((YVKs v) 0)))), .inl (0, 40, .inl (HVUp (SVH ((YVKs v) 0)))), .inl (0, 40, .inl (HVRk (SVH ((YVKs v) 0)))), .inl (0, 40, .inl (HVPa (SVH ((YVKs v) 0)))), .inl (0, 40, .inl (SVOw ((YVKs v) 0))), .inl (0, 40, .inl (SVPg ((YVKs v) 0))), .inl (0, 40, .inl (SVFt ((YVKs v) 0))), .inl (0, 40, .inl (SVQu ((YVKs v) 0))), .inl (0, 6, .inl (SVRo ((YVKs v) 0))), .inl (0, 6, .inl (SVPd ((YVKs v) 0))), .inl (2, 6, .inl (SVPs ((YVKs v) 0))), .inr (7, [.ref 18, .int (SVJc ((YVKs v) 1)), .ref 25, .ref 26, .ref 27, .ref 28, .ref 29, .ref 30, .ref 31]), .inr (0, [.ref 19, .ref 20, .ref 21, .ref 22, .ref 23, .int (HVCm (SVH ((YVKs v) 1))), .int (HVSw (SVH ((YVKs v) 1))), .ref 24]), .inl (0, 40, .inl (HVPr (SVH ((YVKs v) 1)))), .inl (0, 40, .inl (HVLf (SVH ((YVKs v) 1)))), .inl (0, 40, .inl (HVRt (SVH ((YVKs v) 1)))), .inl (0, 40, .inl (HVUp (SVH ((YVKs v) 1)))), .inl (0, 40, .inl (HVRk (SVH ((YVKs v) 1)))), .inl (0, 40, .inl (HVPa (SVH ((YVKs v) 1)))), .inl (0, 40, .inl (SVOw ((YVKs v) 1))), .inl (0, 40, .inl (SVPg ((YVKs v) 1))), .inl (0, 40, .inl (SVFt ((YVKs v) 1))), .inl (0, 40, .inl (SVQu ((YVKs v) 1))), .inl (0, 6, .inl (SVRo ((YVKs v) 1))), .inl (0, 6, .inl (SVPd ((YVKs v) 1))), .inl (2, 6, .inl (SVPs ((YVKs v) 1))), .inr (7, [.ref 33, .int (SVJc ((YVKs v) 2)), .ref 40, .ref 41, .ref 42, .ref 43, .ref 44, .ref 45, .ref 46]), .inr (0, [.ref 34, .ref 35, .ref 36, .ref 37, .ref 38, .int (HVCm (SVH ((YVKs v) 2))), .int (HVSw (SVH ((YVKs v) 2))), .ref 39]), .inl (0, 40, .inl (HVPr (SVH ((YVKs v) 2)))), .inl (0, 40, .inl (HVLf (SVH ((YVKs v) 2)))), .inl (0, 40, .inl (HVRt (SVH ((YVKs v) 2)))), .inl (0, 40, .inl (HVUp (SVH ((YVKs v) 2)))), .inl (0, 40, .inl (HVRk (SVH ((YVKs v) 2)))), .inl (0, 40, .inl (HVPa (SVH ((YVKs v) 2)))), .inl (0, 40, .inl (SVOw ((YVKs v) 2))), .inl (0, 40, .inl (SVPg ((YVKs v) 2))), .inl (0, 40, .inl (SVFt ((YVKs v) 2))), .inl (0, 40, .inl (SVQu ((YVKs v) 2))), .inl (0, 6, .inl (SVRo ((YVKs v) 2))), .inl (0, 6, .inl (SVPd ((YVKs v) 2))), .inl (2, 6, .inl (SVPs ((YVKs v) 2))), .inr (7, [.ref 48, .int (SVJc ((YVKs v) 3)), .ref 55, .ref 56, .ref 57, .ref 58, .ref 59, .ref 60, .ref 61]), .inr (0, [.ref 49, .ref 50, .ref 51, .ref 52, .ref 53, .int (HVCm (SVH ((YVKs v) 3))), .int (HVSw (SVH ((YVKs v) 3))), .ref 54]), .inl (0, 40, .inl (HVPr (SVH ((YVKs v) 3)))), .inl (0, 40, .inl (HVLf (SVH ((YVKs v) 3)))), .inl (0, 40, .inl (HVRt (SVH ((YVKs v) 3)))), .inl (0, 40, .inl (HVUp (SVH ((YVKs v) 3)))), .inl (0, 40, .inl (HVRk (SVH ((YVKs v) 3)))), .inl (0, 40, .inl (HVPa (SVH ((YVKs v) 3)))), .inl (0, 40, .inl (SVOw ((YVKs v) 3))), .inl (0, 40, .inl (SVPg ((YVKs v) 3))), .inl (0, 40, .inl (SVFt ((YVKs v) 3))), .inl (0, 40, .inl (SVQu ((YVKs v) 3))), .inl (0, 6, .inl (SVRo ((YVKs v) 3))), .inl (0, 6, .inl (SVPd ((YVKs v) 3))), .inl (2, 6, .inl (SVPs ((YVKs v) 3))), .inr (7, [.ref 63, .int (SVJc ((YVKs v) 4)), .ref 70, .ref 71, .ref 72, .ref 73, .ref 74, .ref 75, .ref 76]), .inr (0, [.ref 64, .ref 65, .ref 66, .ref 67, .ref 68, .int (HVCm (SVH ((YVKs v) 4))), .int (HVSw (SVH ((YVKs v) 4))), .ref 69]), .inl (0, 40, .inl (HVPr (SVH ((YVKs v) 4)))), .inl (0, 40, .inl (HVLf (SVH ((YVKs v) 4)))), .inl (0, 40, .inl (HVRt (SVH ((YVKs v) 4)))), .inl (0, 40, .inl (HVUp (SVH ((YVKs v) 4)))), .inl (0, 40, .inl (HVRk (SVH ((YVKs v) 4)))), .inl (0, 40, .inl (HVPa (SVH ((YVKs v) 4)))), .inl (0, 40, .inl (SVOw ((YVKs v) 4))), .inl (0, 40, .inl (SVPg ((YVKs v) 4))), .inl (0, 40, .inl (SVFt ((YVKs v) 4))), .inl (0, 40, .inl (SVQu ((YVKs v) 4))), .inl (0, 6, .inl (SVRo ((YVKs v) 4))), .inl (0, 6, .inl (SVPd ((YVKs v) 4))), .inl (2, 6, .inl (SVPs ((YVKs v) 4))), .inr (7, [.ref 78, .int (SVJc ((YVKs v) 5)), .ref 85, .ref 86, .ref 87, .ref 88, .ref 89, .ref 90, .ref 91]), .inr (0, [.ref 79, .ref 80, .ref 81, .ref 82, .ref 83, .int (HVCm (SVH ((YVKs v) 5))), .int (HVSw (SVH ((YVKs v) 5))), .ref 84]), .inl (0, 40, .inl (HVPr (SVH ((YVKs v) 5)))), .inl (0, 40, .inl (HVLf (SVH ((YVKs v) 5)))), .inl (0, 40, .inl (HVRt (SVH ((YVKs v) 5)))), .inl (0, 40, .inl (HVUp (SVH ((YVKs v) 5)))), .inl (0, 40, .inl (HVRk (SVH ((YVKs v) 5)))), .inl (0, 40, .inl (HVPa (SVH ((YVKs v) 5)))), .inl (0, 40, .inl (SVOw ((YVKs v) 5))), .inl (0, 40, .inl (SVPg ((YVKs v) 5))), .inl (0, 40, .inl (SVFt ((YVKs v) 5))), .inl (0, 40, .inl (SVQu ((YVKs v) 5))), .inl (0, 6, .inl (SVRo ((YVKs v) 5))), .inl (0, 6, .inl (SVPd ((YVKs v) 5))), .inl (2, 6, .inl (SVPs ((YVKs v) 5))), .inr (7, [.ref 93, .int (SVJc ((YVKs v) 6)), .ref 100, .ref 101, .ref 102, .ref 103, .ref 104, .ref 105, .ref 106]), .inr (0, [.ref 94, .ref 95, .ref 96, .ref 97, .ref 98, .int (HVCm (SVH ((YVKs v) 6))), .int (HVSw (SVH ((YVKs v) 6))), .ref 99]), .inl (0, 40, .inl (HVPr (SVH ((YVKs v) 6)))), .inl (0, 40, .inl (HVLf (SVH ((YVKs v) 6)))), .inl (0, 40, .inl (HVRt (SVH ((YVKs v) 6)))), .inl (0, 40, .inl (HVUp (SVH ((YVKs v) 6)))), .inl (0, 40, .inl (HVRk (SVH ((YVKs v) 6)))), .inl (0, 40, .inl (HVPa (SVH ((YVKs v) 6)))), .inl (0, 40, .inl (SVOw ((YVKs v) 6))), .inl (0, 40, .inl (SVPg ((YVKs v) 6))), .inl (0, 40, .inl (SVFt ((YVKs v) 6))), .inl (0, 40, .inl (SVQu ((YVKs v) 6))), .inl (0, 6, .inl (SVRo ((YVKs v) 6))), .inl (0, 6, .inl (SVPd ((YVKs v) 6))), .inl (2, 6, .inl (SVPs ((YVKs v) 6))), .inr (7, [.ref 108, .int (SVJc ((YVKs v) 7)), .ref 115, .ref 116, .ref 117, .ref 118, .ref 119, .ref 120, .ref 121]), .inr (0, [.ref 109, .ref 110, .ref 111, .ref 112, .ref 113, .int (HVCm (SVH ((YVKs v) 7))), .int (HVSw (SVH ((YVKs v) 7))), .ref 114]), .inl (0, 40, .inl (HVPr (SVH ((YVKs v) 7)))), .inl (0, 40, .inl (HVLf (SVH ((YVKs v) 7)))), .inl (0, 40, .inl (HVRt (SVH ((YVKs v) 7)))), .inl (0, 40, .inl (HVUp (SVH ((YVKs v) 7)))), .inl (0, 40, .inl (HVRk (SVH ((YVKs v) 7)))), .inl (0, 40, .inl (HVPa (SVH ((YVKs v) 7)))), .inl (0, 40, .inl (SVOw ((YVKs v) 7))), .inl (0, 40, .inl (SVPg ((YVKs v) 7))), .inl (0, 40, .inl (SVFt ((YVKs v) 7))), .inl (0, 40, .inl (SVQu ((YVKs v) 7))), .inl (0, 6, .inl (SVRo ((YVKs v) 7))), .inl (0, 6, .inl (SVPd ((YVKs v) 7))), .inl (2, 6, .inl (SVPs ((YVKs v) 7)))]
