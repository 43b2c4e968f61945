/-! ===== 35: isConsistent finds nothing, on both sides ===== -/
theorem dsF_sub {F F' : Nat → Tr} (h : ∀ k j, j ∈ nds (F' k) → j ∈ nds (F k)) (hd : dsF F) : dsF F' := fun k k' e j h1 h2 => hd k k' e j (h k j h1) (h k' j h2)
/-- the root gone, the rest are the candidates behind it -/
theorem cnd_next {g : GS} {q i : Nat} {p : Option Nat} {l r t' : Tr} (hh : hpo (aPr g) (.branch i l r)) (h : ∀ k, k ∈ nds (.branch i l r) ↔ (k < aJ g ∧ cnd g q p k = true)) (h' : ∀ k, k ∈ nds t' ↔ (k ∈ nds (.branch i l r) ∧ k ≠ i)) (k : Nat) : k ∈ nds t' ↔ (k < aJ g ∧ cnd g q (some i) k = true) := by
  have hi := (h i).mp (by simp [nds])
  rw [h' k]
  constructor
  · rintro ⟨h1, h2⟩
    have h3 := (h k).mp h1
    refine ⟨h3.1, Bool.and_eq_true_iff.mpr ⟨wB_iff.mpr (cnd_w h3.2), ?_⟩⟩
    exact (hpo_top hh h1).resolve_left h2
  · rintro ⟨h1, h2⟩
    obtain ⟨h3, h4⟩ := Bool.and_eq_true_iff.mp h2
    refine ⟨(h k).mpr ⟨h1, ?_⟩, fun e => ?_⟩
    · cases p with
      | none => exact h3
      | some p =>
        have h5 := (Bool.and_eq_true_iff.mp hi.2).2
        exact Bool.and_eq_true_iff.mpr ⟨h3, prc_trans h5 h4⟩
    · subst e
      rw [prc_irr] at h4
      exact Bool.false_ne_true h4
theorem empties_h {u : GU} {g : GS} {S : SV} {pr : Nat → Nat} (hI : GI u g) (hC : CS g S) {q : Nat} (hq : q < 6) (hag : ∀ k, k < aJ g → pr k = aPr g k) : ∀ (N : Nat) {n d : Nat} {p : Option Nat} {h : HV} {F : Nat → Tr}, (nds (F q)).length ≤ N → d + N ≤ 40 → N < n → FR (gH h) F → dsF F → (nds (F q)).Nodup → lft (F q) → hpo (aPr g) (F q) → (∀ k, k ∈ nds (F q) ↔ (k < aJ g ∧ cnd g q p k = true)) → (∀ m, p = some m → m < aJ g) → (∀ k, k < 40 → HVPr h k = nI (pr k) ∧ pr k < 1000) →
    ∃ h' F', f_X7_empties_h27 n (nI q) (hv (F q)) (oI (nxt g q p)) (nI d) (S, h) = some (1, (S, h')) ∧ FR (gH h') F' ∧ dsF F' ∧ (∀ k, k ≠ q → F' k = F k) ∧ HVPr h' = HVPr h := by
  intro N
  induction N with
  | zero =>
    intro n d p h F hN hd hn hF hds _ _ hh hc hp hpr
    obtain ⟨n, rfl⟩ : ∃ m, n = m + 1 := ⟨n - 1, by omega⟩
    have e : hv (F q) = oI (nxt g q p) := root_fa hh hc
    refine ⟨h, F, ?_, hF, hds, fun _ _ => rfl, rfl⟩
    rw [← e]
    cases hFq : F q with
    | branch i l r => rw [hFq] at hN; simp [nds] at hN
    | leaf u9 =>
      rw [f_X7_empties_h27, hvl]
      simp only [if_true]
      split <;> rfl
  | succ N ih =>
    intro n d p h F hN hd hn hF hds hnd hl hh hc hp hpr
    obtain ⟨n, rfl⟩ : ∃ m, n = m + 1 := ⟨n - 1, by omega⟩
    have hJ := hI.1
    have e : hv (F q) = oI (nxt g q p) := root_fa hh hc
    cases hFq : F q with
    | leaf u9 =>
      refine ⟨h, F, ?_, hF, hds, fun _ _ => rfl, rfl⟩
      rw [← e, hFq, f_X7_empties_h27, hvl]
      simp only [if_true]
      split <;> rfl
    | branch i l r =>
      have hFs := hF q
      rw [hFq] at hFs hnd hl hh hc hN
      have hi : i ∈ nds (.branch i l r) := by simp [nds]
      have hiJ := ((hc i).mp hi).1
      obtain ⟨w, t1, t2, t3⟩ := takeOut_ok hFs.1 hFs.2 hnd hi (prOK_of hpr)
      have em : rmT pr i (.branch i l r) = rmT (aPr g) i (.branch i l r) := rm_congr hi (fun k hk => hag k ((hc k).mp hk).1)
      rw [em] at t1
      obtain ⟨v1, v2, v3, v4⟩ := rm_inv (pr := aPr g) hi hnd hl hh
      have hpm := (@rm_perm (aPr g) i _ hi).length_eq
      rw [List.length_cons] at hpm
      have hF2 : FR (gH w) (uf F q (rmT (aPr g) i (.branch i l r)).1) := by
        have := FR_rm (q := q) hF hds (by rw [hFq]; exact t2)
        rw [hFq, em] at this
        exact this
      have hds2 : dsF (uf F q (rmT (aPr g) i (.branch i l r)).1) := dsF_sub (fun k j hj => by
        by_cases e9 : k = q
        · subst e9
          rw [uf_eq] at hj
          rw [hFq]
          exact ((v4 j).mp hj).1
        · rw [uf_ne e9] at hj
          exact hj) hds
      obtain ⟨h', F', k1, k2, k3, k4, k5⟩ := @ih n (d + 1) (some i) w (uf F q (rmT (aPr g) i (.branch i l r)).1) (by rw [uf_eq]; omega) (by omega) (by omega) hF2 hds2 (by rw [uf_eq]; exact v1) (by rw [uf_eq]; exact v2) (by rw [uf_eq]; exact v3) (fun k => by rw [uf_eq]; exact cnd_next hh hc v4 k) (fun m hm => by cases hm; exact hiJ) (fun k hk => by rw [t3]; exact hpr k hk)
      refine ⟨h', F', ?_, k2, k3, fun k hk => by rw [k4 k hk, uf_ne hk], by rw [k5, t3]⟩
      rw [hFq] at e
      rw [← e, f_X7_empties_h27, if_neg (l40 (by omega))]
      have e1 : hv (.branch i l r) = nI i := rfl
      rw [e1] at t1 ⊢
      have i40 : i < 40 := by omega
      rw [if_neg (nI_m i40), if_pos rfl]
      show bnd2 (f_X0_takeOut h (nI i) (nI i)) (fun r19 w20 => (f_X7_firstAfter S (nI q) (nI i)).bind fun r22 => f_X7_empties_h27 n (nI q) r19 r22 (nI d + 1) (S, w20)) = _
      rw [t1, bnd2_some, show nI i = oI (some i) from rfl, firstAfter_ok hI hC hq (fun m hm => by cases hm; exact hiJ), Option.bind_some, nI_1]
      rw [uf_eq] at k1
      exact k1
theorem empties_ok {u : GU} {g : GS} {S : SV} {pr : Nat → Nat} (hI : GI u g) (hC : CS g S) {q : Nat} (hq : q < 6) (hag : ∀ k, k < aJ g → pr k = aPr g k) {h : HV} {F : Nat → Tr} (hF : FR (gH h) F) (hds : dsF F) (hFq : F q = aF g q) (hpr : ∀ k, k < 40 → HVPr h k = nI (pr k) ∧ pr k < 1000) :
    ∃ h' F', f_X7_empties (S, h) (nI q) = some (1, (S, h')) ∧ FR (gH h') F' ∧ dsF F' ∧ (∀ k, k ≠ q → F' k = F k) ∧ HVPr h' = HVPr h := by
  have hT := hI.2.2.1 q
  obtain ⟨h', F', k1, k2⟩ := empties_h hI hC hq hag 40 (n := FU) (d := 0) (p := none) (h := h) (F := F) (by rw [hFq]; exact len40 (hC.2.2.2.2.1 q).1 hT.1) (by omega) (by decide) hF hds (by rw [hFq]; exact hT.1) (by rw [hFq]; exact hT.2.1) (by rw [hFq]; exact hT.2.2) (fun k => by
    rw [hFq, hI.2.2.2.1 q k]
    exact ⟨fun h => ⟨h.1, wB_iff.mpr h.2⟩, fun h => ⟨h.1, wB_iff.mp h.2⟩⟩) (fun m hm => by cases hm) hpr
  refine ⟨h', F', ?_, k2⟩
  unfold f_X7_empties
  rw [isQueue_n hq, Option.bind_some, if_neg n10, if_neg (o6 hq)]
  show (f_X7_firstAfter S (nI q) (oI none)).bind (fun r7 => f_X7_empties_h27 FU (nI q) (SVRo S (Int32.toNatClampNeg (nI q))) r7 (nI 0) (S, h)) = _
  rw [firstAfter_ok hI hC hq (fun m hm => by cases hm), Option.bind_some, c6 hq, (hC.2.2.2.1 q hq).1, ← hFq]
  exact k1
/-- the scratch state: its row of priorities is no nonsense -/
def SCR (C : SV) : Prop := ∀ i, i < 40 → ∃ p, HVPr (SVH C) i = nI p ∧ p < 1000
theorem cons_h51 {u : GU} {g : GS} {pr : Nat → Nat} (hI : GI u g) (hag : ∀ k, k < aJ g → pr k = aPr g k) : ∀ (m n k : Nat) (v : Lscu) (F : Nat → Tr), uQ u - k = m → m < n → k ≤ uQ u → CS g (LscuS v) → NVCt (UVQs (LscuU v)) = nI (uQ u) → FR (gH (SVH (LscuC v))) F → dsF F → (∀ q, k ≤ q → F q = aF g q) → (∀ k, k < 40 → HVPr (SVH (LscuC v)) k = nI (pr k) ∧ pr k < 1000) →
    ∃ C', f_X8_isConsistent_h51 n (nI k) v = some (1, (LscuHs v, LscuS v, C', LscuU v)) ∧ SCR C' := by
  intro m
  have hQ := hI.2.1.2
  induction m with
  | zero =>
    intro n k v F hm hn hk hC hU hF hds hFk hpr
    obtain ⟨n, rfl⟩ : ∃ m, n = m + 1 := ⟨n - 1, by omega⟩
    have : k = uQ u := by omega
    subst this
    rw [f_X8_isConsistent_h51, hU, if_pos (nI_le (Nat.le_refl _) (by omega))]
    exact ⟨LscuC v, rfl, fun j hj => ⟨_, hpr j hj⟩⟩
  | succ m ih =>
    intro n k v F hm hn hk hC hU hF hds hFk hpr
    obtain ⟨n, rfl⟩ : ∃ m, n = m + 1 := ⟨n - 1, by omega⟩
    have hk2 : k < uQ u := by omega
    obtain ⟨h', F', k1, k2, k3, k4, k5⟩ := empties_ok hI hC (q := k) (by omega) hag hF hds (hFk k (Nat.le_refl _)) hpr
    rw [f_X8_isConsistent_h51, hU, if_neg (nI_ge hk2 (by omega)), k1, bnd2_some, if_neg n10, nI_1]
    exact ih n (k + 1) (Lscu_sC (Lscu_sS v (LscuS v)) (SV_sH (LscuC v) h')) F' (by omega) (by omega) (by omega) hC hU k2 k3 (fun q hq => by rw [k4 q (by omega)]; exact hFk q (by omega)) (fun j hj => by
      show HVPr h' j = nI (pr j) ∧ pr j < 1000
      rw [k5]
      exact hpr j hj)
theorem isConsistent_ok {u : GU} {g : GS} {v : Lscu} (hI : GI u g) (hC : CS g (LscuS v)) (hU : NVCt (UVQs (LscuU v)) = nI (uQ u)) : ∃ C', f_X8_isConsistent v = some (1, (LscuHs v, LscuS v, C', LscuU v)) ∧ SCR C' := by
  have hJ := hI.1
  have hQ := hI.2.1.2
  have main : ∀ (m n k : Nat), aJ g - k = m → m < n → k ≤ aJ g → ∃ C', f_X8_isConsistent_h2 n (nI k) v = some (1, (LscuHs v, LscuS v, C', LscuU v)) ∧ SCR C' := by
    intro m
    induction m with
    | zero =>
      intro n k hm hn hk
      obtain ⟨n, rfl⟩ : ∃ m, n = m + 1 := ⟨n - 1, by omega⟩
      have : k = aJ g := by omega
      subst this
      obtain ⟨A', c1, c2⟩ := copy_ok (A := LscuC v) hC hJ
      obtain ⟨pr, p1, p2⟩ := c2.pr hI
      obtain ⟨C', d1, d2⟩ := cons_h51 hI p2 (uQ u - 0) FU 0 (Lscu_sC (Lscu_sS v (LscuS v)) A') (aF g) rfl (by have : FU = 5000 := rfl; omega) (Nat.zero_le _) hC hU c2.2.2.2.2.1 hI.ds (fun _ _ => rfl) p1
      refine ⟨C', ?_, d2⟩
      rw [f_X8_isConsistent_h2, hC.1, if_pos (nI_le (Nat.le_refl _) (by omega)), c1, bnd2_some]
      exact d1
    | succ m ih =>
      intro n k hm hn hk
      obtain ⟨n, rfl⟩ : ∃ m, n = m + 1 := ⟨n - 1, by omega⟩
      have hk2 : k < aJ g := by omega
      obtain ⟨C', d1, d2⟩ := ih n (k + 1) (by omega) (by omega) (by omega)
      refine ⟨C', ?_, d2⟩
      rw [f_X8_isConsistent_h2, hC.1, if_neg (nI_ge hk2 (by omega)), if_neg (l40 (by omega)), sound_job hI hC hk2, Option.bind_some, if_neg n10, nI_1]
      exact d1
  exact main (aJ g - 0) FU 0 rfl (by have : FU = 5000 := rfl; omega) (Nat.zero_le _)
/-! the reference -/
theorem mord_48 {u : GU} {g : GS} {pr : Nat → Nat} (hI : GI u g) {q : Nat} (hq : q < 6) (hag : ∀ k, k < aJ g → pr k = aPr g k) : ∀ (N : Nat) {n d : Nat} {p : Option Nat} {v : MV} {F : Nat → Tr}, (nds (F q)).length = N → d + N = sizN g q → N < n → FR (gM (MVSt v)) F → dsF F → (nds (F q)).Nodup → lft (F q) → hpo (aPr g) (F q) → (∀ k, k ∈ nds (F q) ↔ (k < aJ g ∧ cnd g q p k = true)) → nxt g q p = nth g q d → mprOK (MVSt v) pr → MVSt v (10 + 11 * q + 9) = hv (F q) → (∀ k, k ∈ nds (F q) → jf (MVSt v) 4 k = nI q) → (∀ j, j < sizN g q → MVOr v j = oI (nth g q j)) →
    ∃ st, f_X9_isOrderConsistent_h48 n (nI q) 1 (nI (sizN g q)) (nI d) v = some (1, MV_sSt v (mix st (MVAs v) 0)) := by
  intro N
  have hJ := hI.1
  have hsz : sizN g q ≤ 40 := Nat.le_trans cnt_n hJ
  induction N with
  | zero =>
    intro n d p v F hN hd hn hF hds _ _ hh hc hnx hp hr h4 hO
    obtain ⟨n, rfl⟩ : ∃ m, n = m + 1 := ⟨n - 1, by omega⟩
    refine ⟨MVSt v, ?_⟩
    rw [f_X9_isOrderConsistent_h48, if_pos (nI_le (by omega) (by omega)), copyFrom2_ok, bnd2_some, if_neg (by decide)]
  | succ N ih =>
    intro n d p v F hN hd hn hF hds hnd hl hh hc hnx hp hr h4 hO
    obtain ⟨n, rfl⟩ : ∃ m, n = m + 1 := ⟨n - 1, by omega⟩
    have hd2 : d < sizN g q := by omega
    have e : hv (F q) = oI (nth g q d) := by rw [← hnx]; exact root_fa hh hc
    cases hFq : F q with
    | leaf u9 => rw [hFq] at hN; simp [nds] at hN
    | branch i l r =>
      have hFs := hF q
      rw [hFq] at hFs hnd hl hh hc hN h4 e hr
      have hi : i ∈ nds (.branch i l r) := by simp [nds]
      have hiJ := ((hc i).mp hi).1
      obtain ⟨st, t1, t2, t3, t4⟩ := remove_ok (q := q) hFs.1 hFs.2 hnd hi hp hq (h4 i hi) hr
      have em : rmT pr i (.branch i l r) = rmT (aPr g) i (.branch i l r) := rm_congr hi (fun k hk => hag k ((hc k).mp hk).1)
      rw [em] at t4
      obtain ⟨v1, v2, v3, v4⟩ := rm_inv (pr := aPr g) hi hnd hl hh
      have hpm := (@rm_perm (aPr g) i _ hi).length_eq
      rw [List.length_cons] at hpm
      have hF2 : FR (gM st) (uf F q (rmT (aPr g) i (.branch i l r)).1) := by
        have := FR_rm (q := q) hF hds (by rw [hFq]; exact t2)
        rw [hFq, em] at this
        exact this
      have hds2 : dsF (uf F q (rmT (aPr g) i (.branch i l r)).1) := dsF_sub (fun k j hj => by
        by_cases e9 : k = q
        · subst e9
          rw [uf_eq] at hj
          rw [hFq]
          exact ((v4 j).mp hj).1
        · rw [uf_ne e9] at hj
          exact hj) hds
      have en : nth g q d = some i := by
        cases e9 : nth g q d with
        | none => rw [e9] at e; exact absurd e (nI_m (i := i) (by omega))
        | some m =>
          rw [e9] at e
          have hm := nth_lt (u := u) e9
          rw [((nI_eq (by omega) (by omega)).mp e : i = m)]
      obtain ⟨st2, k1⟩ := @ih n (d + 1) (some i) (MV_sSt v st) (uf F q (rmT (aPr g) i (.branch i l r)).1) (by rw [uf_eq]; omega) (by omega) (by omega) hF2 hds2 (by rw [uf_eq]; exact v1) (by rw [uf_eq]; exact v2) (by rw [uf_eq]; exact v3) (fun k => by rw [uf_eq]; exact cnd_next hh hc v4 k) (by rw [nth, en]) (fun k hk => by rw [mSt, t3.1 1 (by decide)]; exact hp k hk) (by rw [uf_eq]; exact t4) (fun k hk => by
        rw [uf_eq] at hk
        rw [mSt, t3.1 4 (by decide)]
        exact h4 k ((v4 k).mp hk).1) hO
      refine ⟨st2, ?_⟩
      rw [f_X9_isOrderConsistent_h48, if_neg (nI_ge hd2 (by omega)), rootOf_ok hq, Option.bind_some, hr, if_neg n10]
      have d40 : d < 40 := by omega
      simp only [if_neg (o40 d40), c40 d40]
      rw [hO d hd2, ← e, if_pos rfl, show hv (.branch i l r) = nI i from rfl, t1, bnd2_some, nI_1]
      exact k1
theorem isOrder_ok {u : GU} {g : GS} {v : MV} (hI : GI u g) (hM : MS u g (MVSt v)) {q : Nat} (hq : q < uQ u) : ∃ st A O, f_X9_isOrderConsistent v (nI q) = some (1, MV_sSt (MV_sAs (MV_sOr v O) A) st) ∧ ∀ n, n < 500 → st n = MVSt v n := by
  have hJ := hI.1
  have hQ := hI.2.1.2
  have hsz : sizN g q ≤ 40 := Nat.le_trans cnt_n hJ
  have hT := hI.2.2.1 q
  obtain ⟨pr, p1, p2⟩ := hM.pr hI
  have main : ∀ (m n k : Nat) (w : MV), sizN g q - k = m → m < n → k ≤ sizN g q → MVSt w = MVSt v → (∀ j, j < k → MVOr w j = oI (nth g q j)) → ∃ st A O, f_X9_isOrderConsistent_h11 n (nI q) 1 (nI (sizN g q)) (nI k) w = some (1, MV_sSt (MV_sAs (MV_sOr w O) A) st) ∧ ∀ n, n < 500 → st n = MVSt v n := by
    intro m
    induction m with
    | zero =>
      intro n k w hm hn hk hw hO
      obtain ⟨n, rfl⟩ : ∃ m, n = m + 1 := ⟨n - 1, by omega⟩
      have : k = sizN g q := by omega
      subst this
      have hM2 : MS u g (MVSt w) := by rw [hw]; exact hM
      obtain ⟨st, d1⟩ := mord_48 hI (q := q) (by omega) p2 (sizN g q) (n := FU) (d := 0) (p := none) (v := MV_sAs w (mix (MVAs w) (MVSt w) 0)) (F := aF g) (siz_len hI) (by omega) (by have : FU = 5000 := rfl; omega) hM2.2.2.2.2.1 hI.ds hT.1 hT.2.1 hT.2.2 (fun k => by
        rw [hI.2.2.2.1 q k]
        exact ⟨fun h => ⟨h.1, wB_iff.mpr h.2⟩, fun h => ⟨h.1, wB_iff.mp h.2⟩⟩) rfl (by show mprOK (MVSt w) pr; rw [hw]; exact p1) (by show MVSt w (10 + 11 * q + 9) = _; exact (hM2.2.2.2.1 q hq).1) (fun k hk => by
        have := (hI.2.2.2.1 q k).mp hk
        rw [← this.2.2]
        exact (hM2.2.1 k this.1).2.2.2.2.1 this.2.1) (fun j hj => hO j hj)
      refine ⟨mix st (mix (MVAs w) (MVSt w) 0) 0, mix (MVAs w) (MVSt w) 0, MVOr w, ?_, fun n hn => ?_⟩
      · rw [f_X9_isOrderConsistent_h11, if_pos (nI_le (Nat.le_refl _) (by omega)), copyTo2_ok, bnd2_some]
        exact d1
      · rw [mix_at hn, mix_at hn, hw]
    | succ m ih =>
      intro n k w hm hn hk hw hO
      obtain ⟨n, rfl⟩ : ∃ m, n = m + 1 := ⟨n - 1, by omega⟩
      have hk2 : k < sizN g q := by omega
      have k40 : k < 40 := by omega
      have hM2 : MS u g (MVSt w) := by rw [hw]; exact hM
      obtain ⟨st, A, O, d1, d2⟩ := ih n (k + 1) (MV_sOr w (upd (MVOr w) k (oI (nth g q k)))) (by omega) (by omega) (by omega) hw (fun j hj => by
        show upd (MVOr w) k (oI (nth g q k)) j = _
        by_cases e : j = k
        · subst e; exact upd_eq
        · rw [upd_ne e]; exact hO j (by omega))
      refine ⟨st, A, O, ?_, d2⟩
      rw [f_X9_isOrderConsistent_h11, if_neg (nI_ge hk2 (by omega)), jobIn_ok hI hM2 (by omega) (by omega), Option.bind_some, if_neg (o40 k40), c40 k40, nI_1]
      exact d1
  unfold f_X9_isOrderConsistent
  rw [sizeOf_ok hI hM (by omega), Option.bind_some, gSz_n]
  exact main (sizN g q - 0) FU 0 v rfl (by have : FU = 5000 := rfl; omega) (Nat.zero_le _) rfl (fun j hj => absurd hj (Nat.not_lt_zero _))
theorem mcons_h43 {u : GU} {g : GS} (hI : GI u g) : ∀ (m n k : Nat) (v : MV), uQ u - k = m → m < n → k ≤ uQ u → MS u g (MVSt v) → ∃ st A O, f_X9_isConsistent_h43 n (nI k) v = some (1, MV_sSt (MV_sAs (MV_sOr v O) A) st) ∧ ∀ n, n < 500 → st n = MVSt v n := by
  intro m
  have hQ := hI.2.1.2
  induction m with
  | zero =>
    intro n k v hm hn hk hM
    obtain ⟨n, rfl⟩ : ∃ m, n = m + 1 := ⟨n - 1, by omega⟩
    have : k = uQ u := by omega
    subst this
    refine ⟨MVSt v, MVAs v, MVOr v, ?_, fun _ _ => rfl⟩
    rw [f_X9_isConsistent_h43]
    simp only [if_neg o0, cl0]
    rw [hM.1.1, if_pos (nI_le (Nat.le_refl _) (by omega)), areHeapsWhole_ok hI hM, Option.bind_some, if_neg (by decide)]
    rfl
  | succ m ih =>
    intro n k v hm hn hk hM
    obtain ⟨n, rfl⟩ : ∃ m, n = m + 1 := ⟨n - 1, by omega⟩
    have hk2 : k < uQ u := by omega
    obtain ⟨st, A, O, k1, k2⟩ := isOrder_ok hI hM hk2
    obtain ⟨st2, A2, O2, d1, d2⟩ := ih n (k + 1) (MV_sSt (MV_sAs (MV_sOr v O) A) st) (by omega) (by omega) (by omega) (MS_congr hI k2 hM)
    refine ⟨st2, A2, O2, ?_, fun n hn => (d2 n hn).trans (k2 n hn)⟩
    rw [f_X9_isConsistent_h43]
    simp only [if_neg o0, cl0]
    rw [hM.1.1, if_neg (nI_ge hk2 (by omega)), k1, bnd2_some, if_neg n10, nI_1]
    exact d1
theorem misConsistent_ok {u : GU} {g : GS} {v : MV} (hI : GI u g) (hM : MS u g (MVSt v)) : ∃ st A O, f_X9_isConsistent v = some (1, MV_sSt (MV_sAs (MV_sOr (MV_sTh v 0) O) A) st) ∧ ∀ n, n < 500 → st n = MVSt v n := by
  have hJ := hI.1
  have hQ := hI.2.1.2
  obtain ⟨st, A, O, d1, d2⟩ := mcons_h43 hI (uQ u - 0) FU 0 (MV_sTh v 0) rfl (by have : FU = 5000 := rfl; omega) (Nat.zero_le _) hM
  refine ⟨st, A, O, ?_, d2⟩
  have main : ∀ (m n k : Nat), aJ g - k = m → m < n → k ≤ aJ g → f_X9_isConsistent_h7 n (nI k) (MV_sTh v 0) = some (1, MV_sSt (MV_sAs (MV_sOr (MV_sTh v 0) O) A) st) := by
    intro m
    induction m with
    | zero =>
      intro n k hm hn hk
      obtain ⟨n, rfl⟩ : ∃ m, n = m + 1 := ⟨n - 1, by omega⟩
      have : k = aJ g := by omega
      subst this
      rw [f_X9_isConsistent_h7]
      simp only [if_neg o2, cl2]
      rw [show MVSt (MV_sTh v 0) 2 = nI (aJ g) from hM.1.2.2, if_pos (nI_le (Nat.le_refl _) (by omega))]
      exact d1
    | succ m ih =>
      intro n k hm hn hk
      obtain ⟨n, rfl⟩ : ∃ m, n = m + 1 := ⟨n - 1, by omega⟩
      have hk2 : k < aJ g := by omega
      rw [f_X9_isConsistent_h7]
      simp only [if_neg o2, cl2]
      rw [show MVSt (MV_sTh v 0) 2 = nI (aJ g) from hM.1.2.2, if_neg (nI_ge hk2 (by omega)), mwaits_ok (v := MV_sTh v 0) hI hM hk2, Option.bind_some, nI_1]
      by_cases c : aFt g k = 0
      · rw [if_pos c, if_neg n10, isNodeConsistent_ok (v := MV_sTh v 0) hI hM hk2 c, Option.bind_some, if_neg n10]
        exact ih n (k + 1) (by omega) (by omega) (by omega)
      · rw [if_neg c, if_pos rfl]
        exact ih n (k + 1) (by omega) (by omega) (by omega)
  exact main (aJ g - 0) FU 0 rfl (by have : FU = 5000 := rfl; omega) (Nat.zero_le _)
