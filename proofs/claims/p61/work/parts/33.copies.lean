/-! ===== 33: copies of the state; the history ===== -/
theorem CS_congr {g : GS} {v v' : SV} (hj : SVJc v' = SVJc v) (hJ : aJ g ≤ 40) (h : ∀ k, k < 40 → HVPr (SVH v') k = HVPr (SVH v) k ∧ SVOw v' k = SVOw v k ∧ SVPg v' k = SVPg v k ∧ SVFt v' k = SVFt v k ∧ SVQu v' k = SVQu v k ∧ eqG (gH (SVH v)) (gH (SVH v')) k)
    (h6 : ∀ q, q < 6 → SVRo v' q = SVRo v q ∧ SVPd v' q = SVPd v q ∧ SVPs v' q = SVPs v q) (hc : HVCm (SVH v') = HVCm (SVH v)) (hs : HVSw (SVH v') = HVSw (SVH v)) (hC : CS g v) : CS g v' := by
  refine ⟨hj.trans hC.1, fun i hi => ?_, fun i hi => ?_, fun q hq => ?_, fun q => ?_, hc.trans hC.2.2.2.2.2.1, hs.trans hC.2.2.2.2.2.2⟩
  · obtain ⟨a1, a2, a3, a4, a5, a6⟩ := h i (by omega)
    obtain ⟨e1, e2, e3, e4, e5, e6⟩ := hC.2.1 i hi
    rw [a1, a2, a3, a4, a5]
    exact ⟨e1, e2, e3, e4, e5, fun hf => out_congr a6 (e6 hf)⟩
  · rw [(h i hi).1]
    exact hC.2.2.1 i hi
  · obtain ⟨a1, a2, a3⟩ := h6 q hq
    rw [a1, a2, a3]
    exact hC.2.2.2.1 q hq
  · have hF := hC.2.2.2.2.1 q
    exact FR_keep (fun j hj => (h j (sub_lt hF.1 j hj)).2.2.2.2.2) hF
theorem ps_loop {B : SV} (hb : ∀ q, q < 6 → ∃ b, SVPs B q = b2i b) : ∀ (m n k : Nat) (A : SV), 6 - k = m → m < n → k ≤ 6 → (∀ j, j < k → SVPs A j = SVPs B j) → ∃ P, f_X7_copyFrom_h87 n (nI k) (A, B) = some ((), (SV_sPs A P, B)) ∧ ∀ j, j < 6 → P j = SVPs B j := by
  intro m
  induction m with
  | zero =>
    intro n k A hm hn hk hj
    obtain ⟨n, rfl⟩ : ∃ m, n = m + 1 := ⟨n - 1, by omega⟩
    have : k = 6 := by omega
    subst this
    rw [f_X7_copyFrom_h87, if_pos (show (6 : Int32) ≤ nI 6 from nI_le (a := 6) (b := 6) (Nat.le_refl _) (by decide))]
    exact ⟨SVPs A, rfl, hj⟩
  | succ m ih =>
    intro n k A hm hn hk hj
    obtain ⟨n, rfl⟩ : ∃ m, n = m + 1 := ⟨n - 1, by omega⟩
    have hk6 : k < 6 := by omega
    rw [f_X7_copyFrom_h87, if_neg (show ¬ (6 : Int32) ≤ nI k from nI_ge (b := 6) hk6 (by decide))]
    simp only [if_neg (o6 hk6), c6 hk6]
    rw [nI_1]
    obtain ⟨b, eb⟩ := hb k hk6
    have en : vp_nar .boolean (SVPs B k) = SVPs B k := by rw [eb]; cases b <;> rfl
    obtain ⟨P, h1, h2⟩ := ih n (k + 1) (SV_sPs A (upd (SVPs A) k (SVPs B k))) (by omega) (by omega) (by omega) (fun j hj2 => by
      show upd (SVPs A) k (SVPs B k) j = SVPs B j
      by_cases e : j = k
      · subst e; exact upd_eq
      · rw [upd_ne e]; exact hj j (by omega))
    refine ⟨P, ?_, h2⟩
    show f_X7_copyFrom_h87 n (nI (k + 1)) (SV_sPs A (upd (SVPs A) k (vp_nar .boolean (SVPs B k))), B) = _
    rw [en, h1]
    rfl
/-- a copy: the state is told alike -/
theorem copy_ok {g : GS} {A B : SV} (hC : CS g B) (hJ : aJ g ≤ 40) : ∃ A', f_X7_copyFrom (A, B) = some ((), (A', B)) ∧ CS g A' := by
  unfold f_X7_copyFrom f_X0_copyFrom
  rw [bnd2_some]
  obtain ⟨P, h1, h2⟩ := ps_loop (B := B) (fun q hq => ⟨_, (hC.2.2.2.1 q hq).2.2⟩) (6 - 0) FU 0 (((va_cpy (HVPr (SVH B)) (HVPr (SVH A)) 0 0 40), (va_cpy (HVLf (SVH B)) (HVLf (SVH A)) 0 0 40), (va_cpy (HVRt (SVH B)) (HVRt (SVH A)) 0 0 40), (va_cpy (HVUp (SVH B)) (HVUp (SVH A)) 0 0 40), (va_cpy (HVRk (SVH B)) (HVRk (SVH A)) 0 0 40), HVCm (SVH B), HVSw (SVH B), HVPa (SVH A)), SVJc B, (va_cpy (SVOw B) (SVOw A) 0 0 40), (va_cpy (SVPg B) (SVPg A) 0 0 40), (va_cpy (SVFt B) (SVFt A) 0 0 40), (va_cpy (SVQu B) (SVQu A) 0 0 40), (va_cpy (SVRo B) (SVRo A) 0 0 6), (va_cpy (SVPd B) (SVPd A) 0 0 6), SVPs A) rfl (by decide) (Nat.zero_le _) (fun j hj => absurd hj (Nat.not_lt_zero _))
  refine ⟨_, h1, CS_congr (v := B) rfl hJ (fun k hk => ?_) (fun q hq => ⟨sb_cpy0 hq, sb_cpy0 hq, h2 q hq⟩) rfl rfl hC⟩
  exact ⟨sb_cpy0 hk, sb_cpy0 hk, sb_cpy0 hk, sb_cpy0 hk, sb_cpy0 hk, sb_cpy0 hk, sb_cpy0 hk, sb_cpy0 hk, sb_cpy0 hk⟩
theorem MS_congr {u : GU} {g : GS} {st st' : Nat → Int32} (hI : GI u g) (h : ∀ n, n < 500 → st' n = st n) (hM : MS u g st) : MS u g st' := by
  have hJ := hI.1
  have hQ := hI.2.1.2
  have hj : ∀ i k, i < 40 → k < 9 → jf st' k i = jf st k i := fun i k hi hk => h _ (by omega)
  have hG : ∀ i, i < 40 → eqG (gM st) (gM st') i := fun i hi => ⟨hj i 5 hi (by decide), hj i 6 hi (by decide), hj i 7 hi (by decide), hj i 8 hi (by decide)⟩
  refine ⟨⟨?_, ?_, ?_⟩, fun i hi => ?_, fun i hi => ?_, fun q hq => ?_, fun q => ?_, ?_, ?_⟩
  · rw [h 0 (by omega)]; exact hM.1.1
  · rw [h 1 (by omega)]; exact hM.1.2.1
  · rw [h 2 (by omega)]; exact hM.1.2.2
  · rw [hj i 0 (by omega) (by omega), hj i 1 (by omega) (by omega), hj i 2 (by omega) (by omega), hj i 3 (by omega) (by omega), hj i 4 (by omega) (by omega)]
    obtain ⟨e1, e2, e3, e4, e5, e6⟩ := hM.2.1 i hi
    exact ⟨e1, e2, e3, e4, e5, fun hf => out_congr (hG i (by omega)) (e6 hf)⟩
  · rw [hj i 1 hi (by omega)]
    exact hM.2.2.1 i hi
  · rw [h _ (by omega), h _ (by omega), h _ (by omega)]
    exact hM.2.2.2.1 q hq
  · have hF := hM.2.2.2.2.1 q
    exact FR_keep (fun j hj => hG j (sub_lt hF.1 j hj)) hF
  · rw [h 3 (by omega)]; exact hM.2.2.2.2.2.1
  · rw [h 4 (by omega)]; exact hM.2.2.2.2.2.2
theorem l500 {k : Nat} (h : k < 500) : ¬ (500 : Int32) ≤ nI k := nI_ge (b := 500) h (by decide)
theorem e500 : (500 : Int32) ≤ nI 500 := by decide
def mix (f g : Nat → Int32) (k : Nat) : Nat → Int32 := fun j => if k ≤ j ∧ j < 500 then g j else f j
theorem mix_step {f g : Nat → Int32} {k : Nat} (h : k < 500) : mix (upd f k (g k)) g (k + 1) = mix f g k := by
  funext j
  unfold mix
  by_cases e : j = k
  · subst e
    rw [if_neg (by omega), if_pos ⟨Nat.le_refl _, h⟩, upd_eq]
  · by_cases c : k ≤ j ∧ j < 500
    · rw [if_pos c, if_pos (by omega)]
    · rw [if_neg c, if_neg (by omega), upd_ne e]
theorem mix_end {f g : Nat → Int32} : mix f g 500 = f := by
  funext j
  unfold mix
  rw [if_neg (by omega)]
theorem mix_at {f g : Nat → Int32} {n : Nat} (h : n < 500) : mix f g 0 n = g n := if_pos ⟨Nat.zero_le _, h⟩
theorem copyTo2_ok {v : MV} : f_X9_copyTo_2 v = some ((), MV_sAs v (mix (MVAs v) (MVSt v) 0)) := by
  have main : ∀ (m n k : Nat) (v : MV), 500 - k = m → m < n → k ≤ 500 → f_X9_copyTo_2_h2 n (nI k) v = some ((), MV_sAs v (mix (MVAs v) (MVSt v) k)) := by
    intro m
    induction m with
    | zero =>
      intro n k v hm hn hk
      obtain ⟨n, rfl⟩ : ∃ m, n = m + 1 := ⟨n - 1, by omega⟩
      have : k = 500 := by omega
      subst this
      rw [f_X9_copyTo_2_h2, if_pos e500, mix_end]
      rfl
    | succ m ih =>
      intro n k v hm hn hk
      obtain ⟨n, rfl⟩ : ∃ m, n = m + 1 := ⟨n - 1, by omega⟩
      have hk2 : k < 500 := by omega
      rw [f_X9_copyTo_2_h2, if_neg (l500 hk2)]
      simp only [if_neg (o500 hk2), c500 hk2]
      rw [nI_1, ih n (k + 1) _ (by omega) (by omega) (by omega)]
      rw [← mix_step (f := MVAs v) (g := MVSt v) hk2]
      rfl
  exact main (500 - 0) FU 0 v rfl (by decide) (by omega)
theorem copyFrom2_ok {v : MV} : f_X9_copyFrom_2 v = some ((), MV_sSt v (mix (MVSt v) (MVAs v) 0)) := by
  have main : ∀ (m n k : Nat) (v : MV), 500 - k = m → m < n → k ≤ 500 → f_X9_copyFrom_2_h2 n (nI k) v = some ((), MV_sSt v (mix (MVSt v) (MVAs v) k)) := by
    intro m
    induction m with
    | zero =>
      intro n k v hm hn hk
      obtain ⟨n, rfl⟩ : ∃ m, n = m + 1 := ⟨n - 1, by omega⟩
      have : k = 500 := by omega
      subst this
      rw [f_X9_copyFrom_2_h2, if_pos e500, mix_end]
      rfl
    | succ m ih =>
      intro n k v hm hn hk
      obtain ⟨n, rfl⟩ : ∃ m, n = m + 1 := ⟨n - 1, by omega⟩
      have hk2 : k < 500 := by omega
      rw [f_X9_copyFrom_2_h2, if_neg (l500 hk2)]
      simp only [if_neg (o500 hk2), c500 hk2]
      rw [nI_1, ih n (k + 1) _ (by omega) (by omega) (by omega)]
      rw [← mix_step (f := MVSt v) (g := MVAs v) hk2]
      rfl
  exact main (500 - 0) FU 0 v rfl (by decide) (by omega)
theorem copyTo3_ok {v : MV} : f_X9_copyTo_3 v = some ((), MV_sSv v (mix (MVSv v) (MVSt v) 0)) := by
  have main : ∀ (m n k : Nat) (v : MV), 500 - k = m → m < n → k ≤ 500 → f_X9_copyTo_3_h2 n (nI k) v = some ((), MV_sSv v (mix (MVSv v) (MVSt v) k)) := by
    intro m
    induction m with
    | zero =>
      intro n k v hm hn hk
      obtain ⟨n, rfl⟩ : ∃ m, n = m + 1 := ⟨n - 1, by omega⟩
      have : k = 500 := by omega
      subst this
      rw [f_X9_copyTo_3_h2, if_pos e500, mix_end]
      rfl
    | succ m ih =>
      intro n k v hm hn hk
      obtain ⟨n, rfl⟩ : ∃ m, n = m + 1 := ⟨n - 1, by omega⟩
      have hk2 : k < 500 := by omega
      rw [f_X9_copyTo_3_h2, if_neg (l500 hk2)]
      simp only [if_neg (o500 hk2), c500 hk2]
      rw [nI_1, ih n (k + 1) _ (by omega) (by omega) (by omega)]
      rw [← mix_step (f := MVSv v) (g := MVSt v) hk2]
      rfl
  exact main (500 - 0) FU 0 v rfl (by decide) (by omega)
theorem copyFrom3_ok {v : MV} : f_X9_copyFrom_3 v = some ((), MV_sSt v (mix (MVSt v) (MVSv v) 0)) := by
  have main : ∀ (m n k : Nat) (v : MV), 500 - k = m → m < n → k ≤ 500 → f_X9_copyFrom_3_h2 n (nI k) v = some ((), MV_sSt v (mix (MVSt v) (MVSv v) k)) := by
    intro m
    induction m with
    | zero =>
      intro n k v hm hn hk
      obtain ⟨n, rfl⟩ : ∃ m, n = m + 1 := ⟨n - 1, by omega⟩
      have : k = 500 := by omega
      subst this
      rw [f_X9_copyFrom_3_h2, if_pos e500, mix_end]
      rfl
    | succ m ih =>
      intro n k v hm hn hk
      obtain ⟨n, rfl⟩ : ∃ m, n = m + 1 := ⟨n - 1, by omega⟩
      have hk2 : k < 500 := by omega
      rw [f_X9_copyFrom_3_h2, if_neg (l500 hk2)]
      simp only [if_neg (o500 hk2), c500 hk2]
      rw [nI_1, ih n (k + 1) _ (by omega) (by omega) (by omega)]
      rw [← mix_step (f := MVSt v) (g := MVSv v) hk2]
      rfl
  exact main (500 - 0) FU 0 v rfl (by decide) (by omega)
/-! the history: newest last -/
def slot (P : Nat → Int32) (j : Nat) : Nat → Int32 := fun n => P (500 * j + n)
theorem o4000 {n : Nat} (h : n < 4000) : ¬ oob (nI n) 4000 := nI_in h (by decide)
theorem c4000 {n : Nat} (h : n < 4000) : Int32.toNatClampNeg (nI n) = n := nI_clamp (by omega)
theorem nI_mul (a b : Nat) : nI a * nI b = nI (a * b) := (Int32.ofNat_mul a b).symm
theorem sadr {c k : Nat} : (500 : Int32) * nI c + nI k = nI (500 * c + k) := by
  rw [show (500 : Int32) = nI 500 from rfl, nI_mul, nI_add]
/-- the row goes to the slot c -/
theorem rem54 {c : Nat} (hc : c < 8) : ∀ (m n k : Nat) (v : MV), 500 - k = m → m < n → k ≤ 500 → MVPc v = nI c → ∃ P, f_X9_remember_h54 n (nI k) v = some ((), MV_sPc (MV_sPt v P) (nI (c + 1))) ∧ (∀ j, (500 * c + k ≤ j ∧ j < 500 * c + 500) → P j = MVSt v (j - 500 * c)) ∧ (∀ j, ¬ (500 * c + k ≤ j ∧ j < 500 * c + 500) → P j = MVPt v j) := by
  intro m
  induction m with
  | zero =>
    intro n k v hm hn hk he
    obtain ⟨n, rfl⟩ : ∃ m, n = m + 1 := ⟨n - 1, by omega⟩
    have : k = 500 := by omega
    subst this
    rw [f_X9_remember_h54, if_pos e500, he, nI_1]
    exact ⟨MVPt v, rfl, fun j hj => by omega, fun j _ => rfl⟩
  | succ m ih =>
    intro n k v hm hn hk he
    obtain ⟨n, rfl⟩ : ∃ m, n = m + 1 := ⟨n - 1, by omega⟩
    have hk2 : k < 500 := by omega
    rw [f_X9_remember_h54, if_neg (l500 hk2)]
    simp only [if_neg (o500 hk2)]
    rw [he, sadr]
    rw [if_neg (o4000 (by omega)), c4000 (by omega), c500 hk2]
    rw [nI_1]
    obtain ⟨P, h1, h2, h3⟩ := ih n (k + 1) (MV_sPt v (upd (MVPt v) (500 * c + k) (MVSt v k))) (by omega) (by omega) (by omega) he
    refine ⟨P, h1, fun j hj => ?_, fun j hj => ?_⟩
    · by_cases e : j = 500 * c + k
      · subst e
        rw [h3 _ (by omega)]
        show upd (MVPt v) (500 * c + k) (MVSt v k) (500 * c + k) = _
        rw [upd_eq, show 500 * c + k - 500 * c = k by omega]
      · exact h2 j (by omega)
    · rw [h3 j (by omega)]
      exact upd_ne (by omega)
theorem rem13 : ∀ (m n k : Nat) (v : MV), 4000 - k = m → m < n → 500 ≤ k → k ≤ 4000 → ∃ P, f_X9_remember_h13 n (nI k) v = f_X9_remember_h54 FU 0 (MV_sPc (MV_sPt v P) (MVPc v - 1)) ∧ (∀ j, j < 3500 → P j = if k ≤ j + 500 then MVPt v (j + 500) else MVPt v j) := by
  intro m
  induction m with
  | zero =>
    intro n k v hm hn hk5 hk
    obtain ⟨n, rfl⟩ : ∃ m, n = m + 1 := ⟨n - 1, by omega⟩
    have : k = 4000 := by omega
    subst this
    rw [f_X9_remember_h13, if_pos (show (4000 : Int32) ≤ nI 4000 by decide)]
    exact ⟨MVPt v, rfl, fun j hj => by rw [if_neg (by omega)]⟩
  | succ m ih =>
    intro n k v hm hn hk5 hk
    obtain ⟨n, rfl⟩ : ∃ m, n = m + 1 := ⟨n - 1, by omega⟩
    have hk2 : k < 4000 := by omega
    have es : nI k - 500 = nI (k - 500) := by
      have : nI k = nI (k - 500) + 500 := by
        rw [show (500 : Int32) = nI 500 from rfl, nI_add]
        congr 1
        omega
      rw [this, Int32.add_sub_cancel]
    rw [f_X9_remember_h13, if_neg (show ¬ (4000 : Int32) ≤ nI k from nI_ge (b := 4000) hk2 (by decide))]
    simp only [if_neg (o4000 hk2)]
    rw [es]
    rw [if_neg (o4000 (by omega)), c4000 hk2, c4000 (by omega)]
    rw [nI_1]
    obtain ⟨P, h1, h2⟩ := ih n (k + 1) (MV_sPt v (upd (MVPt v) (k - 500) (MVPt v k))) (by omega) (by omega) (by omega) (by omega)
    refine ⟨P, h1, fun j hj => ?_⟩
    rw [h2 j hj]
    simp only [show ∀ X, MVPt (MV_sPt v X) = X from fun _ => rfl]
    by_cases e : j + 500 = k
    · rw [if_neg (by omega), if_pos (by omega), show j = k - 500 by omega, upd_eq, show k - 500 + 500 = k by omega]
    · by_cases c : k ≤ j + 500
      · rw [if_pos (by omega), if_pos c, upd_ne (by omega)]
      · rw [if_neg (by omega), if_neg c, upd_ne (by omega)]
theorem und35 {c : Nat} (hc : c < 8) : ∀ (m n k : Nat) (v : MV), 500 - k = m → m < n → k ≤ 500 → MVPc v = nI c → f_X9_undo_h35 n (nI k) v = some (nI c, MV_sSt v (mix (MVSt v) (slot (MVPt v) c) k)) := by
  intro m
  induction m with
  | zero =>
    intro n k v hm hn hk he
    obtain ⟨n, rfl⟩ : ∃ m, n = m + 1 := ⟨n - 1, by omega⟩
    have : k = 500 := by omega
    subst this
    rw [f_X9_undo_h35, if_pos e500, mix_end, he]
    rfl
  | succ m ih =>
    intro n k v hm hn hk he
    obtain ⟨n, rfl⟩ : ∃ m, n = m + 1 := ⟨n - 1, by omega⟩
    have hk2 : k < 500 := by omega
    rw [f_X9_undo_h35, if_neg (l500 hk2), he, sadr]
    rw [if_neg (o4000 (by omega)), if_neg (o500 hk2), c500 hk2, c4000 (by omega)]
    rw [nI_1, ih n (k + 1) (MV_sSt v (upd (MVSt v) k (MVPt v (500 * c + k)))) (by omega) (by omega) (by omega) he]
    rw [← mix_step (f := MVSt v) (g := slot (MVPt v) c) hk2]
    rfl
theorem fm_up : ∀ x, x < 9 → fmod (nI x) 8 = nI (x % 8) := by decide +kernel
theorem fm_dn : ∀ x, x < 8 → fmod (nI x - 1) 8 = nI ((x + 7) % 8) := by decide +kernel
theorem keep_eq {Y : YV} {S : SV} {x : Nat} (hx : x < 8) (h : YVNx Y = nI x) : f_X1_keep (Y, S) = bnd2 (f_X7_copyFrom (YVKs Y x, S)) fun _ w => f_X1_keep_j24 (YV_sKs Y (updS (YVKs Y) x (P_SV_SVA w)), P_SV_SVB w) := by
  have hm : x % 8 = x := Nat.mod_eq_of_lt hx
  unfold f_X1_keep
  rw [show YVNx (P_YV_SVA (Y, S)) = nI x from h, fm_up x (by omega), hm]
  obtain rfl | rfl | rfl | rfl | rfl | rfl | rfl | rfl : x = 0 ∨ x = 1 ∨ x = 2 ∨ x = 3 ∨ x = 4 ∨ x = 5 ∨ x = 6 ∨ x = 7 := by omega
  · rw [if_neg (by decide), if_pos (by decide)]; rfl
  · rw [if_neg (by decide), if_neg (by decide), if_pos (by decide)]; rfl
  · rw [if_neg (by decide), if_neg (by decide), if_neg (by decide), if_pos (by decide)]; rfl
  · rw [if_neg (by decide), if_neg (by decide), if_neg (by decide), if_neg (by decide), if_pos (by decide)]; rfl
  · rw [if_neg (by decide), if_neg (by decide), if_neg (by decide), if_neg (by decide), if_neg (by decide), if_pos (by decide)]; rfl
  · rw [if_neg (by decide), if_neg (by decide), if_neg (by decide), if_neg (by decide), if_neg (by decide), if_neg (by decide), if_pos (by decide)]; rfl
  · rw [if_neg (by decide), if_neg (by decide), if_neg (by decide), if_neg (by decide), if_neg (by decide), if_neg (by decide), if_neg (by decide), if_pos (by decide)]; rfl
  · rw [if_neg (by decide), if_neg (by decide), if_neg (by decide), if_neg (by decide), if_neg (by decide), if_neg (by decide), if_neg (by decide), if_neg (by decide)]; rfl
theorem take_eq {Y : YV} {S : SV} {x y : Nat} (hx : x < 8) (hy : y = (x + 7) % 8) (h : YVNx Y = nI x) : f_X1_takeBack (Y, S) = bnd2 (f_X7_copyFrom (S, YVKs Y y)) fun _ w => some ((), (((updS (YVKs Y) y (P_SV_SVB w)), (YVCt Y - 1), nI y), P_SV_SVA w)) := by
  unfold f_X1_takeBack
  rw [show YVNx (P_YV_SVA (Y, S)) = nI x from h, fm_dn x hx, ← hy]
  have hy8 : y < 8 := by omega
  obtain rfl | rfl | rfl | rfl | rfl | rfl | rfl | rfl : y = 0 ∨ y = 1 ∨ y = 2 ∨ y = 3 ∨ y = 4 ∨ y = 5 ∨ y = 6 ∨ y = 7 := by omega
  · rw [if_neg (by decide), if_pos (by decide)]; rfl
  · rw [if_neg (by decide), if_neg (by decide), if_pos (by decide)]; rfl
  · rw [if_neg (by decide), if_neg (by decide), if_neg (by decide), if_pos (by decide)]; rfl
  · rw [if_neg (by decide), if_neg (by decide), if_neg (by decide), if_neg (by decide), if_pos (by decide)]; rfl
  · rw [if_neg (by decide), if_neg (by decide), if_neg (by decide), if_neg (by decide), if_neg (by decide), if_pos (by decide)]; rfl
  · rw [if_neg (by decide), if_neg (by decide), if_neg (by decide), if_neg (by decide), if_neg (by decide), if_neg (by decide), if_pos (by decide)]; rfl
  · rw [if_neg (by decide), if_neg (by decide), if_neg (by decide), if_neg (by decide), if_neg (by decide), if_neg (by decide), if_neg (by decide), if_pos (by decide)]; rfl
  · rw [if_neg (by decide), if_neg (by decide), if_neg (by decide), if_neg (by decide), if_neg (by decide), if_neg (by decide), if_neg (by decide), if_neg (by decide)]; rfl
