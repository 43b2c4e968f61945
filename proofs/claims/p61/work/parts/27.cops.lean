/-! ===== 27: changes of the state: the class ===== -/
theorem isQueue_n {q : Nat} (h : q < 6) : f_X7_isQueue (nI q) = some 1 := by
  unfold f_X7_isQueue
  rw [if_neg (nI_pos (by omega)), if_neg (show ¬ (6 : Int32) ≤ nI q from nI_ge (b := 6) h (by decide))]
theorem o6 {q : Nat} (h : q < 6) : ¬ oob (nI q) 6 := nI_in h (by decide)
theorem c6 {q : Nat} (h : q < 6) : Int32.toNatClampNeg (nI q) = q := nI_clamp (by omega)
theorem n10 : ¬ (1 : Int32) = 0 := by decide
theorem plant_ok {v : HV} {i : Nat} {x : Int32} (hi : i < 40) : ∃ w, f_X0_plant v (nI i) x = some ((), w) ∧ HVPr w = upd (HVPr v) i x ∧ gH w = pln (gH v) i := by
  unfold f_X0_plant f_X0_unlink
  rw [isNode_n hi, Option.bind_some, if_neg n10]
  simp only [if_neg (o40 hi), c40 hi]
  simp only [if_neg (o40 hi), bnd2_some]
  refine ⟨_, rfl, rfl, ?_⟩
  show (upd (HVLf v) i (-1), upd (HVRt v) i (-1), upd (HVUp v) i (-1), upd (upd (HVRk v) i 0) i 1, HVCm v, HVSw v) = _
  rw [upd_twice]
  rfl
theorem CS.pr {g : GS} {v : SV} {u : GU} (hI : GI u g) (hC : CS g v) : ∃ p : Nat → Nat, (∀ k, k < 40 → HVPr (SVH v) k = nI (p k) ∧ p k < 1000) ∧ ∀ k, k < aJ g → p k = aPr g k :=
  pr_all hC.2.2.1 (fun i hi => ⟨(hC.2.1 i hi).1, by have := (hI.2.2.2.2.1 i hi).2.1; omega⟩) hI.1
theorem mg_pr {u : GU} {g : GS} (hI : GI u g) {p : Nat → Nat} (hp : ∀ k, k < aJ g → p k = aPr g k) {a b : Nat} : mg p (aF g a) (aF g b) = mg (aPr g) (aF g a) (aF g b) :=
  mg_congr (fun k hk => hp k (hk.elim hI.lt hI.lt))
theorem waits_ok {u : GU} {g : GS} {v : SV} {i : Nat} (hI : GI u g) (hC : CS g v) (hi : i < aJ g) : f_X7_waits v (nI i) = some (if aFt g i = 0 then 1 else 0) := by
  have i40 : i < 40 := Nat.lt_of_lt_of_le hi hI.1
  have hJ := hI.1
  obtain ⟨e1, e2, e3, e4, e5, e6⟩ := hC.2.1 i hi
  have h5 := hI.2.2.2.2.1 i hi
  unfold f_X7_waits
  rw [if_neg (p40 i40), hC.1, if_neg (nI_ge hi (by omega)), if_neg (l40 i40)]
  simp only [if_neg (o40 i40), c40 i40]
  rw [e4]
  by_cases c : aFt g i = 0
  · have hq := h5.1 c
    have hQ := hI.2.1.2
    rw [if_pos c, c, if_pos nI_0, e5, if_pos c, isQueue_n (by omega), Option.bind_some, if_neg n10]
  · rw [if_neg c, if_neg (nI_ne0 (by omega) (by omega))]
theorem upd_uf {α : Type} {f : Nat → Int32} {F : Nat → α} {h : α → Int32} {i : Nat} {x : Int32} {y : α} (hx : x = h y) {k : Nat} (hk : k ≠ i → f k = h (F k)) : upd f i x k = h (uf F i y k) := by
  by_cases e : k = i
  · subst e; rw [upd_eq, uf_eq, hx]
  · rw [upd_ne e, uf_ne e, hk e]
theorem addJob_ok {u : GU} {g : GS} {v : SV} {q p : Nat} {o n : Int32} (hI : GI u g) (hC : CS g v) (hJ : aJ g < 40) (hq : q < 6) (hp : p < 100) :
    ∃ w, f_X7_addJob v (nI q) o (nI p) n = some (nI (aJ g), w) ∧ CS (addG g q o p n) w := by
  obtain ⟨pr, hpr, hag⟩ := hC.pr hI
  have hi : ∀ k, aJ g ∉ nds (aF g k) := fun k => hI.out (Nat.le_refl _)
  obtain ⟨w1, h1, h1p, h1g⟩ := @plant_ok (SVH v) (aJ g) (nI p) hJ
  have hF1 : FR (gH w1) (aF g) := by rw [h1g]; exact FR_pln hC.2.2.2.2.1 hi
  have hn1 : sub (gH w1) (nd1 (aJ g)) ∧ upK (gH w1) (nd1 (aJ g)) (-1) := by rw [h1g]; exact pln_nd hJ
  have hp1 : ∀ k, k < 40 → HVPr w1 k = nI (uf pr (aJ g) p k) ∧ uf pr (aJ g) p k < 1000 := fun k hk => by
    rw [h1p]
    by_cases e : k = aJ g
    · subst e; rw [upd_eq, uf_eq]; exact ⟨rfl, by omega⟩
    · rw [upd_ne e, uf_ne e]; exact hpr k hk
  obtain ⟨w2, h2, h2m, h2u, h2p⟩ := merge_ok (hF1 q).1 hn1.1 (hI.2.2.1 q).1 nd1_nodup (dsj_nd1 (hi q)) (prOK_of hp1)
  have em : mg (uf pr (aJ g) p) (aF g q) (nd1 (aJ g)) = addM g q p := mg_congr (fun k hk => by
    by_cases e : k = aJ g
    · subst e; rw [uf_eq, uf_eq]
    · rw [uf_ne e, uf_ne e]
      exact hag k (hk.elim hI.lt (fun h => absurd (mem_nd1.mp h) e)))
  have h2f := FR_mg hF1 hI.ds (fun k _ => dsj_nd1 (hi k)) h2m h2u
  rw [em] at h2 h2u h2f
  have h2c := h2m.2.2
  rw [em, h1g] at h2c
  have hne : ∀ j, j ≠ aJ g → j ∉ nds (aF g q) → eqG (gH (SVH v)) (gH w2) j := fun j e h => by
    have := h2m.2.1 j h (fun hk => e (mem_nd1.mp hk))
    rw [h1g] at this
    exact (pln_eq e).tr this
  have h2' : f_X0_merge w1 (hv (aF g q)) (nI (aJ g)) = some (hv (addM g q p).1, w2) := h2
  unfold f_X7_addJob f_X7_isFull
  rw [hC.1, if_pos (show nI (aJ g) < 40 from nI_lt (a := aJ g) (b := 40) hJ (by decide)), Option.bind_some, if_pos rfl, if_neg (p40 hJ), isQueue_n hq, Option.bind_some, if_neg n10]
  simp only [if_neg (o40 hJ), h1, bnd2_some, if_neg (o6 hq), c6 hq, c40 hJ, (hC.2.2.2.1 q hq).1, h2']
  refine ⟨_, rfl, ?_⟩
  refine ⟨nI_1 _, fun i hi2 => ?_, fun i hi2 => ?_, fun k hk => ⟨?_, (hC.2.2.2.1 k hk).2⟩, h2f, ?_, ?_⟩
  · have hi3 : i < aJ g + 1 := hi2
    show HVPr w2 i = nI (uf (aPr g) (aJ g) p i) ∧ upd (SVOw v) (aJ g) o i = uf (aOw g) (aJ g) o i ∧ upd (SVPg v) (aJ g) n i = uf (aPg g) (aJ g) n i ∧ upd (SVFt v) (aJ g) 0 i = nI (uf (aFt g) (aJ g) 0 i) ∧ upd (SVQu v) (aJ g) (nI q) i = (if uf (aFt g) (aJ g) 0 i = 0 then nI (uf (aQu g) (aJ g) q i) else -1) ∧ (uf (aFt g) (aJ g) 0 i ≠ 0 → out (gH w2) i)
    rw [h2p, h1p]
    by_cases e : i = aJ g
    · subst e
      simp only [upd_eq, uf_eq]
      exact ⟨trivial, trivial, trivial, nI_0.symm, rfl, fun h => absurd rfl h⟩
    · simp only [upd_ne e, uf_ne e]
      obtain ⟨e1, e2, e3, e4, e5, e6⟩ := hC.2.1 i (by omega)
      exact ⟨e1, e2, e3, e4, e5, fun hf => out_congr (hne i e (hI.off hf)) (e6 hf)⟩
  · show ∃ p, HVPr w2 i = nI p ∧ p < 1000
    rw [h2p]
    exact ⟨_, hp1 i hi2⟩
  · show upd (SVRo v) q (hv (addM g q p).1) k = hv (uf (aF g) q (addM g q p).1 k)
    exact upd_uf (h := hv) rfl (fun _ => (hC.2.2.2.1 k hk).1)
  · show HVCm w2 = aCm g + nI (addM g q p).2.1
    rw [← hC.2.2.2.2.2.1]
    exact h2c.1
  · show HVSw w2 = aSw g + nI (addM g q p).2.2
    rw [← hC.2.2.2.2.2.2]
    exact h2c.2
theorem take_ok {u : GU} {g : GS} {v : SV} {i : Nat} (hI : GI u g) (hC : CS g v) (hi : i < aJ g) (hf : aFt g i = 0) :
    ∃ w, f_X0_takeOut (SVH v) (hv (aF g (aQu g i))) (nI i) = some (hv (endM g i).1, w) ∧ FR (gH w) (reF g i) ∧ (∀ j, j ∉ nds (aF g (aQu g i)) → eqG (gH (SVH v)) (gH w) j) ∧ out (gH w) i ∧ HVCm w = aCm g + nI (endM g i).2.1 ∧ HVSw w = aSw g + nI (endM g i).2.2 ∧ HVPr w = HVPr (SVH v) := by
  obtain ⟨pr, hpr, hag⟩ := hC.pr hI
  have hin := hI.inn hi hf
  have hF := hC.2.2.2.2.1
  obtain ⟨w, h1, h2, h3⟩ := takeOut_ok (hF (aQu g i)).1 (hF (aQu g i)).2 (hI.2.2.1 _).1 hin (prOK_of hpr)
  have em : rmT pr i (aF g (aQu g i)) = endM g i := rm_congr hin (fun k hk => hag k (hI.lt hk))
  have hfr := FR_rm hF hI.ds h2
  rw [em] at h1 hfr
  have hc := h2.2.2.2.2
  rw [em] at hc
  refine ⟨w, h1, hfr, h2.2.2.1, h2.2.2.2.1, ?_, ?_, h3⟩
  · rw [← hC.2.2.2.2.2.1]; exact hc.1
  · rw [← hC.2.2.2.2.2.2]; exact hc.2
theorem endJob_ok {u : GU} {g : GS} {v : SV} {i b : Nat} (hI : GI u g) (hC : CS g v) (hi : i < aJ g) (hf : aFt g i = 0) (hb : b = 1 ∨ b = 2) :
    ∃ w, f_X7_endJob v (nI i) (nI b) = some (1, w) ∧ CS (endG g i b) w := by
  obtain ⟨w, h1, h2, h3, h4, h5, h6, h7⟩ := take_ok hI hC hi hf
  have i40 : i < 40 := Nat.lt_of_lt_of_le hi hI.1
  have hq : aQu g i < 6 := by have := (hI.2.2.2.2.1 i hi).1 hf; have := hI.2.1.2; omega
  have eq : SVQu v i = nI (aQu g i) := by rw [(hC.2.1 i hi).2.2.2.2.1, if_pos hf]
  have main : ∀ (Pd : Nat → Int32), (∀ k, k < 6 → Pd k = (if b = 1 then uf (aPd g) (aQu g i) (aPd g (aQu g i) + aPg g i) else aPd g) k) → CS (endG g i b) (w, SVJc v, SVOw v, SVPg v, upd (SVFt v) i (nI b), upd (SVQu v) i (-1), upd (SVRo v) (aQu g i) (hv (endM g i).1), Pd, SVPs v) := by
    intro Pd hPd
    refine ⟨hC.1, fun j hj => ?_, fun j hj => ?_, fun k hk => ⟨?_, hPd k hk, (hC.2.2.2.1 k hk).2.2⟩, h2, h5, h6⟩
    · show HVPr w j = nI (aPr g j) ∧ SVOw v j = aOw g j ∧ SVPg v j = aPg g j ∧ upd (SVFt v) i (nI b) j = nI (uf (aFt g) i b j) ∧ upd (SVQu v) i (-1) j = (if uf (aFt g) i b j = 0 then nI (aQu g j) else -1) ∧ (uf (aFt g) i b j ≠ 0 → out (gH w) j)
      rw [h7]
      obtain ⟨e1, e2, e3, e4, e5, e6⟩ := hC.2.1 j hj
      by_cases e : j = i
      · subst e
        simp only [upd_eq, uf_eq]
        exact ⟨e1, e2, e3, trivial, by rw [if_neg (by omega)], fun _ => h4⟩
      · simp only [upd_ne e, uf_ne e]
        exact ⟨e1, e2, e3, e4, e5, fun hf2 => out_congr (h3 j (hI.off hf2)) (e6 hf2)⟩
    · show ∃ p, HVPr w j = nI p ∧ p < 1000
      rw [h7]
      exact hC.2.2.1 j hj
    · show upd (SVRo v) (aQu g i) (hv (endM g i).1) k = hv (uf (aF g) (aQu g i) (endM g i).1 k)
      exact upd_uf (h := hv) rfl (fun _ => (hC.2.2.2.1 k hk).1)
  unfold f_X7_endJob
  rw [waits_ok hI hC hi, if_pos hf, Option.bind_some, if_neg n10]
  simp only [if_neg (o40 i40), c40 i40, eq, if_neg (o6 hq), c6 hq, (hC.2.2.2.1 _ hq).1, h1, bnd2_some]
  rcases hb with rfl | rfl
  · rw [if_pos (show nI 1 = 1 from rfl)]
    refine ⟨_, rfl, main _ (fun k hk => ?_)⟩
    rw [if_pos rfl]
    refine upd_uf (h := id) ?_ (fun _ => (hC.2.2.2.1 k hk).2.1)
    show SVPd v (aQu g i) + SVPg v i = aPd g (aQu g i) + aPg g i
    rw [(hC.2.2.2.1 _ hq).2.1, (hC.2.1 i hi).2.2.1]
  · rw [if_neg (show ¬ nI 2 = 1 by decide)]
    refine ⟨_, rfl, main _ (fun k hk => ?_)⟩
    rw [if_neg (by decide)]
    exact (hC.2.2.2.1 k hk).2.1
theorem insertAgain_ok {u : GU} {g : GS} {v : SV} {i q p : Nat} (hI : GI u g) (hC : CS g v) (hi : i < aJ g) (hf : aFt g i = 0) (hq : q < 6) (hp : p < 100) :
    ∃ w, f_X7_insertAgain v (nI i) (nI q) (nI p) = some (1, w) ∧ CS (reG g i q p) w := by
  obtain ⟨w, h1, h2, h3, h4, h5, h6, h7⟩ := take_ok hI hC hi hf
  obtain ⟨pr, hpr, hag⟩ := hC.pr hI
  have i40 : i < 40 := Nat.lt_of_lt_of_le hi hI.1
  have hq0 : aQu g i < 6 := by have := (hI.2.2.2.2.1 i hi).1 hf; have := hI.2.1.2; omega
  have eq : SVQu v i = nI (aQu g i) := by rw [(hC.2.1 i hi).2.2.2.2.1, if_pos hf]
  have hout : ∀ k, i ∉ nds (reF g i k) := fun k h => (((hI.rm hi hf k).2.2.2 i).mp h).2 rfl
  have hds : dsF (reF g i) := fun k k' e j m1 m2 => hI.ds k k' e j (((hI.rm hi hf k).2.2.2 j).mp m1).1 (((hI.rm hi hf k').2.2.2 j).mp m2).1
  obtain ⟨w1, k1, k1p, k1g⟩ := @plant_ok w i (nI p) i40
  have hF1 : FR (gH w1) (reF g i) := by rw [k1g]; exact FR_pln h2 hout
  have hn1 : sub (gH w1) (nd1 i) ∧ upK (gH w1) (nd1 i) (-1) := by rw [k1g]; exact pln_nd i40
  have hp1 : ∀ k, k < 40 → HVPr w1 k = nI (uf pr i p k) ∧ uf pr i p k < 1000 := fun k hk => by
    rw [k1p, h7]
    by_cases e : k = i
    · subst e; rw [upd_eq, uf_eq]; exact ⟨rfl, by omega⟩
    · rw [upd_ne e, uf_ne e]; exact hpr k hk
  obtain ⟨w2, m2, m2m, m2u, m2p⟩ := merge_ok (hF1 q).1 hn1.1 (hI.rm hi hf q).1 nd1_nodup (dsj_nd1 (hout q)) (prOK_of hp1)
  have em : mg (uf pr i p) (reF g i q) (nd1 i) = reM g i q p := mg_congr (fun k hk => by
    by_cases e : k = i
    · subst e; rw [uf_eq, uf_eq]
    · rw [uf_ne e, uf_ne e]
      exact hag k (hk.elim (fun h => hI.lt (((hI.rm hi hf q).2.2.2 k).mp h).1) (fun h => absurd (mem_nd1.mp h) e)))
  have m2f := FR_mg hF1 hds (fun k _ => dsj_nd1 (hout k)) m2m m2u
  rw [em] at m2 m2u m2f
  have m2c := m2m.2.2
  rw [em, k1g] at m2c
  have m2' : f_X0_merge w1 (hv (reF g i q)) (nI i) = some (hv (reM g i q p).1, w2) := m2
  have hro : upd (SVRo v) (aQu g i) (hv (endM g i).1) q = hv (reF g i q) := upd_uf (h := hv) rfl (fun _ => (hC.2.2.2.1 q hq).1)
  unfold f_X7_insertAgain
  rw [waits_ok hI hC hi, if_pos hf, Option.bind_some, if_neg n10, isQueue_n hq, Option.bind_some, if_neg n10]
  simp only [if_neg (o40 i40), c40 i40, eq, if_neg (o6 hq0), c6 hq0, if_neg (o6 hq), c6 hq, (hC.2.2.2.1 _ hq0).1, h1, bnd2_some, k1, hro, m2']
  refine ⟨_, rfl, hC.1, fun j hj => ?_, fun j hj => ?_, fun k hk => ⟨?_, (hC.2.2.2.1 k hk).2⟩, m2f, ?_, ?_⟩
  · show HVPr w2 j = nI (uf (aPr g) i p j) ∧ SVOw v j = aOw g j ∧ SVPg v j = aPg g j ∧ SVFt v j = nI (aFt g j) ∧ upd (SVQu v) i (nI q) j = (if aFt g j = 0 then nI (uf (aQu g) i q j) else -1) ∧ (aFt g j ≠ 0 → out (gH w2) j)
    rw [m2p, k1p, h7]
    obtain ⟨e1, e2, e3, e4, e5, e6⟩ := hC.2.1 j hj
    by_cases e : j = i
    · subst e
      simp only [upd_eq, uf_eq]
      exact ⟨trivial, e2, e3, e4, by rw [if_pos hf], fun h => absurd hf h⟩
    · simp only [upd_ne e, uf_ne e]
      refine ⟨e1, e2, e3, e4, e5, fun hf2 => out_congr ?_ (e6 hf2)⟩
      have a1 := h3 j (hI.off hf2)
      have a2 := m2m.2.1 j (fun hm => hI.off hf2 (((hI.rm hi hf q).2.2.2 j).mp hm).1) (fun hk => e (mem_nd1.mp hk))
      rw [k1g] at a2
      exact a1.tr ((pln_eq e).tr a2)
  · show ∃ p, HVPr w2 j = nI p ∧ p < 1000
    rw [m2p]
    exact ⟨_, hp1 j hj⟩
  · show upd (upd (SVRo v) (aQu g i) (hv (endM g i).1)) q (hv (reM g i q p).1) k = hv (uf (reF g i) q (reM g i q p).1 k)
    exact upd_uf (h := hv) rfl (fun _ => upd_uf (h := hv) rfl (fun _ => (hC.2.2.2.1 k hk).1))
  · show HVCm w2 = aCm g + nI (endM g i).2.1 + nI (reM g i q p).2.1
    rw [← h5]
    exact m2c.1
  · show HVSw w2 = aSw g + nI (endM g i).2.2 + nI (reM g i q p).2.2
    rw [← h6]
    exact m2c.2
theorem holdQueue_ok {g : GS} {v : SV} {q : Nat} {b : Bool} (hC : CS g v) (hq : q < 6) : ∃ w, f_X7_holdQueue v (nI q) (b2i b) = some (1, w) ∧ CS (paG g q b) w := by
  unfold f_X7_holdQueue
  rw [isQueue_n hq, Option.bind_some, if_neg n10]
  simp only [if_neg (o6 hq), c6 hq]
  refine ⟨_, rfl, hC.1, hC.2.1, hC.2.2.1, fun k hk => ⟨(hC.2.2.2.1 k hk).1, (hC.2.2.2.1 k hk).2.1, ?_⟩, hC.2.2.2.2⟩
  show upd (SVPs v) q (vp_nar .boolean (b2i b)) k = b2i (uf (aPs g) q b k)
  refine upd_uf (h := b2i) ?_ (fun _ => (hC.2.2.2.1 k hk).2.2)
  cases b <;> rfl
/-- the loop over the jobs of the queue that ends -/
theorem join_h {u : GU} {g : GS} {a b : Nat} (hI : GI u g) (ha : a < 6) (hb : b < 6) (hab : a ≠ b) : ∀ (m n k : Nat) (v : SV), aJ g - k = m → m < n → k ≤ aJ g → SVJc v = nI (aJ g) → (∀ i, i < aJ g → SVQu v i = (if aFt g i = 0 then nI (if i < k ∧ aQu g i = a then b else aQu g i) else -1)) →
    ∃ Q, f_X7_joinQueues_h55 n (nI a) (nI b) (nI k) v = some (1, SV_sQu v Q) ∧ (∀ i, i < aJ g → Q i = (if aFt g i = 0 then nI (if aQu g i = a then b else aQu g i) else -1)) := by
  intro m
  have hJ := hI.1
  induction m with
  | zero =>
    intro n k v hm hn hk hj hQ
    obtain ⟨n, rfl⟩ : ∃ m, n = m + 1 := ⟨n - 1, by omega⟩
    have : k = aJ g := by omega
    subst this
    rw [f_X7_joinQueues_h55, hj, if_pos (nI_le (Nat.le_refl _) (by omega))]
    refine ⟨SVQu v, rfl, fun i hi => ?_⟩
    rw [hQ i hi]
    simp only [hi, true_and]
  | succ m ih =>
    intro n k v hm hn hk hj hQ
    obtain ⟨n, rfl⟩ : ∃ m, n = m + 1 := ⟨n - 1, by omega⟩
    have hk2 : k < aJ g := by omega
    have k40 : k < 40 := by omega
    rw [f_X7_joinQueues_h55, hj, if_neg (nI_ge hk2 (by omega)), if_neg (l40 k40)]
    simp only [if_neg (o40 k40), c40 k40]
    rw [hQ k hk2, nI_1]
    simp only [Nat.lt_irrefl, false_and, if_false]
    by_cases hf : aFt g k = 0
    · rw [if_pos hf]
      have hq := (hI.2.2.2.2.1 k hk2).1 hf
      have hQ6 := hI.2.1.2
      by_cases c : aQu g k = a
      · rw [c, if_pos rfl]
        obtain ⟨Q, h1, h2⟩ := ih n (k + 1) (SV_sQu v (upd (SVQu v) k (nI b))) (by omega) (by omega) hk2 hj (fun i hi => by
          show upd (SVQu v) k (nI b) i = _
          by_cases e : i = k
          · subst e
            rw [upd_eq, if_pos hf, if_pos ⟨Nat.lt_succ_self _, c⟩]
          · rw [upd_ne e, hQ i hi]
            have : (i < k ∧ aQu g i = a) ↔ (i < k + 1 ∧ aQu g i = a) := ⟨fun h => ⟨by omega, h.2⟩, fun h => ⟨by omega, h.2⟩⟩
            simp only [this])
        exact ⟨Q, h1, h2⟩
      · rw [if_neg (fun e => c ((nI_eq (by omega) (by omega)).mp e))]
        exact ih n (k + 1) v (by omega) (by omega) hk2 hj (fun i hi => by
          rw [hQ i hi]
          by_cases e : i = k
          · subst e
            rw [if_pos hf, if_pos hf, if_neg (fun h => Nat.lt_irrefl _ h.1), if_neg (fun h => c h.2)]
          · have : (i < k ∧ aQu g i = a) ↔ (i < k + 1 ∧ aQu g i = a) := ⟨fun h => ⟨by omega, h.2⟩, fun h => ⟨by omega, h.2⟩⟩
            simp only [this])
    · rw [if_neg hf, if_neg (fun e => nI_m (by omega) e.symm)]
      exact ih n (k + 1) v (by omega) (by omega) hk2 hj (fun i hi => by
        rw [hQ i hi]
        by_cases e : i = k
        · subst e
          rw [if_neg hf, if_neg hf]
        · have : (i < k ∧ aQu g i = a) ↔ (i < k + 1 ∧ aQu g i = a) := ⟨fun h => ⟨by omega, h.2⟩, fun h => ⟨by omega, h.2⟩⟩
          simp only [this])
theorem joinQueues_ok {u : GU} {g : GS} {v : SV} {a b : Nat} (hI : GI u g) (hC : CS g v) (ha : a < 6) (hb : b < 6) (hab : a ≠ b) :
    ∃ w, f_X7_joinQueues v (nI a) (nI b) = some (1, w) ∧ CS (joG g a b) w := by
  obtain ⟨pr, hpr, hag⟩ := hC.pr hI
  have hF := hC.2.2.2.2.1
  obtain ⟨w2, m2, m2m, m2u, m2p⟩ := merge_ok (hF a).1 (hF b).1 (hI.2.2.1 a).1 (hI.2.2.1 b).1 (hI.ds a b hab) (prOK_of hpr)
  have em : mg pr (aF g a) (aF g b) = joM g a b := mg_pr hI hag
  have c2 := m2m.2.2
  have e2 := m2m.2.1
  have s2 := m2m.1
  rw [em] at m2 m2u c2 s2
  unfold f_X7_joinQueues
  rw [isQueue_n ha, Option.bind_some, if_neg n10, isQueue_n hb, Option.bind_some, if_neg n10, if_neg (fun e => hab ((nI_eq (by omega) (by omega)).mp e))]
  simp only [if_neg (o6 ha), if_neg (o6 hb), c6 ha, c6 hb, (hC.2.2.2.1 _ ha).1, (hC.2.2.2.1 _ hb).1, m2, bnd2_some]
  obtain ⟨Q, h1, h2⟩ := join_h hI ha hb hab (aJ g - 0) FU 0 (SV_sRo (SV_sH v w2) (upd (upd (SVRo v) b (hv (joM g a b).1)) a (-1))) rfl (by have := hI.1; have : FU = 5000 := rfl; omega) (Nat.zero_le _) hC.1 (fun i hi => by
    show SVQu v i = _
    rw [(hC.2.1 i hi).2.2.2.2.1, if_neg (show ¬ (i < 0 ∧ aQu g i = a) from fun h => Nat.not_lt_zero _ h.1)])
  refine ⟨_, h1, hC.1, fun j hj => ?_, fun j hj => ?_, fun k hk => ⟨?_, (hC.2.2.2.1 k hk).2⟩, fun k => ?_, ?_, ?_⟩
  · show HVPr w2 j = nI (aPr g j) ∧ SVOw v j = aOw g j ∧ SVPg v j = aPg g j ∧ SVFt v j = nI (aFt g j) ∧ Q j = (if aFt g j = 0 then nI (if aFt g j = 0 ∧ aQu g j = a then b else aQu g j) else -1) ∧ (aFt g j ≠ 0 → out (gH w2) j)
    rw [m2p]
    obtain ⟨e1, e2', e3, e4, e5, e6⟩ := hC.2.1 j hj
    refine ⟨e1, e2', e3, e4, ?_, fun hf => out_congr (e2 j (hI.off hf) (hI.off hf)) (e6 hf)⟩
    rw [h2 j hj]
    by_cases hf : aFt g j = 0
    · rw [if_pos hf, if_pos hf]
      simp only [hf, true_and]
    · rw [if_neg hf, if_neg hf]
  · show ∃ p, HVPr w2 j = nI p ∧ p < 1000
    rw [m2p]
    exact hC.2.2.1 j hj
  · show upd (upd (SVRo v) b (hv (joM g a b).1)) a (-1) k = hv (uf (uf (aF g) b (joM g a b).1) a (.leaf ()) k)
    exact upd_uf (h := hv) (y := (.leaf () : Tr)) rfl (fun _ => upd_uf (h := hv) (y := (joM g a b).1) rfl (fun _ => (hC.2.2.2.1 k hk).1))
  · show sub (gH w2) (uf (uf (aF g) b (joM g a b).1) a (.leaf ()) k) ∧ upK (gH w2) (uf (uf (aF g) b (joM g a b).1) a (.leaf ()) k) (-1)
    by_cases e : k = a
    · subst e
      rw [uf_eq]
      exact ⟨True.intro, True.intro⟩
    · rw [uf_ne e]
      by_cases e3 : k = b
      · subst e3
        rw [uf_eq]
        exact ⟨s2, m2u⟩
      · rw [uf_ne e3]
        exact FR_keep (fun j hj => e2 j (fun h => hI.ds k a e j hj h) (fun h => hI.ds k b e3 j hj h)) (hF k)
  · show HVCm w2 = aCm g + nI (joM g a b).2.1
    rw [← hC.2.2.2.2.2.1]
    exact c2.1
  · show HVSw w2 = aSw g + nI (joM g a b).2.2
    rw [← hC.2.2.2.2.2.2]
    exact c2.2
