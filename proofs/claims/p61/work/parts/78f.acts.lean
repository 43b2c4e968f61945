/-! ===== 78f: the law's acts (gen78f.py) ===== -/
section LQC
variable {u : GU} {g : GS} {Q : QV}
theorem LQ.add (hQ : LQ u g Q) {q o p n : Nat} : LQ u (addG g q (nI o) p (nI n)) (upd (QVOw Q) (aJ g) (nI o), upd (QVPr Q) (aJ g) (nI p), upd (QVPg Q) (aJ g) (nI n), upd (QVSt Q) (aJ g) 0, upd (QVQu Q) (aJ g) (nI q), QVSp Q, QVPd Q, QVPs Q, QVNq Q, QVNo Q, QVJb Q + 1, QVSn Q) := by
  refine ⟨⟨hQ.1.1, hQ.1.2.1, ?_⟩, hQ.2.1, hQ.2.2.1, fun j hj => ?_, hQ.2.2.2.2⟩
  · show QVJb Q + 1 = nI (aJ g + 1)
    rw [hQ.1.2.2, nI_1]
  · have hj' : j < aJ g + 1 := hj
    show upd (QVOw Q) (aJ g) (nI o) j = uf (aOw g) (aJ g) (nI o) j ∧ upd (QVPr Q) (aJ g) (nI p) j = nI (uf (aPr g) (aJ g) p j) ∧ upd (QVPg Q) (aJ g) (nI n) j = uf (aPg g) (aJ g) (nI n) j ∧ upd (QVSt Q) (aJ g) 0 j = nI (uf (aFt g) (aJ g) 0 j) ∧ (uf (aFt g) (aJ g) 0 j = 0 → upd (QVQu Q) (aJ g) (nI q) j = nI (uf (aQu g) (aJ g) q j))
    by_cases e : j = aJ g
    · rw [e, upd_eq, upd_eq, upd_eq, upd_eq, upd_eq, uf_eq, uf_eq, uf_eq, uf_eq, uf_eq]
      exact ⟨rfl, rfl, rfl, rfl, fun _ => rfl⟩
    · simp only [upd_ne e, uf_ne e]
      exact hQ.2.2.2.1 j (by omega)
theorem LQ.end2 (hQ : LQ u g Q) {i : Nat} : LQ u (endG g i 2) (QV_sSt Q (upd (QVSt Q) i 2)) := by
  refine ⟨hQ.1, hQ.2.1, hQ.2.2.1, fun j hj => ?_, fun k hk => ?_⟩
  · obtain ⟨a1, a2, a3, a4, a5⟩ := hQ.2.2.2.1 j hj
    refine ⟨a1, a2, a3, ?_⟩
    show upd (QVSt Q) i 2 j = nI (uf (aFt g) i 2 j) ∧ (uf (aFt g) i 2 j = 0 → QVQu Q j = nI (aQu g j))
    by_cases e : j = i
    · rw [e, upd_eq, uf_eq]
      exact ⟨rfl, fun h => absurd h (by decide)⟩
    · rw [upd_ne e, uf_ne e]
      exact ⟨a4, a5⟩
  · obtain ⟨b1, b2, b3, b4⟩ := hQ.2.2.2.2 k hk
    refine ⟨b1, b2, ?_, b4⟩
    show QVPd Q k = (if 2 = 1 then uf (aPd g) (aQu g i) (aPd g (aQu g i) + aPg g i) else aPd g) k
    rw [if_neg (by decide)]
    exact b3
theorem LQ.end1 (hQ : LQ u g Q) {i q : Nat} (hi : i < aJ g) (hq : aQu g i = q) (hqu : q < uQ u) : LQ u (endG g i 1) (QV_sPd (QV_sSt Q (upd (QVSt Q) i 1)) (upd (QVPd Q) q (QVPd Q q + QVPg Q i))) := by
  refine ⟨hQ.1, hQ.2.1, hQ.2.2.1, fun j hj => ?_, fun k hk => ?_⟩
  · obtain ⟨a1, a2, a3, a4, a5⟩ := hQ.2.2.2.1 j hj
    refine ⟨a1, a2, a3, ?_⟩
    show upd (QVSt Q) i 1 j = nI (uf (aFt g) i 1 j) ∧ (uf (aFt g) i 1 j = 0 → QVQu Q j = nI (aQu g j))
    by_cases e : j = i
    · rw [e, upd_eq, uf_eq]
      exact ⟨rfl, fun h => absurd h (by decide)⟩
    · rw [upd_ne e, uf_ne e]
      exact ⟨a4, a5⟩
  · obtain ⟨b1, b2, b3, b4⟩ := hQ.2.2.2.2 k hk
    refine ⟨b1, b2, ?_, b4⟩
    show upd (QVPd Q) q (QVPd Q q + QVPg Q i) k = (if 1 = 1 then uf (aPd g) (aQu g i) (aPd g (aQu g i) + aPg g i) else aPd g) k
    rw [if_pos rfl, hq]
    by_cases e : k = q
    · rw [e, upd_eq, uf_eq, (hQ.2.2.2.2 q hqu).2.2.1, (hQ.2.2.2.1 i hi).2.2.1]
    · rw [upd_ne e, uf_ne e]
      exact b3
theorem LQ.pri (hQ : LQ u g Q) {i p : Nat} : LQ u (reG g i (aQu g i) p) (QV_sPr Q (upd (QVPr Q) i (nI p))) := by
  refine ⟨hQ.1, hQ.2.1, hQ.2.2.1, fun j hj => ?_, hQ.2.2.2.2⟩
  obtain ⟨a1, a2, a3, a4, a5⟩ := hQ.2.2.2.1 j hj
  show QVOw Q j = aOw g j ∧ upd (QVPr Q) i (nI p) j = nI (uf (aPr g) i p j) ∧ QVPg Q j = aPg g j ∧ QVSt Q j = nI (aFt g j) ∧ (aFt g j = 0 → QVQu Q j = nI (uf (aQu g) i (aQu g i) j))
  by_cases e : j = i
  · subst e
    rw [upd_eq, uf_eq, uf_eq]
    exact ⟨a1, rfl, a3, a4, a5⟩
  · rw [upd_ne e, uf_ne e, uf_ne e]
    exact ⟨a1, a2, a3, a4, a5⟩
theorem LQ.mov (hQ : LQ u g Q) {i q : Nat} : LQ u (reG g i q (aPr g i)) (QV_sQu Q (upd (QVQu Q) i (nI q))) := by
  refine ⟨hQ.1, hQ.2.1, hQ.2.2.1, fun j hj => ?_, hQ.2.2.2.2⟩
  obtain ⟨a1, a2, a3, a4, a5⟩ := hQ.2.2.2.1 j hj
  show QVOw Q j = aOw g j ∧ QVPr Q j = nI (uf (aPr g) i (aPr g i) j) ∧ QVPg Q j = aPg g j ∧ QVSt Q j = nI (aFt g j) ∧ (aFt g j = 0 → upd (QVQu Q) i (nI q) j = nI (uf (aQu g) i q j))
  by_cases e : j = i
  · subst e
    rw [upd_eq, uf_eq, uf_eq]
    exact ⟨a1, a2, a3, a4, fun _ => rfl⟩
  · rw [upd_ne e, uf_ne e, uf_ne e]
    exact ⟨a1, a2, a3, a4, a5⟩
theorem LQ.hold (hQ : LQ u g Q) {q : Nat} {b : Bool} : LQ u (paG g q b) (QV_sPs Q (upd (QVPs Q) q (b2i b))) := by
  refine ⟨hQ.1, hQ.2.1, hQ.2.2.1, hQ.2.2.2.1, fun k hk => ?_⟩
  obtain ⟨b1, b2, b3, b4⟩ := hQ.2.2.2.2 k hk
  refine ⟨b1, b2, b3, ?_⟩
  show upd (QVPs Q) q (b2i b) k = b2i (uf (aPs g) q b k)
  by_cases e : k = q
  · rw [e, upd_eq, uf_eq]
  · rw [upd_ne e, uf_ne e]
    exact b4
/-- the lines when the jobs below k have changed their queue -/
def joQ (g : GS) (Q : QV) (a b k : Nat) : QV := QV_sQu Q (fun j => if j < k ∧ wIn g a j then nI b else QVQu Q j)
theorem joQ_0 {a b : Nat} : joQ g Q a b 0 = Q := by
  unfold joQ
  rw [show (fun j => if j < 0 ∧ wIn g a j then nI b else QVQu Q j) = QVQu Q from funext fun j => if_neg (fun h => absurd h.1 (Nat.not_lt_zero _))]
  rfl
theorem LQ.join (hQ : LQ u g Q) {a b : Nat} : LQ u (joG g a b) (joQ g Q a b (aJ g)) := by
  refine ⟨hQ.1, hQ.2.1, hQ.2.2.1, fun j hj => ?_, hQ.2.2.2.2⟩
  obtain ⟨a1, a2, a3, a4, a5⟩ := hQ.2.2.2.1 j hj
  refine ⟨a1, a2, a3, a4, fun hf => ?_⟩
  have hj' : j < aJ g := hj
  show (if j < aJ g ∧ wIn g a j then nI b else QVQu Q j) = nI (if aFt g j = 0 ∧ aQu g j = a then b else aQu g j)
  by_cases c : wIn g a j
  · rw [if_pos ⟨hj', c⟩, if_pos c]
  · rw [if_neg (fun h => c h.2), if_neg c]
    exact a5 hf
end LQC
theorem isIn_at {Q Q' : QV} {k : Nat} {b : Int32} (hk : k < 40) (h1 : QVSt Q' k = QVSt Q k) (h2 : QVQu Q' k = QVQu Q k) : f_L_isIn Q' (nI k) b = f_L_isIn Q (nI k) b := by
  unfold f_L_isIn
  simp only [if_neg (o40 hk), c40 hk]
  rw [h1, h2]
theorem bits_n (x b c : Int32) (k : Nat) (hm : ((1 <<< (c &&& 31)) - 1 : Int32).toBitVec.toNat = 2 ^ k - 1) : ∃ j, j < 2 ^ k ∧ f_L_bits x b c = some (nI j) := by
  obtain ⟨j, hj, e⟩ := pk_andE (((Int32.toUInt32 x >>> (Int32.toUInt32 b &&& Int32.toUInt32 31)).toInt32)) k hm
  exact ⟨j, hj, congrArg some e⟩
/-- an act answers true, and what holds goes on to hold -/
def OKA (u : GU) (v : P_QV_Lysu) (r : Option (Int32 × P_QV_Lysu)) : Prop := ∃ g' Q' Y' S', r = some (1, (Q', (LysuHs (P_QV_LysuB v), Y', S', LysuU (P_QV_LysuB v)))) ∧ GI u g' ∧ CS g' S' ∧ YI Y' ∧ LQ u g' Q'
def AI (u : GU) (g : GS) (v : P_QV_Lysu) : Prop := GI u g ∧ CS g (LysuS (P_QV_LysuB v)) ∧ YI (LysuY (P_QV_LysuB v)) ∧ LQ u g (P_QV_LysuA v)
def UC (u : GU) (U : UV) : Prop := UI u ∧ NVCt (UVQs U) = nI (uQ u) ∧ NVCt (UVOs U) = nI (uO u) ∧ ∀ q, q < uQ u → UVSp U q = nI (uS u q)
theorem not01 : ¬ ¬ ((1 : Int32) = 0 ∨ (1 : Int32) = 1) := fun h => h (Or.inr rfl)
section AC
variable {u : GU} {g : GS} {v : P_QV_Lysu}
theorem OKA.same (hA : AI u g v) : OKA u v (some (1, v)) := ⟨g, P_QV_LysuA v, LysuY (P_QV_LysuB v), LysuS (P_QV_LysuB v), rfl, hA.1, hA.2.1, hA.2.2.1, hA.2.2.2⟩
/-- refused: nothing has changed -/
theorem refused (hA : AI u g v) {r : Option (Int32 × Lysu)} (h : r = some (1, P_QV_LysuB v)) : OKA u v (bnd2 r fun r1 w1 => if ¬ (r1 = 0 ∨ r1 = 1) then none else some (r1, (P_QV_Lysu_sB v w1))) := by
  rw [h, bnd2_some, if_neg not01]
  exact OKA.same hA
theorem ref_0 {w : Lysu} {b c : Int32} (h : f_X8_printNext w b = some (.inr "java/lang/IllegalStateException", w)) : f_L_isRefused w 0 b c = some (1, w) := by
  unfold f_L_isRefused
  rw [if_pos rfl, h, refX_ok]
theorem ref_1 {w : Lysu} {b c : Int32} (h : f_X8_cancel (LysuHs w, LysuY w, LysuS w) b = some (.inr "java/lang/IllegalStateException", (LysuHs w, LysuY w, LysuS w))) : f_L_isRefused w 1 b c = some (1, w) := by
  unfold f_L_isRefused
  rw [if_neg n10, if_pos rfl, h, refX_ok]
  rfl
theorem ref_2 {w : Lysu} {b c : Int32} (h : f_X8_changePriority (LysuHs w, LysuY w, LysuS w) b c = some (.inr "java/lang/IllegalStateException", (LysuHs w, LysuY w, LysuS w))) : f_L_isRefused w 2 b c = some (1, w) := by
  unfold f_L_isRefused
  rw [if_neg (by decide), if_neg (by decide), if_pos rfl, h, refX_ok]
  rfl
theorem ref_3 {w : Lysu} {b c : Int32} (h : f_X8_moveJob w b c = some (.inr "java/lang/IllegalStateException", w)) : f_L_isRefused w 3 b c = some (1, w) := by
  unfold f_L_isRefused
  rw [if_neg (by decide), if_neg (by decide), if_neg (by decide), if_pos rfl, h, refX_ok]
theorem ref_4 {w : Lysu} {b c : Int32} (h : f_X8_submit w 0 0 0 1 = some (.inr "java/lang/IllegalStateException", w)) : f_L_isRefused w 4 b c = some (1, w) := by
  unfold f_L_isRefused
  rw [if_neg (by decide), if_neg (by decide), if_neg (by decide), if_neg (by decide), h, refX_ok]
theorem a_submit (hU : UC u (LysuU (P_QV_LysuB v))) (hA : AI u g v) {q p : Nat} (hq : q < uQ u) (hp : p < 100) (x : Int32) : OKA u v (f_L_acts_j124 x (nI q) (nI p) v) := by
  obtain ⟨hI, hC, hY, hQ⟩ := hA
  obtain ⟨hU1, hu, ho, -⟩ := hU
  have hJ := hI.1
  unfold f_L_acts_j124
  rw [hQ.1.2.2]
  by_cases c : aJ g = 40
  · rw [if_pos (show nI (aJ g) = 40 by rw [c]; rfl)]
    exact refused ⟨hI, hC, hY, hQ⟩ (ref_4 (R_submit (q := 0) (o := 0) (p := 0) (n := 1) hI hC hu ho hU1.2.1 c (by have := hQ.2.1; omega) (by have := hQ.2.2.1; omega) (by decide) ⟨Nat.le_refl _, by decide⟩))
  · have j40 : aJ g < 40 := by omega
    obtain ⟨r1, hr1, e1⟩ := bits_n x 8 4 4 (by decide)
    obtain ⟨r2, hr2, e2⟩ := bits_n x 18 5 5 (by decide)
    have hO := hQ.2.2.1
    have ho1 : r1 % uO u < uO u := Nat.mod_lt _ (by omega)
    rw [if_neg (show ¬ nI (aJ g) = 40 from fun h => c ((nI_eq (b := 40) (by omega) (by decide)).mp h)), e1, Option.bind_some, hQ.1.2.1, if_neg (nI_ne0 (by omega) (by omega)), show nI (aJ g) + 1 - 1 = nI (aJ g) by rw [nI_1]; exact pk_sub (b := 1) (by omega)]
    simp only [if_neg (o40 j40), c40 j40]
    rw [e2, Option.bind_some, pk_rem (by omega) (by omega) (by omega), upd_eq, one_nI]
    obtain ⟨Y', S', k1, k2, k3⟩ := C_submit (n := 1 + r2) hI hC hY hu ho hU1.2.1 j40 hq ho1 hp (by omega)
    rw [k1, bnd0X_ok, if_pos rfl]
    have h := hQ.add (q := q) (o := r1 % uO u) (p := p) (n := 1 + r2)
    rw [hQ.1.2.2, hQ.1.2.1] at h
    exact ⟨_, _, Y', S', rfl, hI.add j40 hq hp (by omega), k2, k3, h⟩
theorem vnar (b : Bool) : vp_nar .boolean (b2i b) = b2i b := by
  cases b <;> decide +kernel
theorem a_hold (hU : UC u (LysuU (P_QV_LysuB v))) (hA : AI u g v) {q : Nat} (hq : q < uQ u) (b : Bool) : OKA u v (f_L_acts_j703 (nI q) (QVPs (P_QV_LysuA v) q) (b2i b) (nI q) v) := by
  obtain ⟨hI, hC, hY, hQ⟩ := hA
  obtain ⟨hU1, hu, ho, -⟩ := hU
  have q4 : q < 4 := by have := hQ.2.1; omega
  unfold f_L_acts_j703
  obtain ⟨Y', S', k1, k2, k3⟩ := C_setPaused hI hC hY hu b hq
  simp only [if_neg (lo4 q4), lc4 q4]
  rw [vnar, upd_eq, k1, bnd0X_ok, if_pos (hQ.2.2.2.2 q hq).2.2.2.symm]
  exact ⟨_, _, Y', S', rfl, hI.pa, k2, k3, hQ.hold⟩
theorem a_move (hU : UC u (LysuU (P_QV_LysuB v))) (hA : AI u g v) {q j : Nat} (hq : q < uQ u) (hj : j < aJ g) : OKA u v (f_L_acts_j521 (nI q) (nI j) v) := by
  have hA' := hA
  obtain ⟨hI, hC, hY, hQ⟩ := hA
  obtain ⟨hU1, hu, ho, -⟩ := hU
  have j40 : j < 40 := by have := hI.1; omega
  have q6' : q < 6 := by have := hQ.2.1; omega
  obtain ⟨a1, a2, a3, a4, a5⟩ := hQ.2.2.2.1 j hj
  unfold f_L_acts_j521
  simp only [if_neg (o40 j40), c40 j40]
  rw [if_pos (le40 j40), a4]
  by_cases c : aFt g j = 0
  · rw [if_neg (show ¬ (0 : Int32) < nI (aFt g j) from fun h => (i32nlt.mpr ((ft_le hI hj).mpr c)) h), a5 c]
    have hqj := q6 hI hj c
    by_cases d : aQu g j = q
    · rw [if_pos (congrArg nI d)]
      exact refused hA' (ref_3 (R_moveJob hI hC hu hj hq (Or.inr d)))
    · rw [if_neg (show ¬ nI (aQu g j) = nI q from fun h => d ((nI_eq (by omega) (by omega)).mp h))]
      obtain ⟨Y', S', k1, k2, k3⟩ := C_moveJob hI hC hY hu hj c hq d
      have hI2 : GI u (reG g j q (aPr g j)) := hI.re hj c hq (hI.2.2.2.2.1 j hj).2.1
      rw [k1, bnd0X_ok, l_first hI2 hQ.mov q6', Option.bind_some, if_pos (root_first hI2 q)]
      exact ⟨_, _, Y', S', rfl, hI2, k2, k3, hQ.mov⟩
  · rw [if_pos (show (0 : Int32) < nI (aFt g j) from Classical.byContradiction fun h => c ((ft_le hI hj).mp (i32nlt.mp h)))]
    exact refused hA' (ref_3 (R_moveJob hI hC hu hj hq (Or.inl c)))
theorem pos_n {pr : Nat → Nat} {i : Nat} : ∃ m, gPos pr g i = nI m ∧ m ≤ 1 * aJ g := sm_n (b := 1) (J := aJ g) (fun k _ => by
  by_cases c : wIn g (aQu g i) k ∧ prc pr k i = true
  · exact ⟨1, if_pos c, Nat.le_refl _⟩
  · exact ⟨0, if_neg c, by omega⟩)
theorem a_pri (hU : UC u (LysuU (P_QV_LysuB v))) (hA : AI u g v) {j p : Nat} (hj : j < aJ g) (hp : p < 100) : OKA u v (f_L_acts_j433 (nI j) (nI p) v) := by
  have hA' := hA
  obtain ⟨hI, hC, hY, hQ⟩ := hA
  have hJ := hI.1
  have j40 : j < 40 := by omega
  obtain ⟨a1, a2, a3, a4, a5⟩ := hQ.2.2.2.1 j hj
  unfold f_L_acts_j433
  simp only [if_neg (o40 j40), c40 j40]
  rw [if_pos (le40 j40), a4]
  by_cases c : aFt g j = 0
  · obtain ⟨m, em, hm⟩ := pos_n (g := g) (pr := uf (aPr g) j p) (i := j)
    rw [if_pos ((ft_le hI hj).mpr c), K_positionWith hI hC hj c hp, bnd0_ok, em, if_pos (show (0 : Int32) ≤ nI m from i32nlt.mp (nI_pos (by omega)))]
    obtain ⟨Y', S', k1, k2, k3⟩ := C_changePriority (hs := LysuHs (P_QV_LysuB v)) hI hC hY hj c hp
    rw [k1, bnd0X_ok, if_pos a2.symm]
    exact ⟨_, _, Y', S', rfl, hI.re hj c ((hI.2.2.2.2.1 j hj).1 c) hp, k2, k3, hQ.pri⟩
  · rw [if_neg (show ¬ nI (aFt g j) ≤ 0 from fun h => c ((ft_le hI hj).mp h))]
    exact refused hA' (ref_2 (R_changePriority hI hC hj c hp))
theorem a_print (hU : UC u (LysuU (P_QV_LysuB v))) (hA : AI u g v) {q : Nat} (hq : q < uQ u) : OKA u v (f_L_acts_j260 (nI q) v) := by
  have hA' := hA
  obtain ⟨hI, hC, hY, hQ⟩ := hA
  obtain ⟨hU1, hu, ho, -⟩ := hU
  have hJ := hI.1
  have q4 : q < 4 := by have := hQ.2.1; omega
  have q6' : q < 6 := by omega
  have hps := (hQ.2.2.2.2 q hq).2.2.2
  have hrf := root_first hI q
  unfold f_L_acts_j260
  simp only [if_neg (lo4 q4), lc4 q4]
  rw [l_first hI hQ q6', Option.bind_some, K_obstacle hI hC hu hq, bnd0_ok, hps, ← hrf]
  by_cases c : aPs g q = true
  · have ob : obG g q = 1 := if_pos c
    rw [c, if_neg (show ¬ b2i true = 0 from n10), ob, if_pos rfl, if_neg (show ¬ b2i true = 0 from n10)]
    exact refused hA' (ref_0 (R_printNext hI hC hu hq (by rw [ob]; exact n10)))
  · have cf : aPs g q = false := by
      cases e : aPs g q
      · rfl
      · exact absurd e c
    rw [cf, if_pos (show b2i false = 0 from rfl)]
    by_cases d : hv (aF g q) = -1
    · have ob : obG g q = 2 := (if_neg c).trans (if_pos d)
      rw [d, if_neg nle1, ob, if_pos rfl, if_pos (show b2i false = 0 from rfl), if_neg nle1]
      exact refused hA' (ref_0 (R_printNext hI hC hu hq (by rw [ob]; decide)))
    · have ob : obG g q = 0 := (if_neg c).trans (if_neg d)
      obtain ⟨i, hr, hi, hf, hqi⟩ := root_job hI d
      have i40 : i < 40 := by omega
      obtain ⟨Y', S', k1, k2, k3⟩ := C_printNext hI hC hY hu hq ob hr hi hf
      rw [hr]
      simp only [if_neg (o40 i40), c40 i40]
      rw [if_pos (le40 i40), ob, if_pos rfl, if_pos (show b2i false = 0 from rfl), if_pos (le40 i40), k1, bnd0X_ok, if_pos rfl]
      exact ⟨_, _, Y', S', rfl, hI.fin hi hf (Or.inl rfl), k2, k3, hQ.end1 hi hqi hq⟩
theorem joQ_s {Q : QV} {a b k : Nat} (c : wIn g a k) : QV_sQu (joQ g Q a b k) (upd (QVQu (joQ g Q a b k)) k (nI b)) = joQ g Q a b (k + 1) := by
  refine congrArg (QV_sQu Q) (funext fun j => ?_)
  show upd (fun j => if j < k ∧ wIn g a j then nI b else QVQu Q j) k (nI b) j = if j < k + 1 ∧ wIn g a j then nI b else QVQu Q j
  by_cases e : j = k
  · rw [e, upd_eq, if_pos ⟨by omega, c⟩]
  · rw [upd_ne e]
    by_cases d : j < k ∧ wIn g a j
    · rw [if_pos d, if_pos ⟨by omega, d.2⟩]
    · rw [if_neg d, if_neg (fun h => d ⟨by omega, h.2⟩)]
theorem joQ_n {Q : QV} {a b k : Nat} (c : ¬ wIn g a k) : joQ g Q a b k = joQ g Q a b (k + 1) := by
  refine congrArg (QV_sQu Q) (funext fun j => ?_)
  by_cases d : j < k ∧ wIn g a j
  · rw [if_pos d, if_pos ⟨by omega, d.2⟩]
  · rw [if_neg d, if_neg]
    intro h
    by_cases e : j = k
    · exact c (e ▸ h.2)
    · exact d ⟨by omega, h.2⟩
theorem h619_ok {B : Lysu} (hI : GI u g) (hC : CS g (LysuS B)) (hY : YI (LysuY B)) (hU : UC u (LysuU B)) {Q : QV} (hQ : LQ u g Q) {a b : Nat} (ha : a < uQ u) (hb : b < uQ u) (hab : a ≠ b) {l2 l4 l5 : Int32} : ∀ (m n k : Nat), aJ g - k = m → m < n → k ≤ aJ g → OKA u (Q, B) (f_L_acts_h619 n l2 (nI a) l4 l5 (nI b) (nI k) (joQ g Q a b k, B)) := by
  have hJ := hI.1
  have hQ4 := hQ.2.1
  intro m
  induction m with
  | zero =>
    intro n k hm hn hk
    obtain ⟨n, rfl⟩ : ∃ m, n = m + 1 := ⟨n - 1, by omega⟩
    have e : k = aJ g := by omega
    subst e
    have hI2 : GI u (joG g a b) := hI.jo hb hab
    obtain ⟨Y', S', k1, k2, k3⟩ := C_mergeQueues hI hC hY hU.2.1 ha hb hab
    rw [f_L_acts_h619, show QVJb (P_QV_LysuA (joQ g Q a b (aJ g), B)) = nI (aJ g) from hQ.1.2.2, if_pos (nI_le (Nat.le_refl _) (by omega)), show f_X8_mergeQueues (P_QV_LysuB (joQ g Q a b (aJ g), B)) (nI a) (nI b) = _ from k1, bnd0X_ok, show f_L_size (P_QV_LysuA (joQ g Q a b (aJ g), B)) (nI b) = _ from l_size hI2 hQ.join (by omega), Option.bind_some, if_pos rfl]
    exact ⟨_, _, Y', S', rfl, hI2, k2, k3, hQ.join⟩
  | succ m ih =>
    intro n k hm hn hk
    obtain ⟨n, rfl⟩ : ∃ m, n = m + 1 := ⟨n - 1, by omega⟩
    have hk' : k < aJ g := by omega
    have k40 : k < 40 := by omega
    have h := ih n (k + 1) (by omega) (by omega) (by omega)
    have hin : f_L_isIn (P_QV_LysuA (joQ g Q a b k, B)) (nI k) (nI a) = some (w1 g a k) :=
      (isIn_at (Q := Q) (Q' := joQ g Q a b k) k40 rfl (if_neg (fun h => absurd h.1 (Nat.lt_irrefl k)))).trans (l_isIn hI hQ hk' (by omega))
    rw [f_L_acts_h619, show QVJb (P_QV_LysuA (joQ g Q a b k, B)) = nI (aJ g) from hQ.1.2.2, if_neg (nI_ge hk' (by omega)), hin, Option.bind_some, nI_1]
    by_cases c : wIn g a k
    · rw [if_neg (w1_0 c), if_neg (o40 k40), c40 k40]
      show OKA u (Q, B) (f_L_acts_h619 n l2 (nI a) l4 l5 (nI b) (nI (k + 1)) (QV_sQu (joQ g Q a b k) (upd (QVQu (joQ g Q a b k)) k (nI b)), B))
      rw [joQ_s c]
      exact h
    · rw [if_pos (w1_1 c), joQ_n c]
      exact h
theorem a_none (hA : AI u g v) (h0 : aJ g = 0) : OKA u v ((f_X8_jobCount ((LysuHs (P_QV_LysuB v)), (LysuS (P_QV_LysuB v)))).bind fun r => if r = 0 then some (1, v) else some (0, v)) := by
  rw [K_jobs hA.2.1, Option.bind_some, if_pos (show nI (aJ g) = 0 by rw [h0]; rfl)]
  exact OKA.same hA
theorem a_36 (hU : UC u (LysuU (P_QV_LysuB v))) (hA : AI u g v) {q : Nat} (hq : q < uQ u) {s0 : Int32} (hs : (aJ g = 0 ∧ s0 = -1) ∨ ∃ j, j < aJ g ∧ s0 = nI j) (x : Int32) : OKA u v (f_L_acts_j36 x (nI q) s0 v) := by
  have hA' := hA
  obtain ⟨hI, hC, hY, hQ⟩ := hA
  have hJ := hI.1
  have hQ4 := hQ.2.1
  have q4 : q < 4 := by omega
  obtain ⟨p, hp, e1⟩ := bits_n x 14 4 4 (by decide)
  obtain ⟨d, hd, e2⟩ := bits_n x 0 4 4 (by decide)
  have hp' : p * 5 < 100 := by omega
  have k1 : ∀ j, j < aJ g → s0 = nI j → OKA u v (f_L_acts_j433 s0 (nI (p * 5)) v) := fun j hj e => by
    rw [e]
    exact a_pri hU hA' hj hp'
  have s433 : OKA u v (f_L_acts_j433 s0 (nI (p * 5)) v) := by
    rcases hs with ⟨h0, rfl⟩ | ⟨j, hj, rfl⟩
    · unfold f_L_acts_j433
      rw [if_neg nle1]
      exact a_none hA' h0
    · exact a_pri hU hA' hj hp'
  have s521 : OKA u v (f_L_acts_j521 (nI q) s0 v) := by
    rcases hs with ⟨h0, rfl⟩ | ⟨j, hj, rfl⟩
    · unfold f_L_acts_j521
      rw [if_neg nle1]
      exact a_none hA' h0
    · exact a_move hU hA' hq hj
  unfold f_L_acts_j36
  rw [e1, Option.bind_some, e2, Option.bind_some, show nI p * 5 = nI (p * 5) from pk_mul p 5]
  by_cases h0 : nI d = 0
  · rw [if_pos h0]
    exact a_submit hU hA' hq hp' x
  rw [if_neg h0]
  by_cases h1 : nI d = 1
  · rw [if_pos h1]
    exact a_submit hU hA' hq hp' x
  rw [if_neg h1]
  by_cases h2 : nI d = 2
  · rw [if_pos h2]
    exact a_submit hU hA' hq hp' x
  rw [if_neg h2]
  by_cases h3 : nI d = 3
  · rw [if_pos h3]
    exact a_submit hU hA' hq hp' x
  rw [if_neg h3]
  by_cases h4 : nI d = 4
  · rw [if_pos h4]
    exact a_submit hU hA' hq hp' x
  rw [if_neg h4]
  by_cases h5 : nI d = 5
  · rw [if_pos h5]
    exact a_submit hU hA' hq hp' x
  rw [if_neg h5]
  by_cases h6 : nI d = 6
  · rw [if_pos h6]
    exact a_print hU hA' hq
  rw [if_neg h6]
  by_cases h7 : nI d = 7
  · rw [if_pos h7]
    exact a_print hU hA' hq
  rw [if_neg h7]
  by_cases h8 : nI d = 8
  · rw [if_pos h8]
    rcases hs with ⟨h0, rfl⟩ | ⟨j, hj, rfl⟩
    · rw [if_neg nle1]
      exact a_none hA' h0
    · have j40 : j < 40 := by omega
      obtain ⟨a1, a2, a3, a4, a5⟩ := hQ.2.2.2.1 j hj
      simp only [if_neg (o40 j40), c40 j40]
      rw [if_pos (le40 j40), a4]
      by_cases c : aFt g j = 0
      · obtain ⟨Y', S', k1, k2, k3⟩ := C_cancel (hs := LysuHs (P_QV_LysuB v)) hI hC hY hj c
        have hI2 : GI u (endG g j 2) := hI.fin hj c (Or.inr rfl)
        rw [if_pos ((ft_le hI hj).mpr c), k1, bnd0X_ok, a5 c, l_size hI2 hQ.end2 (q6 hI hj c), Option.bind_some, if_pos rfl]
        exact ⟨_, _, Y', S', rfl, hI2, k2, k3, hQ.end2⟩
      · rw [if_neg (show ¬ nI (aFt g j) ≤ 0 from fun h => c ((ft_le hI hj).mp h))]
        exact refused hA' (ref_1 (R_cancel hI hC hj c))
  rw [if_neg h8]
  by_cases h9 : nI d = 9
  · rw [if_pos h9]
    exact s433
  rw [if_neg h9]
  by_cases h10 : nI d = 10
  · rw [if_pos h10]
    exact s433
  rw [if_neg h10]
  by_cases h11 : nI d = 11
  · rw [if_pos h11]
    exact s521
  rw [if_neg h11]
  by_cases h12 : nI d = 12
  · rw [if_pos h12]
    exact s521
  rw [if_neg h12]
  by_cases h13 : nI d = 13
  · rw [if_pos h13]
    have hm : (q + 1) % uQ u < uQ u := Nat.mod_lt _ (by omega)
    rw [hQ.1.1, if_neg (nI_ne0 (by omega) (by omega)), nI_1, pk_rem (by omega) (by omega) (by omega)]
    by_cases c : (q + 1) % uQ u = q
    · rw [if_pos (congrArg nI c)]
      exact OKA.same hA'
    · rw [if_neg (show ¬ nI ((q + 1) % uQ u) = nI q from fun h => c ((nI_eq (by omega) (by omega)).mp h))]
      have h := h619_ok (B := P_QV_LysuB v) (l2 := x) (l4 := s0) (l5 := nI (p * 5)) hI hC hY hU hQ hq hm (fun h => c h.symm) (aJ g) FU 0 rfl (FUbig hI) (Nat.zero_le _)
      rw [joQ_0] at h
      exact h
  rw [if_neg h13]
  obtain ⟨t, ht, e3⟩ := bits_n x 8 2 2 (by decide)
  rw [if_neg (lo4 q4), lc4 q4, e3, Option.bind_some]
  by_cases c : nI t = 0
  · rw [if_pos c]
    exact a_hold hU hA' hq true
  · rw [if_neg c]
    exact a_hold hU hA' hq false
theorem acts_ok (hU : UC u (LysuU (P_QV_LysuB v))) (hA : AI u g v) (x : Int32) : OKA u v (f_L_acts v x) := by
  have hA' := hA
  obtain ⟨hI, hC, hY, hQ⟩ := hA
  have hJ := hI.1
  have hQ4 := hQ.2.1
  obtain ⟨q, hq, e1⟩ := bits_n x 4 4 4 (by decide)
  unfold f_L_acts
  have hm : q % uQ u < uQ u := Nat.mod_lt _ (by omega)
  rw [e1, Option.bind_some, hQ.1.1, if_neg (nI_ne0 (by omega) (by omega)), hQ.1.2.2, pk_rem (by omega) (by omega) (by omega)]
  by_cases c : aJ g = 0
  · rw [if_pos (show nI (aJ g) = 0 by rw [c]; rfl)]
    exact a_36 hU hA' hm (Or.inl ⟨c, rfl⟩) x
  · obtain ⟨j, hj, e2⟩ := bits_n x 8 6 6 (by decide)
    rw [if_neg (show ¬ nI (aJ g) = 0 from nI_ne0 (by omega) (by omega)), e2, Option.bind_some, if_neg (nI_ne0 (by omega) (by omega)), pk_rem (by omega) (by omega) (by omega)]
    exact a_36 hU hA' hm (Or.inr ⟨j % aJ g, Nat.mod_lt _ (by omega), rfl⟩) x
end AC
