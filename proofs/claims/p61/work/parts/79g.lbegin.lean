/-! ===== 79g: the law begins; its text is built (gen79g.py) ===== -/
theorem iof_one (k : Nat) : iof [0] [] 1 k = k := by
  unfold iof
  by_cases h : k < 1
  · have e : k = 0 := by omega
    subst e
    rfl
  · rw [show Nat.blt k [0].length = false from blt_no h]
    by_cases h2 : k < SB
    · rw [show Nat.blt k SB = true from Nat.ble_eq_true_of_le h2]
      show 1 + (k - 1) = k
      omega
    · rw [blt_no h2]
      by_cases h3 : k < SD
      · rw [show Nat.blt k SD = true from Nat.ble_eq_true_of_le h3]
        rfl
      · rw [blt_no h3]
        rfl
theorem cvV_id : cvV id = id := by
  funext v
  cases v <;> rfl
theorem cvE_id (c : AC) : cvE id id c = c := by
  rcases c with ⟨k, n, a⟩ | ⟨ci, fs⟩
  · rcases a with g | g | g | g | g
    · rfl
    · rfl
    · rfl
    · rfl
    · show (Sum.inl (k, n, Sum.inr (Sum.inr (Sum.inr (Sum.inr fun j => (g j).map id)))) : va_E) = _
      have e : (fun j => (g j).map id) = g := by
        funext j
        cases g j <;> rfl
      rw [e]
  · show (Sum.inr (ci, fs.map (cvV id)) : va_E) = _
    rw [cvV_id, List.map_id]
theorem grow_one {c : AC} {W2 : List AC} (h : 0 < W2.length) : grow [c] [0] [] W2 = W2 := by
  have e : rnE (iof [0] [] [c].length) = id := by
    funext x
    show cvE id (iof [0] [] 1) x = x
    rw [show iof [0] [] 1 = id from funext iof_one]
    exact cvE_id x
  unfold grow
  rw [e, List.map_id, List.map_id]
  cases W2 with
  | nil => cases h
  | cons a t => rfl
theorem grow_app {AH : List AC} {n : Nat} (hn : AH.length = n) {c x : AC} {t : List AC} : grow (AH ++ [c]) [n] [] (x :: t) = AH ++ (x :: t).map (rnE (iof [n] [] (n + 1))) := by
  subst hn
  have e : (AH ++ [c]).length = AH.length + 1 := by simp
  unfold grow
  rw [e]
  show putB (AH ++ [c]) [AH.length] [rnE (iof [AH.length] [] (AH.length + 1)) x] ++ t.map _ = _
  show (AH ++ [c]).set AH.length (rnE (iof [AH.length] [] (AH.length + 1)) x) ++ t.map _ = _
  rw [List.set_append_right _ _ (Nat.le_refl _), Nat.sub_self]
  simp
theorem AW.widen {κ : KX} {Q : State → Prop} {pc : Nat} {ls : List (Option Value)} {st : List Value} {AH : List AC} {nc ns nc' ns' : Nat} (h1 : nc ≤ nc') (h2 : ns ≤ ns') (k : AW κ Q pc ls st AH nc' ns') : AW κ Q pc ls st AH nc ns := by
  obtain ⟨p, l, e, R, s, m, args, below, meth, c, D, cA, A, n0, ad0⟩ := κ
  intro ad H locs lsA g1 g2 g3 hP hD hS hL
  exact W.widen h1 h2 (k ad H locs lsA g1 g2 g3 hP hD hS hL)
abbrev W6 (x i : Int32) : List (Option Value) := [some (.ref (SB + 201)), some (.ref 0), some (.ref 190), some (.int x), some (.ref 199), some (.int i)]
theorem w6_cl {x i : Int32} {N : Nat} (h : 199 < N) : cloL N (W6 x i) = true := cl_cons cl_sb (cl_cons (cloV_lt (by omega)) (cl_cons (cloV_lt (by omega)) (cl_cons rfl (cl_cons (cloV_lt h) (cl_cons rfl rfl)))))
theorem FOKt {hs : Int32} {R : RV} {T : TV} {O : OV} {Y : YV} {S C K : SV} {U D : UV} {V : QV} : FOK (LAt hs R T O Y S C K U D V) := ⟨la_len_t, la_clo_t⟩
theorem clo_snoc {A : List AC} {n : Nat} {c : AC} (hl : A.length = n) (h : ∀ c ∈ A, cloE n c) (hc : cloE (n + 1) c) : ∀ d ∈ A ++ [c], cloE (A ++ [c]).length d := by
  have e : (A ++ [c]).length = n + 1 := by rw [List.length_append, hl]; rfl
  rw [e]
  intro d hd
  rcases List.mem_append.mp hd with hd | hd
  · exact cloE_mono (Nat.le_succ n) (h d hd)
  · rw [List.mem_singleton] at hd
    rw [hd]
    exact hc
section RULES
variable {κ : KX} {Q : State → Prop} {z : MZ} {pc nc ns : Nat} {ls : List (Option Value)} {rest : List Value} {AH : List AC}
theorem r_putI (X : CX κ z) {index ci kk o : Nat} {fs : List Value} {x : Int32} {r9 : vw_C} {tf : Nat → FieldType} (hd : fetch (zC z) pc = some (.putfield index, 3)) (hF : fget (zF z) index = some (ci, kk)) (ha : AH[o]? = some (.inr (ci, fs))) (hr : vwCl[ci]? = some r9) (htf : vwTy[ci]? = some tf) (hfin : (r9.2.1 kk).2.2.2 = false) (hty : tf kk = .int) (hl : kk < fs.length) (k : AW κ Q (pc + 3) ls rest (AH.set o (.inr (ci, fs.set kk (.int x)))) nc ns) : AW κ Q pc ls (.int x :: .ref o :: rest) AH nc ns :=
  s_put X (cxdec X hd) (fget_mem hF) ha hr htf hfin (fun ad => by rw [hty]; exact ⟨rfl, rfl⟩) hl k
theorem r_getA (X : CX κ z) {index ci kk o : Nat} {fs : List Value} {v : Value} (hd : fetch (zC z) pc = some (.getfield index, 3)) (hF : fget (zF z) index = some (ci, kk)) (ha : AH[o]? = some (.inr (ci, fs))) (hv : fs[kk]? = some v) (k : AW κ Q (pc + 3) ls (v :: rest) AH nc ns) : AW κ Q pc ls (.ref o :: rest) AH nc ns := by
  refine go 1 X (pc2 := pc + 3) (ls2 := ls) (st2 := v :: rest) (AH2 := AH) ?_ k
  simp only [run, hd, step1, hF, ha, hv, if_true]
  rfl
end RULES
def lawO (V : QV) : List Value := [.ref 191, .ref 192, .ref 193, .ref 194, .ref 195, .ref 196, .ref 197, .ref 198, .int (QVNq V), .int (QVNo V), .int (QVJb V), .int (QVSn V)]
section LT
variable {hs : Int32} {R : RV} {T : TV} {O : OV} {Y : YV} {S C K : SV} {U D : UV} {V : QV} {tl : List AC}
set_option maxRecDepth 20000 in
set_option maxHeartbeats 4000000 in
theorem lt_190 : (LAt hs R T O Y S C K U D V)[190]? = some (.inr (9, lawO V)) := rfl
set_option maxRecDepth 20000 in
set_option maxHeartbeats 4000000 in
theorem lt_196 : (LAt hs R T O Y S C K U D V)[196]? = some (.inl (0, 4, .inl (QVSp V))) := rfl
set_option maxRecDepth 20000 in
set_option maxHeartbeats 4000000 in
theorem lt_setNq (x : Int32) : (LAt hs R T O Y S C K U D V).set 190 (.inr (9, lawO (QV_sNq V x))) = LAt hs R T O Y S C K U D (QV_sNq V x) :=
  (putB_bld (ι := [190]) (AH := LAt hs R T O Y S C K U D V) (cs := [.inr (9, lawO (QV_sNq V x))]) (s := [none, none, none, none, none, none, none, none, none, none, none, none, none, none, none, none, none, none, none, none, none, none, none, none, none, none, none, none, none, none, none, none, none, none, none, none, none, none, none, none, none, none, none, none, none, none, none, none, none, none, none, none, none, none, none, none, none, none, none, none, none, none, none, none, none, none, none, none, none, none, none, none, none, none, none, none, none, none, none, none, none, none, none, none, none, none, none, none, none, none, none, none, none, none, none, none, none, none, none, none, none, none, none, none, none, none, none, none, none, none, none, none, none, none, none, none, none, none, none, none, none, none, none, none, none, none, none, none, none, none, none, none, none, none, none, none, none, none, none, none, none, none, none, none, none, none, none, none, none, none, none, none, none, none, none, none, none, none, none, none, none, none, none, none, none, none, none, none, none, none, none, none, none, none, none, none, none, none, none, none, none, none, none, none, none, none, none, none, none, none, some 0, none, none, none, none, none, none, none, none]) (by decide +kernel) rfl rfl).trans rfl
set_option maxRecDepth 20000 in
set_option maxHeartbeats 4000000 in
theorem lt_setNo (x : Int32) : (LAt hs R T O Y S C K U D V).set 190 (.inr (9, lawO (QV_sNo V x))) = LAt hs R T O Y S C K U D (QV_sNo V x) :=
  (putB_bld (ι := [190]) (AH := LAt hs R T O Y S C K U D V) (cs := [.inr (9, lawO (QV_sNo V x))]) (s := [none, none, none, none, none, none, none, none, none, none, none, none, none, none, none, none, none, none, none, none, none, none, none, none, none, none, none, none, none, none, none, none, none, none, none, none, none, none, none, none, none, none, none, none, none, none, none, none, none, none, none, none, none, none, none, none, none, none, none, none, none, none, none, none, none, none, none, none, none, none, none, none, none, none, none, none, none, none, none, none, none, none, none, none, none, none, none, none, none, none, none, none, none, none, none, none, none, none, none, none, none, none, none, none, none, none, none, none, none, none, none, none, none, none, none, none, none, none, none, none, none, none, none, none, none, none, none, none, none, none, none, none, none, none, none, none, none, none, none, none, none, none, none, none, none, none, none, none, none, none, none, none, none, none, none, none, none, none, none, none, none, none, none, none, none, none, none, none, none, none, none, none, none, none, none, none, none, none, none, none, none, none, none, none, none, none, none, none, none, none, some 0, none, none, none, none, none, none, none, none]) (by decide +kernel) rfl rfl).trans rfl
set_option maxRecDepth 20000 in
set_option maxHeartbeats 4000000 in
theorem lt_setSp (f : Nat → Int32) : (LAt hs R T O Y S C K U D V).set 196 (.inl (0, 4, .inl f)) = LAt hs R T O Y S C K U D (QV_sSp V f) :=
  (putB_bld (ι := [196]) (AH := LAt hs R T O Y S C K U D V) (cs := [.inl (0, 4, .inl f)]) (s := [none, none, none, none, none, none, none, none, none, none, none, none, none, none, none, none, none, none, none, none, none, none, none, none, none, none, none, none, none, none, none, none, none, none, none, none, none, none, none, none, none, none, none, none, none, none, none, none, none, none, none, none, none, none, none, none, none, none, none, none, none, none, none, none, none, none, none, none, none, none, none, none, none, none, none, none, none, none, none, none, none, none, none, none, none, none, none, none, none, none, none, none, none, none, none, none, none, none, none, none, none, none, none, none, none, none, none, none, none, none, none, none, none, none, none, none, none, none, none, none, none, none, none, none, none, none, none, none, none, none, none, none, none, none, none, none, none, none, none, none, none, none, none, none, none, none, none, none, none, none, none, none, none, none, none, none, none, none, none, none, none, none, none, none, none, none, none, none, none, none, none, none, none, none, none, none, none, none, none, none, none, none, none, none, none, none, none, none, none, none, none, none, none, none, none, none, some 0, none, none]) (by decide +kernel) rfl rfl).trans rfl
theorem ta_190 : (LAt hs R T O Y S C K U D V ++ tl)[190]? = some (.inr (9, lawO V)) := (List.getElem?_append_left (by rw [la_len_t]; decide)).trans lt_190
theorem ta_196 : (LAt hs R T O Y S C K U D V ++ tl)[196]? = some (.inl (0, 4, .inl (QVSp V))) := (List.getElem?_append_left (by rw [la_len_t]; decide)).trans lt_196
theorem ts_Sp (f : Nat → Int32) : (LAt hs R T O Y S C K U D V ++ tl).set 196 (.inl (0, 4, .inl f)) = LAt hs R T O Y S C K U D (QV_sSp V f) ++ tl := by
  rw [List.set_append_left _ _ (by rw [la_len_t]; decide), lt_setSp]
end LT
section LAWB
variable {κ : KX} {Q : State → Prop} {nm : String} {L : Nat} {xs : Nat → Int32} {pc nc ns : Nat} {ls : List (Option Value)} {rest : List Value} {AH : List AC}
theorem lw_cell (X : CX κ (z_W nm)) (SX : SCX κ L xs) (hR : κR κ = room_1) (hL : L ≤ 260) {k : Nat} (hk : k < 1000) (hd : fetch (zC (z_W nm)) pc = some (.invokestatic 200, 3)) (hsum : csum rest ≤ 8) (hnc : nc ≤ 600086) (hns : ns ≤ 7301442) (kk : ∀ x, AW κ Q (pc + 3) ls (.int x :: rest) AH nc ns) : AW κ Q pc ls (.int (nI k) :: .ref (SB + 201) :: rest) AH nc ns := by
  refine r_callSs X SX [] [] (As := [.ref (SB + 201), .int (nI k)]) (rest := rest) (c_L_cell hL hk) ⟨rfl, rfl⟩ hd k_L_cell m_LW_200 rfl ?_ (fitR hR (by decide) (by decide) hnc hns) hsum (Nat.zero_le _) (fun _ _ h => by rw [h.2]) (fun v A2 hp => ?_) (fun E A2 hp => ?_)
  · show _ = [Value.int (nI k), .ref (iof [] [] _ (SB + 201))] ++ rest
    rw [iof_sb (Nat.le_add_right _ _) (by unfold SD; omega) (Nat.zero_le _)]
    rfl
  · obtain ⟨⟨x, ev⟩, rfl⟩ := hp
    cases ev
    exact kk x
  · obtain ⟨⟨x, ev⟩, -⟩ := hp
    cases ev
theorem lw_bits (X : CX κ (z_W nm)) (hR : κR κ = room_1) {x b c : Int32} {k : Nat} (hm : ((1 <<< (c &&& 31)) - 1 : Int32).toBitVec.toNat = 2 ^ k - 1) (hd : fetch (zC (z_W nm)) pc = some (.invokestatic 86, 3)) (hsum : csum rest ≤ 8) (hnc : nc ≤ 600086) (hns : ns ≤ 7301442) (kk : ∀ j, j < 2 ^ k → AW κ Q (pc + 3) ls (.int (nI j) :: rest) AH nc ns) : AW κ Q pc ls (.int c :: .int b :: .int x :: rest) AH nc ns := by
  obtain ⟨j, hj, e⟩ := bits_n x b c k hm
  exact q_callS X [] [] (As := [.int x, .int b, .int c]) (rest := rest) (AH2 := AH) (st2 := .int (nI j) :: rest) (c_L_bits _ _ _ _ e) ⟨rfl, rfl⟩ hd k_L_bits l_L_86 rfl rfl (fitR hR (by decide) (by decide) hnc hns) hsum (Nat.zero_le _) rfl rfl rfl (kk j hj)
end LAWB
