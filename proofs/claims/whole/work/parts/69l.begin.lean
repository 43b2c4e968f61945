/-! ===== 69l: the law from its entry to its loop (gen69l.py) ===== -/
theorem iof_one (k : Nat) : iof [0] [] 1 k = k := by
  unfold iof
  by_cases h : k < 1
  · have e : k = 0 := by omega
    subst e
    rfl
  · rw [show Nat.blt k [0].length = false from blt_no h]
    by_cases h2 : k < SB
    · rw [show Nat.blt k SB = true from Nat.ble_eq_true_of_le h2]
      show 1 + (k - 1) = k
      omega
    · rw [blt_no h2]
      by_cases h3 : k < SD
      · rw [show Nat.blt k SD = true from Nat.ble_eq_true_of_le h3]
        rfl
      · rw [blt_no h3]
        rfl
theorem cvV_id : cvV id = id := by
  funext v
  cases v <;> rfl
theorem cvE_id (c : AC) : cvE id id c = c := by
  rcases c with ⟨k, n, a⟩ | ⟨ci, fs⟩
  · rcases a with g | g | g | g | g
    · rfl
    · rfl
    · rfl
    · rfl
    · show (Sum.inl (k, n, Sum.inr (Sum.inr (Sum.inr (Sum.inr fun j => (g j).map id)))) : va_E) = _
      have e : (fun j => (g j).map id) = g := by
        funext j
        cases g j <;> rfl
      rw [e]
  · show (Sum.inr (ci, fs.map (cvV id)) : va_E) = _
    rw [cvV_id, List.map_id]
theorem grow_one {c : AC} {W2 : List AC} (h : 0 < W2.length) : grow [c] [0] [] W2 = W2 := by
  have e : rnE (iof [0] [] [c].length) = id := by
    funext x
    show cvE id (iof [0] [] 1) x = x
    rw [show iof [0] [] 1 = id from funext iof_one]
    exact cvE_id x
  unfold grow
  rw [e, List.map_id, List.map_id]
  cases W2 with
  | nil => cases h
  | cons a t => rfl
theorem grow_app {AH : List AC} {n : Nat} (hn : AH.length = n) {c x : AC} {t : List AC} : grow (AH ++ [c]) [n] [] (x :: t) = AH ++ (x :: t).map (rnE (iof [n] [] (n + 1))) := by
  subst hn
  have e : (AH ++ [c]).length = AH.length + 1 := by simp
  unfold grow
  rw [e]
  show putB (AH ++ [c]) [AH.length] [rnE (iof [AH.length] [] (AH.length + 1)) x] ++ t.map _ = _
  show (AH ++ [c]).set AH.length (rnE (iof [AH.length] [] (AH.length + 1)) x) ++ t.map _ = _
  rw [List.set_append_right _ _ (Nat.le_refl _), Nat.sub_self]
  simp
def jb0 : Nat → Int32 := z0
def jb1 : Nat → Int32 := upd jb0 0 0
def jb2 : Nat → Int32 := upd jb1 1 0
def jb3 : Nat → Int32 := upd jb2 2 50
def jb4 : Nat → Int32 := upd jb3 3 10
def jb5 : Nat → Int32 := upd jb4 4 0
def jb6 : Nat → Int32 := upd jb5 5 1
def jb7 : Nat → Int32 := upd jb6 6 30
def jb8 : Nat → Int32 := upd jb7 7 4
def jb9 : Nat → Int32 := upd jb8 8 0
def jb10 : Nat → Int32 := upd jb9 9 0
def jb11 : Nat → Int32 := upd jb10 10 70
def jb12 : Nat → Int32 := upd jb11 11 25
def jb13 : Nat → Int32 := upd jb12 12 0
def jb14 : Nat → Int32 := upd jb13 13 1
def jb15 : Nat → Int32 := upd jb14 14 40
def jb16 : Nat → Int32 := upd jb15 15 8
def jb17 : Nat → Int32 := upd jb16 16 1
def jb18 : Nat → Int32 := upd jb17 17 0
def jb19 : Nat → Int32 := upd jb18 18 20
def jb20 : Nat → Int32 := upd jb19 19 3
def jb21 : Nat → Int32 := upd jb20 20 1
def jb22 : Nat → Int32 := upd jb21 21 1
def jb23 : Nat → Int32 := upd jb22 22 60
def jb24 : Nat → Int32 := upd jb23 23 6
def HINI : Prop := (∀ (v : RV) (a : Nat) (r : Unit) (w : RV) (h : f_X4_appendText v a = some (r, w)) (hs_a : a < nStr), Sem z_X4_appendText 7 0 0 [.ref 0, .ref (SB + a)] (WR v) (PST (.inl none) (WR w))) ∧ (∀ (v : Lrcd) (r : Int32) (w : Lrcd) (h : f_X8_readSetup v = some (r, w)), Sem z_X8_readSetup 9 0 0 [.ref 0] (WLrcd v) (PST (.inl (some (.int r))) (WLrcd w))) ∧ (∀ (v : Lyscud) (r : Unit) (w : Lyscud) (h : f_X8_adoptDraft v = some (r, w)), Sem z_X8_adoptDraft 4 0 0 [.ref 0] (WLyscud v) (PST (.inl none) (WLyscuds w))) ∧ (∀ (w : MV) (h : ini9 mv00 = some ((), w)), Sem z_X9_init 65 10 6560 [.ref 0] [.inr (9, [.null, .null, .null, .null, .int 0, .int 0, .int 0, .null, .int 0, .null, .int 0, .int 0, .int 0, .int 0, .int 0, .int 0, .int 0, .int 0, .int 0, .null, .int 0, .null, .null, .int 0])] (PST (.inl none) (WM w ++ [.inl (0, 24, .inl jb24)])))
set_option maxHeartbeats 8000000 in
set_option maxRecDepth 20000 in
theorem law_begin {κ : KX} {Q : State → Prop} {nm : String} (X : CX κ (z_W_h nm)) (hR : κR κ = room_1) {L : Nat} {xs : Nat → Int32} (SX : SCX κ L xs) (hL : L ≤ 3072) (hT : H_th) (HA : HALL) (HJ : HINI) (hend : ∀ (i : Int32) (AH : List AC) (nc ns : Nat), nc ≤ 601024 → ns ≤ 7293034 → AW κ Q 3136 (L0 i) [] AH nc ns) : AW κ Q 0 [some (.ref (SB + 201)), none, none, none, none, none, none, none, none] [] [] 0 0 := by
  obtain ⟨R1, R2, R3, R4, C1, S1, D1, Y1, w, a1, a2, a3, a4, a5, a6, hA⟩ := both_start
  obtain ⟨HJ1, HJ2, HJ3, HJ4⟩ := HJ
  refine r_new X 8 (fs := [.null, .null, .null, .null, .null, .null, .null, .int 0, .null, .null]) rfl rfl rfl (show (inALL (.classLink RL 8 "LeftistSpooler") && (inALL (.instantiable "LeftistSpooler" 10) && inALL (.initialized "LeftistSpooler"))) = true from by decide +kernel) (fun j hj => by match j, hj with | 0, _ => rfl | 1, _ => rfl | 2, _ => rfl | 3, _ => rfl | 4, _ => rfl | 5, _ => rfl | 6, _ => rfl | 7, _ => rfl | 8, _ => rfl | 9, _ => rfl | n + 10, h => exact absurd (show n + 10 < 10 from h) (by omega)) rfl ⟨clo_all rfl, rfl, rfl⟩ (by decide) (by rw [hR]; exact Nat.le_of_ble_eq_true rfl) (by rw [hR]; exact Nat.le_of_ble_eq_true rfl) ?_
  refine AW.eq (pc' := 3) (ls' := [some (.ref (SB + 201)), none, none, none, none, none, none, none, none]) (st' := [.ref 0]) (AH' := [.inr (8, [.null, .null, .null, .null, .null, .null, .null, .int 0, .null, .null])]) ?_ rfl rfl rfl rfl
  refine go_s 1 X (pc2 := 4) (st2 := [.ref 0, .ref 0]) rfl ?_
  refine r_init X [0] [] (o := 0) (k9 := 189) (c_X8_init HJ1 HJ2 HJ3 a1 a2 a3 a4 a5) ⟨rfl, rfl⟩ rfl k_X8_init l_L_146 rfl (fitL hR (by decide) (by decide) (Nat.le_of_ble_eq_true rfl) (Nat.le_of_ble_eq_true rfl)) (by decide) (by decide) rfl (fun _ h => by cases h) (Nat.le_of_ble_eq_true rfl) (Nat.le_of_ble_eq_true rfl) ⟨clo_all rfl, rfl, rfl⟩ (clo_all rfl) (clo_at 12 rfl (hA_lt (Nat.le_of_ble_eq_true rfl)) rfl) ?_
  refine AW.eq (pc' := 7) (ls' := [some (.ref (SB + 201)), none, none, none, none, none, none, none, none]) (st' := [.ref 0]) (AH' := WXs 0 R4 tv0 ov0 Y1 S1 C1 sv0 D1 uv0) ?_ rfl rfl rfl (grow_one (Nat.le_of_ble_eq_true rfl))
  refine go_l 1 X (pc2 := 8) (ls2 := [some (.ref (SB + 201)), some (.ref 0), none, none, none, none, none, none, none]) (st2 := []) rfl ?_
  refine r_new X 9 (fs := [.null, .null, .null, .null, .int 0, .int 0, .int 0, .null, .int 0, .null, .int 0, .int 0, .int 0, .int 0, .int 0, .int 0, .int 0, .int 0, .int 0, .null, .int 0, .null, .null, .int 0]) rfl rfl rfl (show (inALL (.classLink RL 147 "LeftistSpoolerModel") && (inALL (.instantiable "LeftistSpoolerModel" 24) && inALL (.initialized "LeftistSpoolerModel"))) = true from by decide +kernel) (fun j hj => by match j, hj with | 0, _ => rfl | 1, _ => rfl | 2, _ => rfl | 3, _ => rfl | 4, _ => rfl | 5, _ => rfl | 6, _ => rfl | 7, _ => rfl | 8, _ => rfl | 9, _ => rfl | 10, _ => rfl | 11, _ => rfl | 12, _ => rfl | 13, _ => rfl | 14, _ => rfl | 15, _ => rfl | 16, _ => rfl | 17, _ => rfl | 18, _ => rfl | 19, _ => rfl | 20, _ => rfl | 21, _ => rfl | 22, _ => rfl | 23, _ => rfl | n + 24, h => exact absurd (show n + 24 < 24 from h) (by omega)) rfl ⟨clo_at 12 rfl (hA_lt (Nat.le_of_ble_eq_true rfl)) rfl, rfl, rfl⟩ (Nat.le_of_ble_eq_true rfl) (by rw [hR]; exact Nat.le_of_ble_eq_true rfl) (by rw [hR]; exact Nat.le_of_ble_eq_true rfl) ?_
  refine AW.eq (pc' := 11) (ls' := [some (.ref (SB + 201)), some (.ref 0), none, none, none, none, none, none, none]) (st' := [.ref 190]) (AH' := WXs 0 R4 tv0 ov0 Y1 S1 C1 sv0 D1 uv0 ++ [.inr (9, [.null, .null, .null, .null, .int 0, .int 0, .int 0, .null, .int 0, .null, .int 0, .int 0, .int 0, .int 0, .int 0, .int 0, .int 0, .int 0, .int 0, .null, .int 0, .null, .null, .int 0])]) ?_ rfl rfl rfl rfl
  refine go_s 1 X (pc2 := 12) (st2 := [.ref 190, .ref 190]) rfl ?_
  refine r_init X [190] [] (o := 0) (k9 := 10) (HJ4 w a6) ⟨rfl, rfl⟩ rfl k_X9_init l_L_149 rfl (fitL hR (by decide) (by decide) (Nat.le_of_ble_eq_true rfl) (Nat.le_of_ble_eq_true rfl)) (by decide) (by decide) rfl (fun _ h => by cases h) (Nat.le_of_ble_eq_true rfl) (Nat.le_of_ble_eq_true rfl) ⟨clo_at 12 rfl (hA_lt (Nat.le_of_ble_eq_true rfl)) rfl, rfl, rfl⟩ (clo_all rfl) (clo_all rfl) ?_
  refine AW.eq (pc' := 15) (ls' := [some (.ref (SB + 201)), some (.ref 0), none, none, none, none, none, none, none]) (st' := [.ref 190]) (AH' := WXs 0 R4 tv0 ov0 Y1 S1 C1 sv0 D1 uv0 ++ (WM w ++ [(.inl (0, 24, .inl jb24) : AC)]).map (rnE (iof [190] [] 191))) ?_ rfl rfl rfl (grow_app rfl)
  refine go_l 2 X (pc2 := 17) (ls2 := [some (.ref (SB + 201)), some (.ref 0), some (.ref 190), none, none, none, none, none, none]) (st2 := [.int 1]) rfl ?_
  refine r_newa X 1 .long (a0 := (1, .inr (.inl z0L))) (N := 1) rfl rfl hkd1 (by decide +kernel) (fun _ => rfl) (fun _ => rfl) (by decide) (by decide) (by decide) ⟨clo_at 12 rfl (hA_lt (Nat.le_of_ble_eq_true rfl)) rfl, rfl, rfl⟩ (Nat.le_of_ble_eq_true rfl) (by rw [hR]; exact Nat.le_of_ble_eq_true rfl) (by rw [hR]; exact Nat.le_of_ble_eq_true rfl) ?_
  refine AW.eq (pc' := 19) (ls' := [some (.ref (SB + 201)), some (.ref 0), some (.ref 190), none, none, none, none, none, none]) (st' := [.ref 201]) (AH' := LW true jb24 0 R4 tv0 ov0 Y1 S1 C1 sv0 D1 uv0 w z0L) ?_ rfl rfl rfl rfl
  refine go_l 3 X (pc2 := 23) (ls2 := L0 0) (st2 := []) rfl ?_
  refine AW.widen (nc' := 1000) (ns' := 20000) (Nat.le_of_ble_eq_true rfl) (Nat.le_of_ble_eq_true rfl) ?_
  exact law_loop X hR SX hL hT HA hend (L / 6 + 1) 0 (by omega) (by omega) 1000 20000 (by omega) (by omega) true jb24 0 R4 tv0 ov0 Y1 S1 C1 sv0 D1 uv0 w z0L hA
