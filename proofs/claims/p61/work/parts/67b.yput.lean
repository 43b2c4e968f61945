/-! ===== 15bz: the history's row of states in a call (its places are renamed, not by rfl) ===== -/
theorem set_ya {k : Nat} {A AH2 : List AC} {a b : Nat → Option Nat} (h : a = b) (h1 : A = AH2.set k (.inl (4, 8, .inr (.inr (.inr (.inr a)))))) (h2 : AH2.set k (.inl (4, 8, .inr (.inr (.inr (.inr b))))) = AH2) : A = AH2 := by
  subst h
  exact h1.trans h2
theorem pk_ya {ι δ : List Nat} {AH AHs : List AC} {k b b' : Nat} (hn : va_nd ι = true) (h : (fun j => (hA b j).map (iof ι δ AH.length)) = hA b') (h1 : ι.map (fun i => AH[i]?) = (AHs.map (fun c => some (rnE (iof ι δ AH.length) c))).set k (some (.inl (4, 8, .inr (.inr (.inr (.inr (hA b'))))))))
    (h2 : (AHs.map (fun c => some (rnE (iof ι δ AH.length) c))).set k (some (.inl (4, 8, .inr (.inr (.inr (.inr (fun j => (hA b j).map (iof ι δ AH.length)))))))) = AHs.map (fun c => some (rnE (iof ι δ AH.length) c))) : PK ι δ AH AHs := by
  refine ⟨hn, h1.trans ?_⟩
  rw [← h]
  exact h2
