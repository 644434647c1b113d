/-! A line's cells, and what they mean: what waits, in its order. -/
abbrev Ent : Type := Int32 × Int32 × Int64 × Int64 × Int64 × Int32
abbrev eN (a : Ent) : Int32 := a.1
abbrev eC (a : Ent) : Int32 := a.2.1
abbrev eK (a : Ent) : Int64 := a.2.2.1
abbrev eT (a : Ent) : Int64 := a.2.2.2.1
abbrev eG (a : Ent) : Int64 := a.2.2.2.2.1
abbrev eO (a : Ent) : Int32 := a.2.2.2.2.2
/-- a stands ahead of b: by time, key, number -/
def eLt (a b : Ent) : Bool := if eT a ≠ eT b then decide (eT a < eT b) else if eK a ≠ eK b then decide (eK a < eK b) else decide (eN a < eN b)
abbrev LnA : Type := Nat × Nat × Nat × Nat × Nat × Nat × Nat × Nat
abbrev aH (A : LnA) : Nat := A.1
abbrev aO (A : LnA) : Nat := A.2.1
abbrev aN (A : LnA) : Nat := A.2.2.1
abbrev aC (A : LnA) : Nat := A.2.2.2.1
abbrev aK (A : LnA) : Nat := A.2.2.2.2.1
abbrev aT (A : LnA) : Nat := A.2.2.2.2.2.1
abbrev aG (A : LnA) : Nat := A.2.2.2.2.2.2.1
abbrev aF (A : LnA) : Nat := A.2.2.2.2.2.2.2
abbrev LnR : Type := (Nat → Int32) × (Nat → Int32) × (Nat → Int32) × (Nat → Int64) × (Nat → Int64) × (Nat → Int64) × (Nat → Int32) × Nat
abbrev lO (u : LnR) : Nat → Int32 := u.1
abbrev lNu (u : LnR) : Nat → Int32 := u.2.1
abbrev lCk (u : LnR) : Nat → Int32 := u.2.2.1
abbrev lKe (u : LnR) : Nat → Int64 := u.2.2.2.1
abbrev lTi (u : LnR) : Nat → Int64 := u.2.2.2.2.1
abbrev lGa (u : LnR) : Nat → Int64 := u.2.2.2.2.2.1
abbrev lOf (u : LnR) : Nat → Int32 := u.2.2.2.2.2.2.1
abbrev lSz (u : LnR) : Nat := u.2.2.2.2.2.2.2
abbrev wLn (cI cJ : ClassId) (A : LnA) (u : LnR) : va_W := [(aH A, .inr (0, [.ref (aO A), .ref (aN A), .ref (aC A), .ref (aK A), .ref (aT A), .ref (aG A), .ref (aF A), .int (nI (lSz u))])), (aO A, .inl (cI, 40, .inl (lO u))), (aN A, .inl (cI, 40, .inl (lNu u))), (aC A, .inl (cI, 40, .inl (lCk u))), (aK A, .inl (cJ, 40, .inr (.inl (lKe u)))), (aT A, .inl (cJ, 40, .inr (.inl (lTi u)))), (aG A, .inl (cJ, 40, .inr (.inl (lGa u)))), (aF A, .inl (cI, 40, .inl (lOf u)))]
/-- what a slot holds -/
def lEnt (u : LnR) (j : Nat) : Ent := (lNu u j, lCk u j, lKe u j, lTi u j, lGa u j, lOf u j)
/-- what stands at a place -/
def lAt (u : LnR) (i : Nat) : Ent := lEnt u (lO u i).toNatClampNeg
/-- what the line holds, in its order -/
def lAb (u : LnR) : List Ent := (List.range (lSz u)).map (lAt u)
def LnOk (u : LnR) : Prop := lSz u ≤ 40 ∧ (∀ i, i < 40 → vp_in (lO u i) 40) ∧ (∀ i j, i < 40 → j < 40 → lO u i = lO u j → i = j)
theorem x_nle {a b : Nat} (ha : a < 2 ^ 31) (hb : b < 2 ^ 31) (h : ¬ nI a ≤ nI b) : b < a := Nat.not_le.mp (fun q => h ((nI_leI ha hb).mpr q))
theorem x_le {a b : Nat} (ha : a < 2 ^ 31) (hb : b < 2 ^ 31) (h : nI a ≤ nI b) : a ≤ b := (nI_leI ha hb).mp h
theorem x_nlt {a b : Nat} (ha : a < 2 ^ 31) (hb : b < 2 ^ 31) (h : ¬ nI a < nI b) : b ≤ a := Nat.not_lt.mp (fun q => h ((nI_ltI ha hb).mpr q))
theorem x_lt {a b : Nat} (ha : a < 2 ^ 31) (hb : b < 2 ^ 31) (h : nI a < nI b) : a < b := (nI_ltI ha hb).mp h
theorem x_upto {P : Nat → Prop} {i : Nat} (h : ∀ j, j < i → P j) (hi : P i) : ∀ j, j < i + 1 → P j := fun j hj => (Nat.lt_succ_iff_lt_or_eq.mp hj).elim (h j) (fun e => by rw [e]; exact hi)
theorem x_upto0 {P : Nat → Prop} : ∀ j, j < 0 → P j := fun j hj => absurd hj (Nat.not_lt_zero j)
theorem eLt_t {a b : Ent} (h : ¬ eT a = eT b) : eLt a b = decide (eT a < eT b) := if_pos h
theorem eLt_k {a b : Ent} (h : eT a = eT b) (h2 : ¬ eK a = eK b) : eLt a b = decide (eK a < eK b) := by
  unfold eLt
  rw [if_neg (fun q => q h), if_pos h2]
theorem eLt_n {a b : Ent} (h : eT a = eT b) (h2 : eK a = eK b) : eLt a b = decide (eN a < eN b) := by
  unfold eLt
  rw [if_neg (fun q => q h), if_neg (fun q => q h2)]
theorem eLt_1 {x : Bool} (h : x = true) : (1 : Int32) = if x = true then 1 else 0 := (if_pos h).symm
theorem eLt_0 {x : Bool} (h : x = false) : (0 : Int32) = if x = true then 1 else 0 := (if_neg (fun q => by rw [h] at q; cases q)).symm
