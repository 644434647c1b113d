/-! The class itself: its cells. -/
abbrev cClk (x : Int32) : Prop := ¬ x < 0 ∧ x < 2
abbrev cMod (k : Int64) : Int64 := if k - k / 128 * 128 < 0 then k - k / 128 * 128 + 128 else k - k / 128 * 128
def cTask (k : Int64) (n : Int32) : Int32 := (cMod k).toInt32 * n / 128
abbrev TrA : Type := Nat × StA × Nat × Nat
abbrev tH (K : TrA) : Nat := K.1
abbrev tS (K : TrA) : StA := K.2.1
abbrev tK (K : TrA) : Nat := K.2.2.1
abbrev tL (K : TrA) : Nat := K.2.2.2
abbrev TrR : Type := StR × (Nat → Option Nat) × LgR × Nat
abbrev tX (r : TrR) : StR := r.1
abbrev tF (r : TrR) : Nat → Option Nat := r.2.1
abbrev tG (r : TrR) : LgR := r.2.2.1
abbrev tN (r : TrR) : Nat := r.2.2.2
abbrev wTr (cI cJ cO : ClassId) (K : TrA) (r : TrR) : va_W := [(tH K, .inr (3, [.ref (sH (tS K)), .ref (tK K), .ref (tL K), .int (nI (tN r))])), (tK K, .inl (cO, 3, .inr (.inr (.inr (.inr (tF r))))))] ++ (wSt cI cJ (tS K) (tX r) ++ wLg cI cJ (tL K) (tG r))
def tSetX (r : TrR) (x : StR) : TrR := (x, tF r, tG r, tN r)
def tSetG (r : TrR) (g : LgR) : TrR := (tX r, tF r, g, tN r)
def tSetN (r : TrR) (n : Nat) : TrR := (tX r, tF r, tG r, n)
abbrev cSet (x : Int32) (t g : Int64) (o : Int32) : Prop := cClk x ∧ gTim t ∧ (0 ≤ g ∧ g ≤ 1000000000) ∧ (¬ o < 0 ∧ o ≤ 50)
theorem nI_ne {n : Nat} (h : n < 2 ^ 31) : ¬ nI n = -1 := fun e => by
  have h1 := nI_pos' h
  rw [e] at h1
  exact absurd h1 (by decide)
theorem cclk_of {c : Int32} (h : cClk c) : c = 0 ∨ c = 1 := by
  have h1 : ¬ c.toInt < 0 := fun q => h.1 (Int32.lt_iff_toInt_lt.mpr q)
  have h2 : c.toInt < 2 := Int32.lt_iff_toInt_lt.mp h.2
  rcases (show c.toInt = 0 ∨ c.toInt = 1 by omega) with e | e
  · exact Or.inl (Int32.toInt_inj.mp e)
  · exact Or.inr (Int32.toInt_inj.mp e)
theorem cclk_in {c : Int32} (h : cClk c) : vp_in c 2 := by
  rcases cclk_of h with e | e <;> subst e <;> exact vp_in_iff.mpr (by decide)
theorem cclk_iff (c : Int32) : cClk c ↔ gClk c := by
  constructor
  · intro h
    rcases cclk_of h with e | e <;> subst e <;> decide
  · intro h
    rcases clk_of h with e | e <;> subst e <;> decide
theorem what4 {c : Int32} (h : ¬ c < 0 ∧ c ≤ 4) : c = 0 ∨ c = 1 ∨ c = 2 ∨ c = 3 ∨ c = 4 := by
  obtain ⟨k, hk, e⟩ := nI_of2 (M := 4) (n := 4) (by decide) h.1 h.2
  rcases (show k = 0 ∨ k = 1 ∨ k = 2 ∨ k = 3 ∨ k = 4 by omega) with q | q | q | q | q <;> subst q <;> subst e <;> decide
theorem what6 {c : Int32} (h : ¬ c < 0 ∧ c ≤ 6) : c = 0 ∨ c = 1 ∨ c = 2 ∨ c = 3 ∨ c = 4 ∨ c = 5 ∨ c = 6 := by
  obtain ⟨k, hk, e⟩ := nI_of2 (M := 6) (n := 6) (by decide) h.1 h.2
  rcases (show k = 0 ∨ k = 1 ∨ k = 2 ∨ k = 3 ∨ k = 4 ∨ k = 5 ∨ k = 6 by omega) with q | q | q | q | q | q | q <;> subst q <;> subst e <;> decide
