def sSetLa (x : StR) (n : Int32) : StR := (sT x, sR x, sNw x, sTs x, sRc x, n, sRf x)
def sSetRc (x : StR) (n : Int32) : StR := (sT x, sR x, sNw x, sTs x, n, sLa x, sRf x)
def sSetRf (x : StR) (n : Int32) : StR := (sT x, sR x, sNw x, sTs x, sRc x, sLa x, n)
def sSetNw (x : StR) (f : Nat → Int64) : StR := (sT x, sR x, f, sTs x, sRc x, sLa x, sRf x)
def gSetN (g : LgR) (n : Nat) : LgR := (g1 g, g2 g, g3 g, g4 g, g5 g, gL g, gKi g, gNu g, gKe g, gTi g, gOf g, n)
/-- k is the place of a in a line -/
def lPl (u : LnR) (a : Ent) (k : Nat) : Prop := k ≤ lSz u ∧ (∀ i, i < k → eLt (lAt u i) a = true) ∧ ∀ i, k ≤ i → i < lSz u → eLt (lAt u i) a = false
/-- .. behind one that has left -/
def lPl2 (u : LnR) (p : Nat) (a : Ent) (k : Nat) : Prop := k < lSz u ∧ (∀ i, i < k → eLt (lAt (lLeave u p) i) a = true) ∧ ∀ i, k ≤ i → i < lSz u - 1 → eLt (lAt (lLeave u p) i) a = false
/-- the first of a clock that is due stands at k -/
def lDue (u : LnR) (c : Int32) (t : Int64) (k : Nat) : Prop := k < lSz u ∧ eC (lAt u k) = c ∧ (∀ i, i < k → eC (lAt u i) ≠ c) ∧ eT (lAt u k) ≤ t
/-- none is due -/
def lNone (u : LnR) (c : Int32) (t : Int64) : Prop := ∀ k, k < lSz u → eC (lAt u k) = c → (∀ i, i < k → eC (lAt u i) ≠ c) → ¬ eT (lAt u k) ≤ t
/-- the row at p goes ahead of the timer at q -/
def sAhead (x : StR) (p q : Nat) : Prop := ¬ (if eT (lAt (sR x) p) = eT (lAt (sT x) q) then sRf x else if eT (lAt (sR x) p) < eT (lAt (sT x) q) then 1 else 0) = (0 : Int32)
/-- the log with one more -/
def gAdd (g g' : LgR) (e : LgE) : Prop := gL g' = (if gN g < gL g then gL g else 2 * gL g) ∧ gN g' = gN g + 1 ∧ lgAt g' (gN g) = e ∧ ∀ i, i < gN g → lgAt g' i = lgAt g i
/-- a timer is done: it leaves, or is set again at the place k -/
def sFin (x x' : StR) (p k : Nat) : Prop := (0 < eO (lAt (sT x) p) ∧ x' = sSetTs (sSetT x (lSort (lAgain (lLeave (sT x) p) (sTs x)) k)) (sTs x + 1)) ∨ (¬ 0 < eO (lAt (sT x) p) ∧ x' = sSetT x (lLeave (sT x) p))
/-- one is done -/
def tDo (c : Int32) (t : Int64) (kf : Nat → Nat) (w w' : TrR) : Prop :=
  (∃ k, c = 0 ∧ lDue (sR (tX w)) c t k ∧ (lNone (sT (tX w)) c t ∨ ∃ q, lDue (sT (tX w)) c t q ∧ sAhead (tX w) k q) ∧ ∃ g, gAdd (tG w) g (lgE 0 (lAt (sR (tX w)) k)) ∧ w' = tSetG (tSetX w (sSetR (tX w) (lLeave (sR (tX w)) k))) g) ∨
  (∃ q, lDue (sT (tX w)) c t q ∧ ((¬ c = 0 ∨ lNone (sR (tX w)) c t) ∨ ∃ k, lDue (sR (tX w)) c t k ∧ ¬ sAhead (tX w) k q) ∧ ∃ g x', gAdd (tG w) g (lgE 1 (lAt (sT (tX w)) q)) ∧ sFin (tX w) x' q (kf q) ∧ w' = tSetG (tSetX w x') g)
