/-! The log of a pass, and a state: their cells. -/
abbrev LgE : Type := Int32 × Int32 × Int64 × Int64 × Int32
abbrev LgR : Type := Nat × Nat × Nat × Nat × Nat × Nat × (Nat → Int32) × (Nat → Int32) × (Nat → Int64) × (Nat → Int64) × (Nat → Int32) × Nat
abbrev g1 (g : LgR) : Nat := g.1
abbrev g2 (g : LgR) : Nat := g.2.1
abbrev g3 (g : LgR) : Nat := g.2.2.1
abbrev g4 (g : LgR) : Nat := g.2.2.2.1
abbrev g5 (g : LgR) : Nat := g.2.2.2.2.1
abbrev gL (g : LgR) : Nat := g.2.2.2.2.2.1
abbrev gKi (g : LgR) : Nat → Int32 := g.2.2.2.2.2.2.1
abbrev gNu (g : LgR) : Nat → Int32 := g.2.2.2.2.2.2.2.1
abbrev gKe (g : LgR) : Nat → Int64 := g.2.2.2.2.2.2.2.2.1
abbrev gTi (g : LgR) : Nat → Int64 := g.2.2.2.2.2.2.2.2.2.1
abbrev gOf (g : LgR) : Nat → Int32 := g.2.2.2.2.2.2.2.2.2.2.1
abbrev gN (g : LgR) : Nat := g.2.2.2.2.2.2.2.2.2.2.2
abbrev wLg (cI cJ : ClassId) (h : Nat) (g : LgR) : va_W := [(h, .inr (1, [.ref (g1 g), .ref (g2 g), .ref (g3 g), .ref (g4 g), .ref (g5 g), .int (nI (gN g))])), (g1 g, .inl (cI, gL g, .inl (gKi g))), (g2 g, .inl (cI, gL g, .inl (gNu g))), (g3 g, .inl (cJ, gL g, .inr (.inl (gKe g)))), (g4 g, .inl (cJ, gL g, .inr (.inl (gTi g)))), (g5 g, .inl (cI, gL g, .inl (gOf g)))]
def lgAt (g : LgR) (i : Nat) : LgE := (gKi g i, gNu g i, gKe g i, gTi g i, gOf g i)
def lgE (k : Int32) (a : Ent) : LgE := (k, eN a, eK a, eT a, eO a)
def lgAb (g : LgR) : List LgE := (List.range (gN g)).map (lgAt g)
abbrev StA : Type := Nat × LnA × LnA × Nat
abbrev sH (S : StA) : Nat := S.1
abbrev sTA (S : StA) : LnA := S.2.1
abbrev sRA (S : StA) : LnA := S.2.2.1
abbrev sWA (S : StA) : Nat := S.2.2.2
abbrev StR : Type := LnR × LnR × (Nat → Int64) × Int32 × Int32 × Int32 × Int32
abbrev sT (x : StR) : LnR := x.1
abbrev sR (x : StR) : LnR := x.2.1
abbrev sNw (x : StR) : Nat → Int64 := x.2.2.1
abbrev sTs (x : StR) : Int32 := x.2.2.2.1
abbrev sRc (x : StR) : Int32 := x.2.2.2.2.1
abbrev sLa (x : StR) : Int32 := x.2.2.2.2.2.1
abbrev sRf (x : StR) : Int32 := x.2.2.2.2.2.2
abbrev wSt (cI cJ : ClassId) (S : StA) (x : StR) : va_W := [(sH S, .inr (2, [.ref (aH (sTA S)), .ref (aH (sRA S)), .ref (sWA S), .int (sTs x), .int (sRc x), .int (sLa x), .int (sRf x)])), (sWA S, .inl (cJ, 2, .inr (.inl (sNw x))))] ++ (wLn cI cJ (sTA S) (sT x) ++ wLn cI cJ (sRA S) (sR x))
def lZero (u : LnR) : LnR := lSetO u (lO u) 0
theorem lZero_ok {u : LnR} (h : LnOk u) : LnOk (lZero u) := ⟨Nat.zero_le _, h.2.1, h.2.2⟩
theorem cpy0n {α : Type} (f g : Nat → α) {n j : Nat} (h : j < n) : va_cpy f g 0 0 n j = f j := by
  rw [pk_cpy_in (by omega) (by omega)]
  congr 1
  omega
theorem lg_cpy {g : LgR} {q1 q2 q3 q4 q5 l n i : Nat} (hi : i < gL g) : lgAt (q1, q2, q3, q4, q5, l, va_cpy (gKi g) (fun _ => 0) 0 0 (gL g), va_cpy (gNu g) (fun _ => 0) 0 0 (gL g), va_cpy (gKe g) (fun _ => 0) 0 0 (gL g), va_cpy (gTi g) (fun _ => 0) 0 0 (gL g), va_cpy (gOf g) (fun _ => 0) 0 0 (gL g), n) i = lgAt g i := by
  show (va_cpy (gKi g) (fun _ => 0) 0 0 (gL g) i, va_cpy (gNu g) (fun _ => 0) 0 0 (gL g) i, va_cpy (gKe g) (fun _ => 0) 0 0 (gL g) i, va_cpy (gTi g) (fun _ => 0) 0 0 (gL g) i, va_cpy (gOf g) (fun _ => 0) 0 0 (gL g) i) = _
  rw [cpy0n _ _ hi, cpy0n _ _ hi, cpy0n _ _ hi, cpy0n _ _ hi, cpy0n _ _ hi]; rfl
theorem lg_new {g : LgR} {q1 q2 q3 q4 q5 l n : Nat} {a b e : Int32} {c d : Int64} : lgAt (q1, q2, q3, q4, q5, l, upd (gKi g) (gN g) a, upd (gNu g) (gN g) b, vp_updL (gKe g) (gN g) c, vp_updL (gTi g) (gN g) d, upd (gOf g) (gN g) e, n) (gN g) = (a, b, c, d, e) := by
  show (upd (gKi g) (gN g) a (gN g), upd (gNu g) (gN g) b (gN g), vp_updL (gKe g) (gN g) c (gN g), vp_updL (gTi g) (gN g) d (gN g), upd (gOf g) (gN g) e (gN g)) = _
  rw [pk_us, pk_us, pk_uLs, pk_uLs, pk_us]
theorem lg_old {g : LgR} {q1 q2 q3 q4 q5 l n i : Nat} {a b e : Int32} {c d : Int64} (hi : i < gN g) : lgAt (q1, q2, q3, q4, q5, l, upd (gKi g) (gN g) a, upd (gNu g) (gN g) b, vp_updL (gKe g) (gN g) c, vp_updL (gTi g) (gN g) d, upd (gOf g) (gN g) e, n) i = lgAt g i := by
  have h : i ≠ gN g := by omega
  show (upd (gKi g) (gN g) a i, upd (gNu g) (gN g) b i, vp_updL (gKe g) (gN g) c i, vp_updL (gTi g) (gN g) d i, upd (gOf g) (gN g) e i) = _
  rw [pk_un h, pk_un h, pk_uLn h, pk_uLn h, pk_un h]; rfl
theorem fit_z {x : Int32} (h : x = 0 ∨ x = 1) : fits .boolean (.int x) = true := by
  rcases h with h | h <;> subst h <;> rfl
def sSetTs (x : StR) (n : Int32) : StR := (sT x, sR x, sNw x, n, sRc x, sLa x, sRf x)
def sSetT (x : StR) (u : LnR) : StR := (u, sR x, sNw x, sTs x, sRc x, sLa x, sRf x)
def sSetR (x : StR) (u : LnR) : StR := (sT x, u, sNw x, sTs x, sRc x, sLa x, sRf x)
def sCopy (x y : StR) : StR := (lCopy (sT x) (sT y), lCopy (sR x) (sR y), va_cpy (sNw y) (sNw x) 0 0 2, sTs y, sRc y, sLa y, sRf y)
def StNew (x : StR) : Prop := LnOk (sT x) ∧ LnOk (sR x) ∧ lSz (sT x) = 0 ∧ lSz (sR x) = 0 ∧ sNw x 0 = -1 ∧ sNw x 1 = -1 ∧ sTs x = 0 ∧ sRc x = 0 ∧ sLa x = 0 ∧ sRf x = 1
