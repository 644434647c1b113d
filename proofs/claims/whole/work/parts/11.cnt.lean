/-! Counting, and stores of natural numbers. -/
def cnt (P : Nat → Bool) : Nat → Nat
  | 0 => 0
  | n + 1 => cnt P n + if P n = true then 1 else 0
theorem cnt_1 {P : Nat → Bool} {n : Nat} (h : P n = true) : cnt P (n + 1) = cnt P n + 1 := by rw [cnt, if_pos h]
theorem cnt_0 {P : Nat → Bool} {n : Nat} (h : P n = false) : cnt P (n + 1) = cnt P n := by rw [cnt, if_neg (by rw [h]; decide)]; rfl
theorem cnt_le (P : Nat → Bool) : ∀ n, cnt P n ≤ n
  | 0 => Nat.le_refl _
  | n + 1 => by
    have := cnt_le P n
    rw [cnt]
    split <;> omega
theorem cnt_map {α : Type} (f : Nat → α) (q : α → Bool) : ∀ n, ((List.range n).map f).countP q = cnt (fun i => q (f i)) n
  | 0 => rfl
  | n + 1 => by
    rw [List.range_succ, List.map_append, List.countP_append, cnt_map f q n, cnt]
    simp [List.countP_cons]
theorem cnt_cong {P Q : Nat → Bool} : ∀ {n : Nat}, (∀ i, i < n → P i = Q i) → cnt P n = cnt Q n
  | 0, _ => rfl
  | n + 1, h => by rw [cnt, cnt, cnt_cong (fun i hi => h i (by omega)), h n (by omega)]
theorem up_nI (w : Nat → Nat) (k x : Nat) : upd (fun j => nI (w j)) k (nI x) = fun j => nI (va_up w k x j) := by
  funext j
  unfold upd va_up
  split <;> rfl
theorem nar_z {x : Int32} (h : x = 0 ∨ x = 1) : vp_nar .boolean x = x := by
  rcases h with h | h <;> subst h <;> rfl
theorem nar_zz {x : Int32} (h : x = 0 ∨ x = 1) : narrow .boolean (.int x) = .int x := by
  rcases h with h | h <;> subst h <;> rfl
section
variable {p : Program} {l : Launch} {e : Env} {R : Room} {s : State} {m : MethodId} {args : Array Value} {below : List Frame} {meth : Method} {c : Code} {H : Heap} {locs : List Loc} {cells slots : Nat} {Q : State → Prop}
variable {cc : ByteArray} {nL pc : Nat} {ls : Array Slot} {rest : List Value} {Ts : List Cond} {own : String} {G : va_G} {ty : xT} {A : Nat → Prop} {H0 : Heap} {ws : va_W}
theorem x_nastN (F : CallFix p m c cc nL s args Ts own) (hw : xW G ty A H0 s ws H locs) (q0 t0 : Nat) {a n : Nat} {cA : ClassId} {w : Nat → Nat} (ha : ws[q0]? = some (a, .inl (cA, n, .inl (fun j => nI (w j))))) (ht : ty[t0]? = some (cA, .int)) {i x : Int32} (k y : Nat) (hi : i = nI k) (hx : x = nI y) (hk : k < n) (hn : n < 2 ^ 31) (hd : decode cc pc = .ok (.iastore, 1))
    (kk : ∀ (H1 : Heap) (locs1 : List Loc), xW G ty A H0 s (ws.set q0 (a, .inl (cA, n, .inl (fun j => nI (va_up w k y j))))) H1 locs1 → W p l e R s m args below meth c H1 locs1 cells slots Q (F0 m (pc + 1) ls rest)) : W p l e R s m args below meth c H locs cells slots Q (F0 m pc ls (.int x :: .int i :: .ref a :: rest)) := by
  subst hx
  refine x_iastN F hw q0 t0 ha ht k hi hk hn hd ?_
  rw [up_nI]
  exact kk
end
/-- between two times, of a clock and a key -/
def eBet (c : Int32) (k fr to : Int64) (a : Ent) : Bool := decide (fr ≤ eT a) && decide (eT a ≤ to) && decide (eC a = c) && decide (eK a = k)
theorem eBet_1 {c : Int32} {k fr to : Int64} {a : Ent} (h1 : ¬ eT a < fr) (h2 : ¬ to < eT a) (h3 : eC a = c) (h4 : eK a = k) : eBet c k fr to a = true := by
  unfold eBet
  rw [decide_eq_true (Int64.not_lt.mp h1), decide_eq_true (Int64.not_lt.mp h2), decide_eq_true h3, decide_eq_true h4]; rfl
theorem eBet_a {c : Int32} {k fr to : Int64} {a : Ent} (h : eT a < fr) : eBet c k fr to a = false := by
  unfold eBet
  rw [decide_eq_false (Int64.not_le.mpr h)]; rfl
theorem eBet_b {c : Int32} {k fr to : Int64} {a : Ent} (h : to < eT a) : eBet c k fr to a = false := by
  unfold eBet
  rw [decide_eq_false (Int64.not_le.mpr h), Bool.and_false]; rfl
theorem eBet_c {c : Int32} {k fr to : Int64} {a : Ent} (h : ¬ eC a = c) : eBet c k fr to a = false := by
  unfold eBet
  rw [decide_eq_false h, Bool.and_false]; rfl
theorem eBet_d {c : Int32} {k fr to : Int64} {a : Ent} (h : ¬ eK a = k) : eBet c k fr to a = false := by
  unfold eBet
  rw [decide_eq_false h, Bool.and_false]
/-- a line's copy into another one's rows -/
def lCopy (u v : LnR) : LnR := (va_cpy (lO v) (lO u) 0 0 40, va_cpy (lNu v) (lNu u) 0 0 40, va_cpy (lCk v) (lCk u) 0 0 40, va_cpy (lKe v) (lKe u) 0 0 40, va_cpy (lTi v) (lTi u) 0 0 40, va_cpy (lGa v) (lGa u) 0 0 40, va_cpy (lOf v) (lOf u) 0 0 40, lSz v)
theorem cpy40 {α : Type} (f g : Nat → α) {j : Nat} (h : j < 40) : va_cpy f g 0 0 40 j = f j := by
  rw [pk_cpy_in (by omega) (by omega)]
  congr 1
  omega
theorem in40 {x : Int32} (h : vp_in x 40) : x.toNatClampNeg < 40 := Nat.not_le.mp (fun q => h (Or.inr q))
theorem lCopy_at {u v : LnR} (hv : LnOk v) {i : Nat} (hi : i < 40) : lAt (lCopy u v) i = lAt v i := by
  have e : lO (lCopy u v) i = lO v i := cpy40 _ _ hi
  have hj := in40 (hv.2.1 i hi)
  show lEnt (lCopy u v) (lO (lCopy u v) i).toNatClampNeg = lEnt v (lO v i).toNatClampNeg
  rw [e]
  show (va_cpy (lNu v) (lNu u) 0 0 40 _, va_cpy (lCk v) (lCk u) 0 0 40 _, va_cpy (lKe v) (lKe u) 0 0 40 _, va_cpy (lTi v) (lTi u) 0 0 40 _, va_cpy (lGa v) (lGa u) 0 0 40 _, va_cpy (lOf v) (lOf u) 0 0 40 _) = _
  rw [cpy40 _ _ hj, cpy40 _ _ hj, cpy40 _ _ hj, cpy40 _ _ hj, cpy40 _ _ hj, cpy40 _ _ hj]; rfl
theorem lCopy_ok {u v : LnR} (hv : LnOk v) : LnOk (lCopy u v) := by
  have e : ∀ i, i < 40 → lO (lCopy u v) i = lO v i := fun i hi => cpy40 _ _ hi
  refine ⟨hv.1, fun i hi => by rw [e i hi]; exact hv.2.1 i hi, fun i j hi hj h => ?_⟩
  rw [e i hi, e j hj] at h
  exact hv.2.2 i j hi hj h
theorem lCopy_ab {u v : LnR} (hv : LnOk v) : lAb (lCopy u v) = lAb v := lAb_cong rfl (fun i hi => lCopy_at hv (by have h1 : i < lSz v := hi; have h2 := hv.1; omega))
