/-! The reference's rows as lists; the least of them. -/
def mBl (v : MR) (b : Nat) : List ME := (List.range (mW v b)).map (fun i => mE v (80 * b + i))
theorem mBl_len (v : MR) (b : Nat) : (mBl v b).length = mW v b := by simp [mBl]
theorem mr_get {α : Type} (g : Nat → α) (n i : Nat) : ((List.range n).map g)[i]? = if i < n then some (g i) else none := by
  rw [List.getElem?_map]
  by_cases h : i < n
  · rw [if_pos h, List.getElem?_range h]; rfl
  · rw [if_neg h, List.getElem?_eq_none (by simp; omega)]; rfl
theorem mBl_get (v : MR) (b i : Nat) : (mBl v b)[i]? = if i < mW v b then some (mE v (80 * b + i)) else none := mr_get _ _ _
theorem mBl0_get {v : MR} {i : Nat} (h : i < mW v 0) : (mBl v 0)[i]? = some (mE v i) := by
  rw [mBl_get, if_pos h, show 80 * 0 + i = i by omega]
theorem mr_set {α : Type} (g : Nat → α) (n i : Nat) (z : α) : (List.range n).map (fun j => if j = i then z else g j) = ((List.range n).map g).set i z := by
  apply List.ext_getElem?
  intro j
  rw [mr_get, List.getElem?_set, mr_get]
  by_cases hij : i = j
  · subst hij
    by_cases h : i < n
    · simp [h]
    · simp [h]
  · rw [if_neg hij]
    by_cases h : j < n
    · rw [if_pos h, if_pos h, if_neg (fun q => hij q.symm)]
    · rw [if_neg h, if_neg h]
theorem set_perm {α : Type} {L : List α} {i : Nat} {x : α} (h : L[i]? = some x) (z : α) : (L.set i z).Perm (z :: L.eraseIdx i) := by
  obtain ⟨hi, -⟩ := List.getElem?_eq_some_iff.mp h
  rw [erase_split, List.set_eq_take_append_cons_drop, if_pos hi]
  exact List.perm_middle
/-- the last comes to the place of one that goes -/
theorem take_perm {α : Type} (g : Nat → α) (n i : Nat) (h : i < n) : ((List.range (n - 1)).map (fun j => if j = i then g (n - 1) else g j)).Perm (((List.range n).map g).eraseIdx i) := by
  obtain ⟨k, rfl⟩ : ∃ k, n = k + 1 := ⟨n - 1, by omega⟩
  rw [Nat.add_sub_cancel, mr_set]
  have e : (List.range (k + 1)).map g = (List.range k).map g ++ [g k] := by rw [List.range_succ, List.map_append]; rfl
  rw [e]
  have hl : ((List.range k).map g).length = k := by simp
  rcases Nat.lt_or_ge i k with hk | hk
  · rw [List.eraseIdx_append_of_lt_length (by omega)]
    refine (set_perm (x := g i) (by rw [mr_get, if_pos hk]) (g k)).trans ?_
    exact (List.perm_append_comm (l₁ := [g k]))
  · have : i = k := by omega
    subst this
    rw [List.eraseIdx_append_of_length_le (by omega), hl, Nat.sub_self, List.set_eq_of_length_le (by omega)]
    show List.Perm _ (_ ++ [])
    rw [List.append_nil]
theorem me_ext {a b : ME} (h1 : a.1 = b.1) (h2 : a.2 = b.2) : a = b := Prod.ext h1 h2
theorem mE_add (v : MR) (b : Int32) (a : Ent) (j : Nat) : mE (mAdd v b a) j = if j = mW v 0 then (b, a) else mE v j := by
  show (upd (mIt v) (mW v 0) b j, (upd (mNu v) (mW v 0) (eN a) j, upd (mCk v) (mW v 0) (eC a) j, vp_updL (mKe v) (mW v 0) (eK a) j, vp_updL (mTi v) (mW v 0) (eT a) j, vp_updL (mGa v) (mW v 0) (eG a) j, upd (mOf v) (mW v 0) (eO a) j)) = _
  by_cases h : j = mW v 0
  · rw [if_pos h, h, pk_us, pk_us, pk_us, pk_uLs, pk_uLs, pk_uLs, pk_us]
  · rw [if_neg h, pk_un h, pk_un h, pk_un h, pk_uLn h, pk_uLn h, pk_uLn h, pk_un h]; rfl
theorem mE_copy (v : MR) (f t j : Nat) : mE (mCopy v f t) j = if j = t then mE v f else mE v j := by
  show (upd (mIt v) t (mIt v f) j, (upd (mNu v) t (mNu v f) j, upd (mCk v) t (mCk v f) j, vp_updL (mKe v) t (mKe v f) j, vp_updL (mTi v) t (mTi v f) j, vp_updL (mGa v) t (mGa v f) j, upd (mOf v) t (mOf v f) j)) = _
  by_cases h : j = t
  · rw [if_pos h, h, pk_us, pk_us, pk_us, pk_uLs, pk_uLs, pk_uLs, pk_us]; rfl
  · rw [if_neg h, pk_un h, pk_un h, pk_un h, pk_uLn h, pk_uLn h, pk_uLn h, pk_un h]; rfl
theorem mE_setT (v : MR) (i : Nat) (t : Int64) (j : Nat) : mE (mSetT v i t) j = if j = i then ((mE v i).1, eSetT (mE v i).2 t) else mE v j := by
  show (mIt v j, (mNu v j, mCk v j, mKe v j, vp_updL (mTi v) i t j, mGa v j, mOf v j)) = _
  by_cases h : j = i
  · rw [if_pos h, h, pk_uLs]; rfl
  · rw [if_neg h, pk_uLn h]; rfl
theorem mE_again (v : MR) (i j : Nat) : mE (mAgain v i) j = if j = i then ((mE v i).1, eAgain (mE v i).2 (mCn v 0)) else mE v j := by
  show (mIt v j, (upd (mNu v) i (mCn v 0) j, mCk v j, mKe v j, vp_updL (mTi v) i (mTi v i + mGa v i) j, mGa v j, upd (mOf v) i (mOf v i - 1) j)) = _
  by_cases h : j = i
  · rw [if_pos h, h, pk_us, pk_uLs, pk_us]; rfl
  · rw [if_neg h, pk_un h, pk_uLn h, pk_un h]; rfl
theorem mBl_add (v : MR) (b : Int32) (a : Ent) : mBl (mAdd v b a) 0 = mBl v 0 ++ [(b, a)] := by
  have hw : mW (mAdd v b a) 0 = mW v 0 + 1 := va_up_self (mW v) 0 (mW v 0 + 1)
  unfold mBl
  rw [hw, List.range_succ, List.map_append]
  congr 1
  · refine List.map_congr_left (fun i hi => ?_)
    have := List.mem_range.mp hi
    rw [show 80 * 0 + i = i by omega, mE_add, if_neg (by omega)]
  · show [mE (mAdd v b a) (80 * 0 + mW v 0)] = _
    rw [show 80 * 0 + mW v 0 = mW v 0 by omega, mE_add, if_pos rfl]
theorem mBl_take {v : MR} {i : Nat} (h : i < mW v 0) : (mBl (mTake v i) 0).Perm ((mBl v 0).eraseIdx i) := by
  have e1 : mBl (mTake v i) 0 = (List.range (mW v 0 - 1)).map (fun j => if j = i then mE v (mW v 0 - 1) else mE v j) := by
    unfold mBl
    rw [mTake_w]
    refine List.map_congr_left (fun j hj => ?_)
    rw [show 80 * 0 + j = j by omega]
    unfold mTake
    rw [mE_copy, show mW (mSetW v 0 (mW v 0 - 1)) 0 = mW v 0 - 1 from va_up_self (mW v) 0 (mW v 0 - 1)]; rfl
  have e2 : mBl v 0 = (List.range (mW v 0)).map (mE v) := by
    unfold mBl
    refine List.map_congr_left (fun j hj => ?_)
    rw [show 80 * 0 + j = j by omega]
  rw [e1, e2]
  exact take_perm (mE v) (mW v 0) i h
theorem mBl_put {v v' : MR} {i : Nat} {z : ME} (hw : mW v' 0 = mW v 0) (h : ∀ j, mE v' j = if j = i then z else mE v j) : mBl v' 0 = (mBl v 0).set i z := by
  unfold mBl
  rw [hw, ← mr_set]
  refine List.map_congr_left (fun j hj => ?_)
  rw [show 80 * 0 + j = j by omega, h]
/-! The order of the reference. -/
def kr (rf : Int32) (x : ME) : Int := if x.1 = (if rf = 1 then 1 else 0) then 1 else 0
abbrev k01 (x : ME) : Prop := x.1 = 0 ∨ x.1 = 1
theorem mLt_iff {rf : Int32} {x y : ME} (hx : k01 x) (hy : k01 y) : mLt rf x y = true ↔ (eT x.2).toInt < (eT y.2).toInt ∨ ((eT x.2).toInt = (eT y.2).toInt ∧ (kr rf x < kr rf y ∨ (kr rf x = kr rf y ∧ ((eK x.2).toInt < (eK y.2).toInt ∨ ((eK x.2).toInt = (eK y.2).toInt ∧ (eN x.2).toInt < (eN y.2).toInt))))) := by
  by_cases h1 : eT x.2 = eT y.2
  · by_cases h2 : x.1 = y.1
    · have hk : kr rf x = kr rf y := by unfold kr; rw [h2]
      by_cases h3 : eK x.2 = eK y.2
      · rw [mLt_n h1 h2 h3, decide_eq_true_iff, Int32.lt_iff_toInt_lt, h1, h3, hk]
        omega
      · have h3' : (eK x.2).toInt ≠ (eK y.2).toInt := fun q => h3 (Int64.toInt_inj.mp q)
        rw [mLt_k h1 h2 h3, decide_eq_true_iff, Int64.lt_iff_toInt_lt, h1, hk]
        omega
    · rw [mLt_i h1 h2, decide_eq_true_iff, h1]
      unfold kr
      by_cases hr : rf = 1
      · rw [if_pos hr]
        rcases hx with hx | hx <;> rcases hy with hy | hy <;> rw [hx, hy] at h2 ⊢ <;> simp at h2 ⊢
      · rw [if_neg hr]
        rcases hx with hx | hx <;> rcases hy with hy | hy <;> rw [hx, hy] at h2 ⊢ <;> simp at h2 ⊢
  · have h1' : (eT x.2).toInt ≠ (eT y.2).toInt := fun q => h1 (Int64.toInt_inj.mp q)
    rw [mLt_t h1, decide_eq_true_iff, Int64.lt_iff_toInt_lt]
    omega
theorem mLt_f (rf : Int32) (x y : ME) : mLt rf x y = false ↔ ¬ mLt rf x y = true := by
  cases mLt rf x y <;> simp
theorem mLt_le {rf : Int32} {x y z : ME} (hx : k01 x) (hy : k01 y) (hz : k01 z) (h1 : mLt rf x y = true) (h2 : mLt rf z y = false) : mLt rf z x = false := by
  rw [mLt_f, mLt_iff hz hy] at h2
  rw [mLt_f, mLt_iff hz hx]
  rw [mLt_iff hx hy] at h1
  omega
theorem mLt_irr {rf : Int32} {x : ME} (hx : k01 x) : mLt rf x x = false := by
  rw [mLt_f, mLt_iff hx hx]
  omega
theorem mLt_one {rf : Int32} {x y : ME} (hx : k01 x) (hy : k01 y) (h1 : mLt rf x y = false) (h2 : mLt rf y x = false) : x.1 = y.1 ∧ eN x.2 = eN y.2 := by
  rw [mLt_f, mLt_iff hx hy] at h1
  rw [mLt_f, mLt_iff hy hx] at h2
  refine ⟨?_, Int32.toInt_inj.mp (by omega)⟩
  have hk : kr rf x = kr rf y := by omega
  unfold kr at hk
  by_cases hr : rf = 1
  · rw [if_pos hr] at hk
    rcases hx with hx | hx <;> rcases hy with hy | hy <;> rw [hx, hy] at hk ⊢ <;> simp at hk
  · rw [if_neg hr] at hk
    rcases hx with hx | hx <;> rcases hy with hy | hy <;> rw [hx, hy] at hk ⊢ <;> simp at hk
theorem mLeast_sp {v : MR} (hz : MZ v) {c ta : Int32} {b9 : Int64} : ∀ n : Nat, (mLeast v c ta b9 n = none ∧ ∀ j, j < n → mMay c ta b9 (mE v j) = false) ∨ (∃ k, mLeast v c ta b9 n = some k ∧ k < n ∧ mMay c ta b9 (mE v k) = true ∧ ∀ j, j < n → mMay c ta b9 (mE v j) = true → mLt (mCn v 3) (mE v j) (mE v k) = false)
  | 0 => Or.inl ⟨rfl, fun j hj => absurd hj (Nat.not_lt_zero _)⟩
  | n + 1 => by
    have h1 : ∀ j, k01 (mE v j) := fun j => hz j
    by_cases hm : mMay c ta b9 (mE v n) = true
    · rcases mLeast_sp hz n with ⟨e, ha⟩ | ⟨k, e, hk, hmk, ha⟩
      · refine Or.inr ⟨n, mLeast_n1 hm e, Nat.lt_succ_self n, hm, fun j hj hj2 => ?_⟩
        rcases Nat.lt_succ_iff_lt_or_eq.mp hj with h | h
        · rw [ha j h] at hj2; cases hj2
        · rw [h]; exact mLt_irr (h1 n)
      · cases hl : mLt (mCn v 3) (mE v n) (mE v k) with
        | true =>
          refine Or.inr ⟨n, mLeast_s1 hm e hl, Nat.lt_succ_self n, hm, fun j hj hj2 => ?_⟩
          rcases Nat.lt_succ_iff_lt_or_eq.mp hj with h | h
          · exact mLt_le (h1 n) (h1 k) (h1 j) hl (ha j h hj2)
          · rw [h]; exact mLt_irr (h1 n)
        | false =>
          refine Or.inr ⟨k, mLeast_s0 e hl, Nat.lt_succ_of_lt hk, hmk, fun j hj hj2 => ?_⟩
          rcases Nat.lt_succ_iff_lt_or_eq.mp hj with h | h
          · exact ha j h hj2
          · rw [h]; exact hl
    · have hm' : mMay c ta b9 (mE v n) = false := by cases h : mMay c ta b9 (mE v n) with | true => exact absurd h hm | false => rfl
      have e0 := mLeast_no (v := v) (c := c) (ta := ta) (b9 := b9) (n := n) hm'
      rcases mLeast_sp hz n with ⟨e, ha⟩ | ⟨k, e, hk, hmk, ha⟩
      · refine Or.inl ⟨e0.trans e, fun j hj => ?_⟩
        rcases Nat.lt_succ_iff_lt_or_eq.mp hj with h | h
        · exact ha j h
        · rw [h]; exact hm'
      · refine Or.inr ⟨k, e0.trans e, Nat.lt_succ_of_lt hk, hmk, fun j hj hj2 => ?_⟩
        rcases Nat.lt_succ_iff_lt_or_eq.mp hj with h | h
        · exact ha j h hj2
        · rw [h, hm'] at hj2; cases hj2
