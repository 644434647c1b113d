/-! The reference's search and its pass. -/
theorem mLeast_no {v : MR} {c ta : Int32} {b9 : Int64} {n : Nat} (h : mMay c ta b9 (mE v n) = false) : mLeast v c ta b9 (n + 1) = mLeast v c ta b9 n := by
  rw [mLeast]
  cases mLeast v c ta b9 n <;> simp [h]
theorem mLeast_n1 {v : MR} {c ta : Int32} {b9 : Int64} {n : Nat} (h : mMay c ta b9 (mE v n) = true) (e : mLeast v c ta b9 n = none) : mLeast v c ta b9 (n + 1) = some n := by
  rw [mLeast, e]
  exact if_pos h
theorem mLeast_s1 {v : MR} {c ta : Int32} {b9 : Int64} {n k : Nat} (h : mMay c ta b9 (mE v n) = true) (e : mLeast v c ta b9 n = some k) (hl : mLt (mCn v 3) (mE v n) (mE v k) = true) : mLeast v c ta b9 (n + 1) = some n := by
  rw [mLeast, e]
  show (if _ then _ else _) = _
  rw [if_pos h, if_pos hl]
theorem mLeast_s0 {v : MR} {c ta : Int32} {b9 : Int64} {n k : Nat} (e : mLeast v c ta b9 n = some k) (hl : mLt (mCn v 3) (mE v n) (mE v k) = false) : mLeast v c ta b9 (n + 1) = some k := by
  rw [mLeast, e]
  show (if _ then _ else _) = _
  by_cases h : mMay c ta b9 (mE v n) = true
  · rw [if_pos h, if_neg (by rw [hl]; decide)]
  · rw [if_neg h]
theorem mLeast_lt {v : MR} {c ta : Int32} {b9 : Int64} : ∀ {n k : Nat}, mLeast v c ta b9 n = some k → k < n
  | 0, k, h => by cases h
  | n + 1, k, h => by
    rw [mLeast] at h
    cases e : mLeast v c ta b9 n with
    | none =>
      rw [e] at h
      dsimp only at h
      split at h
      · cases h; omega
      · cases h
    | some j =>
      have hj := mLeast_lt e
      rw [e] at h
      dsimp only at h
      split at h
      · split at h <;> cases h <;> omega
      · cases h; omega
theorem bI_none {o : Option Nat} (h : bI o < 0) (hb : ∀ k, o = some k → k < 2 ^ 31) : o = none := by
  cases o with
  | none => rfl
  | some k => exact absurd h (nI_pos (hb k rfl))
theorem bI_some {o : Option Nat} (h : ¬ bI o < 0) : ∃ k, o = some k := by
  cases o with
  | none => exact absurd (show (-1 : Int32) < 0 by decide) h
  | some k => exact ⟨k, rfl⟩
theorem mMay_1 {c ta : Int32} {b9 : Int64} {x : ME} (h1 : eC x.2 = c) (h2 : ¬ b9 < eT x.2) (h3 : x.1 ≠ 0 ∨ ta = 0) : mMay c ta b9 x = true := by
  unfold mMay
  rw [decide_eq_true h1, decide_eq_true (Int64.not_lt.mp h2)]
  rcases h3 with h | h
  · rw [decide_eq_true h]; rfl
  · rw [decide_eq_true h, Bool.or_true]; rfl
theorem mMay_a {c ta : Int32} {b9 : Int64} {x : ME} (h1 : ¬ eC x.2 = c) : mMay c ta b9 x = false := by
  unfold mMay
  rw [decide_eq_false h1]; rfl
theorem mMay_b {c ta : Int32} {b9 : Int64} {x : ME} (h1 : b9 < eT x.2) : mMay c ta b9 x = false := by
  unfold mMay
  rw [decide_eq_false (Int64.not_le.mpr h1), Bool.false_and, Bool.and_false]
theorem mMay_c {c ta : Int32} {b9 : Int64} {x : ME} (h1 : x.1 = 0) (h2 : ¬ ta = 0) : mMay c ta b9 x = false := by
  unfold mMay
  rw [decide_eq_false (show ¬ (x.1 ≠ 0) from fun q => q h1), decide_eq_false h2, Bool.or_self, Bool.and_false, Bool.and_false]
theorem mLt_t {rf : Int32} {x y : ME} (h : ¬ eT x.2 = eT y.2) : mLt rf x y = decide (eT x.2 < eT y.2) := if_pos h
theorem mLt_i {rf : Int32} {x y : ME} (h : eT x.2 = eT y.2) (h2 : ¬ x.1 = y.1) : mLt rf x y = decide (x.1 ≠ if rf = 1 then 1 else 0) := by
  unfold mLt
  rw [if_neg (fun q => q h), if_pos h2]
theorem mLt_k {rf : Int32} {x y : ME} (h : eT x.2 = eT y.2) (h2 : x.1 = y.1) (h3 : ¬ eK x.2 = eK y.2) : mLt rf x y = decide (eK x.2 < eK y.2) := by
  unfold mLt
  rw [if_neg (fun q => q h), if_neg (fun q => q h2), if_pos h3]
theorem mLt_n {rf : Int32} {x y : ME} (h : eT x.2 = eT y.2) (h2 : x.1 = y.1) (h3 : eK x.2 = eK y.2) : mLt rf x y = decide (eN x.2 < eN y.2) := by
  unfold mLt
  rw [if_neg (fun q => q h), if_neg (fun q => q h2), if_neg (fun q => q h3)]
theorem clk_of {c : Int32} (h : gClk c) : c = 0 ∨ c = 1 := by
  have h1 : (0 : Int) ≤ c.toInt := by have := Int64.le_iff_toInt_le.mp h.1; rw [Int32.toInt_toInt64] at this; exact this
  have h2 : c.toInt ≤ 1 := by have := Int64.le_iff_toInt_le.mp h.2; rw [Int32.toInt_toInt64] at this; exact this
  rcases (show c.toInt = 0 ∨ c.toInt = 1 by omega) with e | e
  · exact Or.inl (Int32.toInt_inj.mp e)
  · exact Or.inr (Int32.toInt_inj.mp e)
theorem clk_in {c : Int32} (h : gClk c) : vp_in c 8 := by
  rcases clk_of h with e | e <;> subst e <;> exact vp_in_iff.mpr (by decide)
theorem inr_of {c : Int32} {n : Nat} (hn : n < 2 ^ 31) (h : 0 ≤ c.toInt64 ∧ c.toInt64 ≤ Int64.ofNat n) : ∃ k, k ≤ n ∧ c = nI k := by
  have h1 : (0 : Int) ≤ c.toInt := by have := Int64.le_iff_toInt_le.mp h.1; rw [Int32.toInt_toInt64] at this; exact this
  have h2 : c.toInt ≤ n := by
    have := Int64.le_iff_toInt_le.mp h.2
    rw [Int32.toInt_toInt64, show (Int64.ofNat n).toInt = (n : Int) from pk_lT (by omega)] at this
    exact this
  refine ⟨c.toInt.toNat, by omega, Int32.toInt_inj.mp ?_⟩
  rw [nI_toInt (by omega)]
  omega
theorem what_of {c : Int32} (h : 0 ≤ c.toInt64 ∧ c.toInt64 ≤ 4) : c = 0 ∨ c = 1 ∨ c = 2 ∨ c = 3 ∨ c = 4 := by
  obtain ⟨k, hk, e⟩ := inr_of (n := 4) (by decide) h
  rcases (show k = 0 ∨ k = 1 ∨ k = 2 ∨ k = 3 ∨ k = 4 by omega) with q | q | q | q | q <;> subst q <;> subst e <;> decide
theorem what6_of {c : Int32} (h : 0 ≤ c.toInt64 ∧ c.toInt64 ≤ 6) : c = 0 ∨ c = 1 ∨ c = 2 ∨ c = 3 ∨ c = 4 ∨ c = 5 ∨ c = 6 := by
  obtain ⟨k, hk, e⟩ := inr_of (n := 6) (by decide) h
  rcases (show k = 0 ∨ k = 1 ∨ k = 2 ∨ k = 3 ∨ k = 4 ∨ k = 5 ∨ k = 6 by omega) with q | q | q | q | q | q | q <;> subst q <;> subst e <;> decide
/-- i below n, as the reference asks it -/
theorem below_of {x : Int32} {n : Nat} (hn : n < 2 ^ 30) (h : 0 ≤ x.toInt64 ∧ x.toInt64 ≤ (nI n - 1).toInt64) : ∃ k, k < n ∧ x = nI k := by
  have h1 : (0 : Int) ≤ x.toInt := by have := Int64.le_iff_toInt_le.mp h.1; rw [Int32.toInt_toInt64] at this; exact this
  have h2 : x.toInt ≤ (n : Int) - 1 := by
    have := Int64.le_iff_toInt_le.mp h.2
    rw [Int32.toInt_toInt64, Int32.toInt_toInt64, show (nI n - 1 : Int32) = nI n - nI 1 from rfl, pk_sub_toInt (by omega) (by decide)] at this
    exact this
  refine ⟨x.toInt.toNat, by omega, Int32.toInt_inj.mp ?_⟩
  rw [nI_toInt (by omega)]
  omega
theorem below_iff {x : Int32} {n k : Nat} (hn : n < 2 ^ 30) (hk : k < n) (e : x = nI k) : 0 ≤ x.toInt64 ∧ x.toInt64 ≤ (nI n - 1).toInt64 := by
  subst e
  have ek : (nI k).toInt = (k : Int) := nI_toInt (by omega)
  constructor
  · apply Int64.le_iff_toInt_le.mpr
    rw [Int32.toInt_toInt64, ek]
    show (0 : Int) ≤ (k : Int)
    omega
  · apply Int64.le_iff_toInt_le.mpr
    rw [Int32.toInt_toInt64, Int32.toInt_toInt64, ek, show (nI n - 1 : Int32) = nI n - nI 1 from rfl, pk_sub_toInt (by omega) (by decide)]
    omega
/-- the task of a key -/
def mTask (k : Int64) (n : Int32) : Int32 := (if (k - k / 128 * 128).toInt32 < 0 then (k - k / 128 * 128).toInt32 + 128 else (k - k / 128 * 128).toInt32) * n / 128
abbrev gTasks (n : Int32) : Prop := 1 ≤ n.toInt64 ∧ n.toInt64 ≤ 128
abbrev gLoad (x n : Int32) : Prop := gTasks n ∧ (0 ≤ x.toInt64 ∧ x.toInt64 ≤ (n - 1).toInt64)
abbrev mBet (v : MR) (c : Int32) (k t1 t2 : Int64) (j : Nat) : Bool := decide (mIt v j ≠ 0) && eBet c k t1 t2 (mE v j).2
def mLog (v : MR) (i : Nat) : MR := (mCode v, mW v, mIt v, mCk v, mNu v, mKe v, mTi v, mGa v, mOf v, mNw v, mCn v, mKp v, mDn v + 1, upd (mDk v) (mDn v) (if mIt v i = 0 then 0 else 1), upd (mDu v) (mDn v) (mNu v i), vp_updL (mDe v) (mDn v) (mKe v i), vp_updL (mDt v) (mDn v) (mTi v i), upd (mDo v) (mDn v) (mOf v i))
def mAgain (v : MR) (i : Nat) : MR := (mCode v, mW v, mIt v, mCk v, upd (mNu v) i (mCn v 0), mKe v, vp_updL (mTi v) i (mTi v i + mGa v i), mGa v, upd (mOf v) i (mOf v i - 1), mNw v, upd (mCn v) 0 (mCn v 0 + 1), mKp v, mDn v, mDk v, mDu v, mDe v, mDt v, mDo v)
def mStart (v : MR) (c : Int32) (t : Int64) : MR := (mCode v, mW v, mIt v, mCk v, mNu v, mKe v, mTi v, mGa v, mOf v, vp_updL (mNw v) c.toNatClampNeg t, mCn v, mKp v, 0, mDk v, mDu v, mDe v, mDt v, mDo v)
def mSetK (v : MR) (n : Nat) : MR := (mCode v, mW v, mIt v, mCk v, mNu v, mKe v, mTi v, mGa v, mOf v, mNw v, mCn v, n, mDn v, mDk v, mDu v, mDe v, mDt v, mDo v)
def mNows (v : MR) (f t : Nat) : MR := (mCode v, mW v, mIt v, mCk v, mNu v, mKe v, mTi v, mGa v, mOf v, vp_updL (vp_updL (mNw v) (2 * t) (mNw v (2 * f))) (2 * t + 1) (vp_updL (mNw v) (2 * t) (mNw v (2 * f)) (2 * f + 1)), mCn v, mKp v, mDn v, mDk v, mDu v, mDe v, mDt v, mDo v)
def mCps (v : MR) (f t : Nat) : Nat → MR
  | 0 => v
  | i + 1 => mCopy (mCps v f t i) (80 * f + i) (80 * t + i)
def mCnts (v : MR) (f t : Nat) : Nat → MR
  | 0 => v
  | k + 1 => mSetCn (mCnts v f t k) (4 * t + k) (mCn (mCnts v f t k) (4 * f + k))
def mLay (v : MR) (f t : Nat) : MR := mCnts (mNows (mCps (mSetW v t (mW v f)) f t (mW v f)) f t) f t 4
theorem mCps_w (v : MR) (f t : Nat) : ∀ i, mW (mCps v f t i) = mW v
  | 0 => rfl
  | i + 1 => mCps_w v f t i
theorem mCps_z {v : MR} {f t : Nat} (h : ∀ j, mIt v j = 0 ∨ mIt v j = 1) : ∀ i j, mIt (mCps v f t i) j = 0 ∨ mIt (mCps v f t i) j = 1
  | 0, j => h j
  | i + 1, j => by
    show upd (mIt (mCps v f t i)) (80 * t + i) (mIt (mCps v f t i) (80 * f + i)) j = 0 ∨ upd (mIt (mCps v f t i)) (80 * t + i) (mIt (mCps v f t i) (80 * f + i)) j = 1
    unfold upd
    split
    · exact mCps_z h i _
    · exact mCps_z h i _
def mZero : MR := (0, fun _ => 0, fun _ => 0, fun _ => 0, fun _ => 0, fun _ => 0, fun _ => 0, fun _ => 0, fun _ => 0, fun _ => 0, fun _ => 0, 0, 0, fun _ => 0, fun _ => 0, fun _ => 0, fun _ => 0, fun _ => 0)
def mStep (v : MR) (i : Nat) : MR := if mIt v i = 0 ∨ mOf v i ≤ 0 then mTake (mLog v i) i else mAgain (mLog v i) i
def mRun (c : Int32) (t : Int64) : Nat → MR → MR
  | 0, v => v
  | n + 1, v => match mLeast v c 0 t (mW v 0) with
    | none => v
    | some i => mRun c t n (mStep v i)
abbrev MZ (v : MR) : Prop := ∀ j, mIt v j = 0 ∨ mIt v j = 1
theorem mTake_z {v : MR} {i : Nat} (h : MZ v) : MZ (mTake v i) := fun j => by
  show upd (mIt v) i (mIt v _) j = 0 ∨ upd (mIt v) i (mIt v _) j = 1
  unfold upd
  split
  · exact h _
  · exact h _
theorem mStep_z {v : MR} {i : Nat} (h : MZ v) : MZ (mStep v i) := by
  unfold mStep
  split
  · exact mTake_z (v := mLog v i) h
  · exact h
theorem mTake_w (v : MR) (i : Nat) : mW (mTake v i) 0 = mW v 0 - 1 := va_up_self (mW v) 0 (mW v 0 - 1)
theorem mStep_w (v : MR) (i : Nat) : mW (mStep v i) 0 ≤ mW v 0 := by
  unfold mStep
  split
  · rw [mTake_w]; exact Nat.sub_le _ _
  · exact Nat.le_refl _
theorem mStep_d (v : MR) (i : Nat) : mDn (mStep v i) = mDn v + 1 := by
  unfold mStep
  split <;> rfl
theorem mRun_end {c : Int32} {t : Int64} {n : Nat} {v : MR} (h : mLeast v c 0 t (mW v 0) = none) : mRun c t n v = v := by
  cases n with
  | zero => rfl
  | succ n => rw [mRun, h]
theorem mRun_go {c : Int32} {t : Int64} {n i : Nat} {v : MR} (h : mLeast v c 0 t (mW v 0) = some i) : mRun c t (n + 1) v = mRun c t n (mStep v i) := by
  rw [mRun, h]
def mEnds (c : Int32) (t : Int64) (n : Nat) (v : MR) : Prop := mLeast (mRun c t n v) c 0 t (mW (mRun c t n v) 0) = none
theorem mLeast_code (v : MR) (x c ta : Int32) (b9 : Int64) : ∀ n, mLeast (mSetC v x) c ta b9 n = mLeast v c ta b9 n
  | 0 => rfl
  | n + 1 => by
    rw [mLeast, mLeast, mLeast_code v x c ta b9 n]; rfl
theorem eBet_n {c : Int32} {k fr to : Int64} {a : Ent} (h : ¬ (fr ≤ eT a ∧ eT a ≤ to)) : eBet c k fr to a = false := by
  by_cases h1 : fr ≤ eT a
  · exact eBet_b (Int64.not_le.mp (fun q => h ⟨h1, q⟩))
  · exact eBet_a (Int64.not_le.mp h1)
theorem mCnts_w (v : MR) (f t : Nat) : ∀ k, mW (mCnts v f t k) = mW v
  | 0 => rfl
  | k + 1 => mCnts_w v f t k
theorem mLay_w (v : MR) (f t : Nat) : mW (mLay v f t) = va_up (mW v) t (mW v f) := by
  unfold mLay
  rw [mCnts_w]
  show mW (mCps (mSetW v t (mW v f)) f t (mW v f)) = _
  rw [mCps_w]; rfl
theorem mLay_w0 (v : MR) (f : Nat) : mW (mLay v f 0) 0 = mW v f := by
  rw [mLay_w]; exact va_up_self (mW v) 0 (mW v f)
theorem mCps_k (v : MR) (f t : Nat) : ∀ i, mKp (mCps v f t i) = mKp v
  | 0 => rfl
  | i + 1 => mCps_k v f t i
theorem mCnts_k (v : MR) (f t : Nat) : ∀ k, mKp (mCnts v f t k) = mKp v
  | 0 => rfl
  | k + 1 => mCnts_k v f t k
theorem mLay_k (v : MR) (f t : Nat) : mKp (mLay v f t) = mKp v := by
  unfold mLay
  rw [mCnts_k]
  show mKp (mCps (mSetW v t (mW v f)) f t (mW v f)) = _
  rw [mCps_k]; rfl
