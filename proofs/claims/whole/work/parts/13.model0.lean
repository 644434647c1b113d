/-! The reference: its cells, and what they mean. -/
abbrev MR : Type := (Int32) × (Nat → Nat) × (Nat → Int32) × (Nat → Int32) × (Nat → Int32) × (Nat → Int64) × (Nat → Int64) × (Nat → Int64) × (Nat → Int32) × (Nat → Int64) × (Nat → Int32) × (Nat) × (Nat) × (Nat → Int32) × (Nat → Int32) × (Nat → Int64) × (Nat → Int64) × (Nat → Int32)
abbrev mCode (v : MR) : Int32 := v.1
abbrev mW (v : MR) : Nat → Nat := v.2.1
abbrev mIt (v : MR) : Nat → Int32 := v.2.2.1
abbrev mCk (v : MR) : Nat → Int32 := v.2.2.2.1
abbrev mNu (v : MR) : Nat → Int32 := v.2.2.2.2.1
abbrev mKe (v : MR) : Nat → Int64 := v.2.2.2.2.2.1
abbrev mTi (v : MR) : Nat → Int64 := v.2.2.2.2.2.2.1
abbrev mGa (v : MR) : Nat → Int64 := v.2.2.2.2.2.2.2.1
abbrev mOf (v : MR) : Nat → Int32 := v.2.2.2.2.2.2.2.2.1
abbrev mNw (v : MR) : Nat → Int64 := v.2.2.2.2.2.2.2.2.2.1
abbrev mCn (v : MR) : Nat → Int32 := v.2.2.2.2.2.2.2.2.2.2.1
abbrev mKp (v : MR) : Nat := v.2.2.2.2.2.2.2.2.2.2.2.1
abbrev mDn (v : MR) : Nat := v.2.2.2.2.2.2.2.2.2.2.2.2.1
abbrev mDk (v : MR) : Nat → Int32 := v.2.2.2.2.2.2.2.2.2.2.2.2.2.1
abbrev mDu (v : MR) : Nat → Int32 := v.2.2.2.2.2.2.2.2.2.2.2.2.2.2.1
abbrev mDe (v : MR) : Nat → Int64 := v.2.2.2.2.2.2.2.2.2.2.2.2.2.2.2.1
abbrev mDt (v : MR) : Nat → Int64 := v.2.2.2.2.2.2.2.2.2.2.2.2.2.2.2.2.1
abbrev mDo (v : MR) : Nat → Int32 := v.2.2.2.2.2.2.2.2.2.2.2.2.2.2.2.2.2
abbrev MA : Type := Nat × Nat × Nat × Nat × Nat × Nat × Nat × Nat × Nat × Nat × Nat × Nat × Nat × Nat × Nat × Nat
abbrev bH (B : MA) : Nat := B.1
abbrev bW (B : MA) : Nat := B.2.1
abbrev bIt (B : MA) : Nat := B.2.2.1
abbrev bCk (B : MA) : Nat := B.2.2.2.1
abbrev bNu (B : MA) : Nat := B.2.2.2.2.1
abbrev bKe (B : MA) : Nat := B.2.2.2.2.2.1
abbrev bTi (B : MA) : Nat := B.2.2.2.2.2.2.1
abbrev bGa (B : MA) : Nat := B.2.2.2.2.2.2.2.1
abbrev bOf (B : MA) : Nat := B.2.2.2.2.2.2.2.2.1
abbrev bNw (B : MA) : Nat := B.2.2.2.2.2.2.2.2.2.1
abbrev bCn (B : MA) : Nat := B.2.2.2.2.2.2.2.2.2.2.1
abbrev bDk (B : MA) : Nat := B.2.2.2.2.2.2.2.2.2.2.2.1
abbrev bDu (B : MA) : Nat := B.2.2.2.2.2.2.2.2.2.2.2.2.1
abbrev bDe (B : MA) : Nat := B.2.2.2.2.2.2.2.2.2.2.2.2.2.1
abbrev bDt (B : MA) : Nat := B.2.2.2.2.2.2.2.2.2.2.2.2.2.2.1
abbrev bDo (B : MA) : Nat := B.2.2.2.2.2.2.2.2.2.2.2.2.2.2.2
abbrev wMo (cI cJ cZ : ClassId) (B : MA) (v : MR) : va_W := [(bH B, .inr (4, [.int (mCode v), .ref (bW B), .ref (bIt B), .ref (bCk B), .ref (bNu B), .ref (bKe B), .ref (bTi B), .ref (bGa B), .ref (bOf B), .ref (bNw B), .ref (bCn B), .int (nI (mKp v)), .int (nI (mDn v)), .ref (bDk B), .ref (bDu B), .ref (bDe B), .ref (bDt B), .ref (bDo B)])), (bW B, .inl (cI, 4, .inl (fun j9 => nI (mW v j9)))), (bIt B, .inl (cZ, 320, .inl (mIt v))), (bCk B, .inl (cI, 320, .inl (mCk v))), (bNu B, .inl (cI, 320, .inl (mNu v))), (bKe B, .inl (cJ, 320, .inr (.inl (mKe v)))), (bTi B, .inl (cJ, 320, .inr (.inl (mTi v)))), (bGa B, .inl (cJ, 320, .inr (.inl (mGa v)))), (bOf B, .inl (cI, 320, .inl (mOf v))), (bNw B, .inl (cJ, 8, .inr (.inl (mNw v)))), (bCn B, .inl (cI, 16, .inl (mCn v))), (bDk B, .inl (cI, 4000, .inl (mDk v))), (bDu B, .inl (cI, 4000, .inl (mDu v))), (bDe B, .inl (cJ, 4000, .inr (.inl (mDe v)))), (bDt B, .inl (cJ, 4000, .inr (.inl (mDt v)))), (bDo B, .inl (cI, 4000, .inl (mDo v)))]
abbrev ME : Type := Int32 × Ent
/-- what stands at a place: whether it is a timer, and what it is -/
def mE (v : MR) (j : Nat) : ME := (mIt v j, (mNu v j, mCk v j, mKe v j, mTi v j, mGa v j, mOf v j))
def mAb (v : MR) : List ME := (List.range (mW v 0)).map (mE v)
def mSetC (v : MR) (x : Int32) : MR := (x, mW v, mIt v, mCk v, mNu v, mKe v, mTi v, mGa v, mOf v, mNw v, mCn v, mKp v, mDn v, mDk v, mDu v, mDe v, mDt v, mDo v)
def mSetW (v : MR) (b n : Nat) : MR := (mCode v, va_up (mW v) b n, mIt v, mCk v, mNu v, mKe v, mTi v, mGa v, mOf v, mNw v, mCn v, mKp v, mDn v, mDk v, mDu v, mDe v, mDt v, mDo v)
def mAdd (v : MR) (b : Int32) (a : Ent) : MR := (mCode v, va_up (mW v) 0 (mW v 0 + 1), upd (mIt v) (mW v 0) b, upd (mCk v) (mW v 0) (eC a), upd (mNu v) (mW v 0) (eN a), vp_updL (mKe v) (mW v 0) (eK a), vp_updL (mTi v) (mW v 0) (eT a), vp_updL (mGa v) (mW v 0) (eG a), upd (mOf v) (mW v 0) (eO a), mNw v, mCn v, mKp v, mDn v, mDk v, mDu v, mDe v, mDt v, mDo v)
def mCopy (v : MR) (f t : Nat) : MR := (mCode v, mW v, upd (mIt v) t (mIt v f), upd (mCk v) t (mCk v f), upd (mNu v) t (mNu v f), vp_updL (mKe v) t (mKe v f), vp_updL (mTi v) t (mTi v f), vp_updL (mGa v) t (mGa v f), upd (mOf v) t (mOf v f), mNw v, mCn v, mKp v, mDn v, mDk v, mDu v, mDe v, mDt v, mDo v)
def mBegin (v : MR)  : MR := (mCode v, va_up (mW v) 0 0, mIt v, mCk v, mNu v, mKe v, mTi v, mGa v, mOf v, vp_updL (vp_updL (mNw v) 0 (-1)) 1 (-1), upd (upd (upd (upd (mCn v) 0 0) 1 0) 2 0) 3 1, 0, 0, mDk v, mDu v, mDe v, mDt v, mDo v)
def mSetT (v : MR) (i : Nat) (t : Int64) : MR := (mCode v, mW v, mIt v, mCk v, mNu v, mKe v, vp_updL (mTi v) i t, mGa v, mOf v, mNw v, mCn v, mKp v, mDn v, mDk v, mDu v, mDe v, mDt v, mDo v)
def mSetCn (v : MR) (k : Nat) (x : Int32) : MR := (mCode v, mW v, mIt v, mCk v, mNu v, mKe v, mTi v, mGa v, mOf v, mNw v, upd (mCn v) k x, mKp v, mDn v, mDk v, mDu v, mDe v, mDt v, mDo v)
def mTake (v : MR) (i : Nat) : MR := mCopy (mSetW v 0 (mW v 0 - 1)) (mW (mSetW v 0 (mW v 0 - 1)) 0) i
/-- x stands ahead of y, rows first if so told -/
def mLt (rf : Int32) (x y : ME) : Bool := if eT x.2 ≠ eT y.2 then decide (eT x.2 < eT y.2) else if x.1 ≠ y.1 then decide (x.1 ≠ if rf = 1 then 1 else 0) else if eK x.2 ≠ eK y.2 then decide (eK x.2 < eK y.2) else decide (eN x.2 < eN y.2)
def mMay (c ta : Int32) (by9 : Int64) (x : ME) : Bool := decide (eC x.2 = c) && (decide (eT x.2 ≤ by9) && (decide (x.1 ≠ 0) || decide (ta = 0)))
/-- the place of the least that may be, among the first ones -/
def mLeast (v : MR) (c ta : Int32) (by9 : Int64) : Nat → Option Nat
  | 0 => none
  | n + 1 => match mLeast v c ta by9 n with
    | none => if mMay c ta by9 (mE v n) = true then some n else none
    | some k => if mMay c ta by9 (mE v n) = true then (if mLt (mCn v 3) (mE v n) (mE v k) = true then some n else some k) else some k
def bI (o : Option Nat) : Int32 := match o with
  | none => -1
  | some k => nI k
theorem if_z {P : Prop} [Decidable P] {r : Int32} (h : r = if P then 1 else 0) (c : r = 0) : ¬ P := fun hp => by
  rw [if_pos hp, c] at h; exact absurd h (by decide)
theorem if_nz {P : Prop} [Decidable P] {r : Int32} (h : r = if P then 1 else 0) (c : ¬ r = 0) : P := Decidable.byContradiction fun hp => c (by rw [if_neg hp] at h; exact h)
abbrev gClk (c : Int32) : Prop := 0 ≤ c.toInt64 ∧ c.toInt64 ≤ 1
abbrev gTim (t : Int64) : Prop := 0 ≤ t ∧ t ≤ 1000000000000
abbrev gSet (c : Int32) (t g : Int64) (o : Int32) : Prop := gClk c ∧ gTim t ∧ (0 ≤ g ∧ g ≤ 1000000000) ∧ (0 ≤ o.toInt64 ∧ o.toInt64 ≤ 50)
abbrev mMany (v : MR) (b : Int32) : Nat := cnt (fun j9 => decide (mIt v j9 = b)) (mW v 0)
def mSet (v : MR) (a : Ent) : MR := mSetCn (mAdd (mSetC v 0) 1 a) 0 (mCn v 0 + 1)
def mRow (v : MR) (a : Ent) : MR := mSetCn (mAdd (mSetC (mSetC v 0) 0) 0 a) 1 (mCn v 1 + 1)
