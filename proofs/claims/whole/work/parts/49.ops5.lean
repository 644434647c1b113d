/-! Tasks; what is kept and comes back. -/
theorem ctask_eq (k : Int64) (n : Int32) : cTask k n = mTask k n := by
  unfold cTask cMod mTask
  have hr := rem128 k
  have h1 : (k - k / 128 * 128).toInt < 128 := by
    rw [hr]; exact Int.tmod_lt_of_pos _ (by decide)
  have h2 : -128 < (k - k / 128 * 128).toInt := by
    rw [hr]; exact Int.lt_tmod_of_pos _ (by decide)
  generalize k - k / 128 * 128 = R at h1 h2
  have e32 : R.toInt32.toInt = R.toInt := by
    rw [Int64.toInt_toInt32, Int.bmod_eq_of_le] <;> simp <;> omega
  have hlt : R < 0 ↔ R.toInt32 < 0 := by
    rw [Int64.lt_iff_toInt_lt, Int32.lt_iff_toInt_lt, e32]
    exact Iff.rfl
  congr 2
  show (if R < 0 then R + 128 else R).toInt32 = _
  by_cases h : R < 0
  · rw [if_pos h, if_pos (hlt.mp h), Int64.toInt32_add]; rfl
  · rw [if_neg h, if_neg (fun q => h (hlt.mpr q))]
theorem op_task {tr : TrR} {kp : List (StA × StR)} {v u2 : MR} {B : Nat} {k : Int64} {n : Int32} {of9 : Nat → Int64} {r9 r : Int32} {w2 : TrR × (Nat → Int64)} (h : LRel tr kp v B)
    (hc : (r9 = 0 ∧ ∃ v1 : Int32, (((¬ n < 1 ∧ n ≤ 128) ∧ v1 = cTask k n) ∧ w2.1 = tr) ∧ w2.2 0 = v1.toInt64) ∨ (r9 = 1 ∧ w2 = (tr, of9) ∧ ¬ (¬ n < 1 ∧ n ≤ 128)))
    (hm : (¬ gTasks n ∧ u2 = mSetC v 1) ∨ (gTasks n ∧ u2 = mSetC v 0 ∧ r = mTask k n)) : mCode u2 = r9 ∧ (r9 = 0 → w2.2 0 = r.toInt64) ∧ LRel w2.1 kp u2 B := by
  rcases hc with ⟨rfl, v1, ⟨⟨hg, rfl⟩, e1⟩, h0⟩ | ⟨rfl, rfl, hg⟩
  · rw [rngT] at hg
    rcases hm with ⟨h1, -⟩ | ⟨-, rfl, rfl⟩
    · exact absurd hg h1
    · exact ⟨rfl, fun _ => by rw [h0, ctask_eq], by rw [e1]; exact h⟩
  · rw [rngT] at hg
    rcases hm with ⟨-, rfl⟩ | ⟨h1, -⟩
    · exact ⟨rfl, fun q => absurd q (by decide), h⟩
    · exact absurd h1 hg
theorem op_load {tr : TrR} {kp : List (StA × StR)} {v u2 : MR} {B : Nat} {x n : Int32} {of9 : Nat → Int64} {r9 r : Int32} {w2 : TrR × (Nat → Int64)} (h : LRel tr kp v B)
    (hc : (r9 = 0 ∧ ∃ v1 : Int32, ((((¬ n < 1 ∧ n ≤ 128) ∧ (¬ x < 0 ∧ x < n)) ∧ v1 = nI (cnt (fun j9 => decide (cTask (eK (lAt (sT (tX tr)) j9)) n = x)) (lSz (sT (tX tr))) + cnt (fun j9 => decide (cTask (eK (lAt (sR (tX tr)) j9)) n = x)) (lSz (sR (tX tr))))) ∧ w2.1 = tr) ∧ w2.2 0 = v1.toInt64) ∨ (r9 = 1 ∧ w2 = (tr, of9) ∧ ¬ ((¬ n < 1 ∧ n ≤ 128) ∧ (¬ x < 0 ∧ x < n))))
    (hm : (¬ gLoad x n ∧ u2 = mSetC v 1) ∨ (gLoad x n ∧ u2 = mSetC v 0 ∧ r = nI (cnt (fun j9 => decide (mTask (mKe v j9) n = x)) (mW v 0)))) : mCode u2 = r9 ∧ (r9 = 0 → w2.2 0 = r.toInt64) ∧ LRel w2.1 kp u2 B := by
  have hb := h.2.2.1
  rcases hc with ⟨rfl, v1, ⟨⟨hg, rfl⟩, e1⟩, h0⟩ | ⟨rfl, rfl, hg⟩
  · rw [cload_iff] at hg
    rcases hm with ⟨h1, -⟩ | ⟨-, rfl, rfl⟩
    · exact absurd hg h1
    · refine ⟨rfl, fun _ => ?_, by rw [e1]; exact h⟩
      rw [h0]
      congr 2
      refine Eq.symm ((brel_cnt hb (fun m => decide (mTask (eK m.2) n = x))).trans ?_)
      rw [cnt_ab (sT (tX tr)) (fun e => decide (cTask (eK e) n = x)), cnt_ab (sR (tX tr)) (fun e => decide (cTask (eK e) n = x))]
      simp only [ctask_eq]
  · rw [cload_iff] at hg
    rcases hm with ⟨-, rfl⟩ | ⟨h1, -⟩
    · exact ⟨rfl, fun q => absurd q (by decide), h⟩
    · exact absurd h1 hg
/-! One row laid over another. -/
theorem mCps_e (v : MR) (f t : Nat) (hne : f ≠ t) : ∀ i, i ≤ 80 → ∀ j, mE (mCps v f t i) j = if 80 * t ≤ j ∧ j < 80 * t + i then mE v (80 * f + (j - 80 * t)) else mE v j
  | 0, _, j => by rw [if_neg (by omega)]; rfl
  | i + 1, hi, j => by
    show mE (mCopy (mCps v f t i) (80 * f + i) (80 * t + i)) j = _
    rw [mE_copy, mCps_e v f t hne i (by omega) (80 * f + i), mCps_e v f t hne i (by omega) j]
    by_cases h1 : j = 80 * t + i
    · rw [if_pos h1, if_neg (by omega), if_pos (by omega)]
      congr 1
      omega
    · rw [if_neg h1]
      by_cases h2 : 80 * t ≤ j ∧ j < 80 * t + i
      · rw [if_pos h2, if_pos (by omega)]
      · rw [if_neg h2, if_neg (by omega)]
theorem mCps_n (v : MR) (f t : Nat) : ∀ i, (mNw (mCps v f t i), mCn (mCps v f t i), mCode (mCps v f t i), mDn (mCps v f t i), mDk (mCps v f t i), mDu (mCps v f t i), mDe (mCps v f t i), mDt (mCps v f t i), mDo (mCps v f t i)) = (mNw v, mCn v, mCode v, mDn v, mDk v, mDu v, mDe v, mDt v, mDo v)
  | 0 => rfl
  | i + 1 => mCps_n v f t i
theorem mCnts_n (v : MR) (f t : Nat) : ∀ i, (mNw (mCnts v f t i), mE (mCnts v f t i), mCode (mCnts v f t i), mDn (mCnts v f t i), mDk (mCnts v f t i), mDu (mCnts v f t i), mDe (mCnts v f t i), mDt (mCnts v f t i), mDo (mCnts v f t i)) = (mNw v, mE v, mCode v, mDn v, mDk v, mDu v, mDe v, mDt v, mDo v)
  | 0 => rfl
  | i + 1 => mCnts_n v f t i
theorem mCnts_c (v : MR) (f t : Nat) (hne : f ≠ t) : ∀ i, i ≤ 4 → ∀ j, mCn (mCnts v f t i) j = if 4 * t ≤ j ∧ j < 4 * t + i then mCn v (4 * f + (j - 4 * t)) else mCn v j
  | 0, _, j => by rw [if_neg (by omega)]; rfl
  | i + 1, hi, j => by
    show upd (mCn (mCnts v f t i)) (4 * t + i) (mCn (mCnts v f t i) (4 * f + i)) j = _
    rw [mCnts_c v f t hne i (by omega) (4 * f + i)]
    by_cases h1 : j = 4 * t + i
    · rw [h1, pk_us, if_neg (by omega), if_pos (by omega)]
      congr 1
      omega
    · rw [pk_un h1, mCnts_c v f t hne i (by omega) j]
      by_cases h2 : 4 * t ≤ j ∧ j < 4 * t + i
      · rw [if_pos h2, if_pos (by omega)]
      · rw [if_neg h2, if_neg (by omega)]
theorem mLay_e {v : MR} {f t : Nat} (hne : f ≠ t) (hw : mW v f ≤ 80) (j : Nat) : mE (mLay v f t) j = if 80 * t ≤ j ∧ j < 80 * t + mW v f then mE v (80 * f + (j - 80 * t)) else mE v j := by
  have h1 := congrArg (fun q => q.2.1) (mCnts_n (mNows (mCps (mSetW v t (mW v f)) f t (mW v f)) f t) f t 4)
  have h2 : mE (mLay v f t) j = mE (mCps (mSetW v t (mW v f)) f t (mW v f)) j := congrFun h1 j
  rw [h2, mCps_e _ f t hne _ hw]; rfl
theorem mLay_c {v : MR} {f t : Nat} (hne : f ≠ t) (j : Nat) : mCn (mLay v f t) j = if 4 * t ≤ j ∧ j < 4 * t + 4 then mCn v (4 * f + (j - 4 * t)) else mCn v j := by
  have h1 : mCn (mNows (mCps (mSetW v t (mW v f)) f t (mW v f)) f t) = mCn v := congrArg (fun q => q.2.1) (mCps_n (mSetW v t (mW v f)) f t (mW v f))
  unfold mLay
  rw [mCnts_c _ f t hne 4 (Nat.le_refl _), h1]
theorem mLay_n {v : MR} {f t : Nat} (hne : f ≠ t) (j : Nat) : mNw (mLay v f t) j = if j = 2 * t then mNw v (2 * f) else if j = 2 * t + 1 then mNw v (2 * f + 1) else mNw v j := by
  have h1 : mNw (mCps (mSetW v t (mW v f)) f t (mW v f)) = mNw v := congrArg (fun q => q.1) (mCps_n (mSetW v t (mW v f)) f t (mW v f))
  have h2 : mNw (mLay v f t) = mNw (mNows (mCps (mSetW v t (mW v f)) f t (mW v f)) f t) := congrArg (fun q => q.1) (mCnts_n (mNows (mCps (mSetW v t (mW v f)) f t (mW v f)) f t) f t 4)
  rw [h2]
  show vp_updL (vp_updL (mNw (mCps (mSetW v t (mW v f)) f t (mW v f))) (2 * t) (mNw (mCps (mSetW v t (mW v f)) f t (mW v f)) (2 * f))) (2 * t + 1) (vp_updL (mNw (mCps (mSetW v t (mW v f)) f t (mW v f))) (2 * t) (mNw (mCps (mSetW v t (mW v f)) f t (mW v f)) (2 * f)) (2 * f + 1)) j = _
  rw [h1]
  by_cases e1 : j = 2 * t + 1
  · rw [if_neg (by omega), if_pos e1, e1, pk_uLs, pk_uLn (by omega)]
  · rw [pk_uLn e1, if_neg e1]
    by_cases e2 : j = 2 * t
    · rw [if_pos e2, e2, pk_uLs]
    · rw [if_neg e2, pk_uLn e2]
theorem mLay_l (v : MR) (f t : Nat) : mCode (mLay v f t) = mCode v ∧ mDn (mLay v f t) = mDn v ∧ mDk (mLay v f t) = mDk v ∧ mDu (mLay v f t) = mDu v ∧ mDe (mLay v f t) = mDe v ∧ mDt (mLay v f t) = mDt v ∧ mDo (mLay v f t) = mDo v := by
  have h1 := congrArg (fun q => q.2.2) (mCnts_n (mNows (mCps (mSetW v t (mW v f)) f t (mW v f)) f t) f t 4)
  have h2 := congrArg (fun q => q.2.2) (mCps_n (mSetW v t (mW v f)) f t (mW v f))
  have h3 := h1.trans h2
  exact ⟨congrArg (fun q => q.1) h3, congrArg (fun q => q.2.1) h3, congrArg (fun q => q.2.2.1) h3, congrArg (fun q => q.2.2.2.1) h3, congrArg (fun q => q.2.2.2.2.1) h3, congrArg (fun q => q.2.2.2.2.2.1) h3, congrArg (fun q => q.2.2.2.2.2.2) h3⟩
theorem mLay_z {v : MR} {f t : Nat} (hne : f ≠ t) (hw : mW v f ≤ 80) (h : MZ v) : MZ (mLay v f t) := fun j => by
  show (mE (mLay v f t) j).1 = 0 ∨ (mE (mLay v f t) j).1 = 1
  rw [mLay_e hne hw]
  split
  · exact h _
  · exact h _
/-- the row that is laid is that of the other one then -/
theorem brel_lay {x : StR} {v : MR} {f t : Nat} (hne : f ≠ t) (hw : mW v f ≤ 80) (h : BRel x v f) : BRel x (mLay v f t) t := by
  have ew : mW (mLay v f t) t = mW v f := by rw [mLay_w]; exact va_up_self (mW v) t (mW v f)
  have e : mBl (mLay v f t) t = mBl v f := by
    unfold mBl
    rw [ew]
    refine List.map_congr_left (fun i hi => ?_)
    have := List.mem_range.mp hi
    rw [mLay_e hne hw, if_pos (by omega)]
    congr 1
    omega
  obtain ⟨h0, h1, h2, h3, h4, h5, h6⟩ := h
  have hc : ∀ k, k < 4 → mCn (mLay v f t) (4 * t + k) = mCn v (4 * f + k) := fun k hk => by
    rw [mLay_c hne, if_pos (by omega)]
    congr 1
    omega
  refine ⟨by rw [e]; exact h0, ?_, ?_, h3.trans (hc 0 (by decide)).symm, h4.trans (hc 1 (by decide)).symm, h5.trans (hc 2 (by decide)).symm, h6.trans (hc 3 (by decide)).symm⟩
  · rw [mLay_n hne, if_pos rfl]; exact h1
  · rw [mLay_n hne, if_neg (by omega), if_pos rfl]; exact h2
/-- .. and the others stay -/
theorem brel_lay2 {x : StR} {v : MR} {f t b : Nat} (hne : f ≠ t) (hw : mW v f ≤ 80) (hb : b ≠ t) (hwb : mW v b ≤ 80) (h : BRel x v b) : BRel x (mLay v f t) b := by
  refine brel_cong h ?_ (fun i hi => ?_) (fun k hk => ?_) (fun k hk => ?_)
  · rw [mLay_w]; exact vup_ne hb
  · rw [mLay_e hne hw, if_neg (by omega)]
  · rw [mLay_n hne, if_neg (by omega), if_neg (by omega)]
  · rw [mLay_c hne, if_neg (by omega)]
theorem sCopy_ok {x y : StR} (h : StOk y) : StOk (sCopy x y) := by
  have e1 : lAb (sT (sCopy x y)) = lAb (sT y) := lCopy_ab h.1.1
  have e2 : lAb (sR (sCopy x y)) = lAb (sR y) := lCopy_ab h.2.1.1
  exact ⟨⟨lCopy_ok h.1.1, by rw [e1]; exact h.1.2⟩, ⟨lCopy_ok h.2.1.1, by rw [e2]; exact h.2.1.2⟩, h.2.2.1, fun e he => h.2.2.2 e (by rw [← e1]; exact he)⟩
theorem sCopy_in {x y : StR} {B : Nat} (h : StOk y) (hs : SIn y B) : SIn (sCopy x y) B := by
  have e1 : lAb (sT (sCopy x y)) = lAb (sT y) := lCopy_ab h.1.1
  have e2 : lAb (sR (sCopy x y)) = lAb (sR y) := lCopy_ab h.2.1.1
  unfold SIn
  rw [e1, e2]
  exact hs
theorem sCopy_rel {x y : StR} {v : MR} {b : Nat} (h : StOk y) (hs : BRel y v b) : BRel (sCopy x y) v b := by
  have e1 : lAb (sT (sCopy x y)) = lAb (sT y) := lCopy_ab h.1.1
  have e2 : lAb (sR (sCopy x y)) = lAb (sR y) := lCopy_ab h.2.1.1
  unfold BRel
  rw [e1, e2, show sNw (sCopy x y) 0 = sNw y 0 from cpy0n (n := 2) (j := 0) (sNw y) (sNw x) (by decide), show sNw (sCopy x y) 1 = sNw y 1 from cpy0n (n := 2) (j := 1) (sNw y) (sNw x) (by decide)]
  exact hs
theorem grel_lay {g : LgR} {v : MR} (h : GRel g v) (f t : Nat) : GRel g (mLay v f t) := by
  obtain ⟨-, a1, a2, a3, a4, a5, a6⟩ := mLay_l v f t
  unfold GRel
  rw [a1, a2, a3, a4, a5, a6]
  exact h
theorem brel_K {x : StR} {V : MR} {b : Nat} (n : Nat) (h : BRel x V b) : BRel x (mSetK V n) b := h
theorem grel_K {g : LgR} {V : MR} (n : Nat) (h : GRel g V) : GRel g (mSetK V n) := h
theorem z_K {V : MR} (n : Nat) (h : MZ V) : MZ (mSetK V n) := h
theorem w_K (V : MR) (n b : Nat) : mW (mSetK V n) b = mW V b := rfl
theorem code_K (V : MR) (n : Nat) : mCode (mSetK V n) = mCode V := rfl
theorem kp_K (V : MR) (n : Nat) : mKp (mSetK V n) = n := rfl
/-- one more is kept, in the room of q -/
theorem krel_keep {tr tr' : TrR} {kp kp' : List (StA × StR)} {v : MR} {B : Nat} {q : StA × StR} {y : StR} (h : LRel tr kp v B) (hlt : tN tr < 3) (hq : q.2 = sCopy y (tX tr)) (e1 : tX tr' = tX tr) (e2 : tG tr' = tG tr) (e3 : tN tr' = tN tr + 1) (hf : ∀ j, j < 3 → tF tr' j = (kp'[j]?).map (fun q => sH q.1)) (hl : kp'.length ≤ 3) (hn : kp'[tN tr]? = some q) (ho : ∀ j, j < tN tr → kp'[j]? = kp[j]?) : LRel tr' kp' (mSetK (mLay (mSetC v 0) 0 (mKp v + 1)) (mKp v + 1)) B := by
  obtain ⟨a1, a2, a3, a4, a5, a6, k1, k2, k3, k4, k5, k6⟩ := h
  have hne : (0 : Nat) ≠ mKp v + 1 := by omega
  have hw0 := a6 0 (by decide)
  refine ⟨⟨by rw [e1]; exact a1.1, by rw [e2]; exact a1.2⟩, by rw [e1]; exact a2, ?_, ?_, ?_, ?_, ?_, ?_, ?_, hl, hf, ?_⟩
  · rw [e1]
    exact brel_K _ (brel_lay2 (v := mSetC v 0) hne hw0 hne hw0 a3)
  · rw [e2]
    exact grel_K _ (grel_lay (v := mSetC v 0) a4 0 _)
  · exact z_K _ (mLay_z (v := mSetC v 0) hne hw0 a5)
  · intro b hb
    rw [w_K, mLay_w]
    show va_up (mW v) (mKp v + 1) (mW v 0) b ≤ 80
    by_cases e : b = mKp v + 1
    · rw [e, va_up_self]; exact hw0
    · rw [vup_ne e]; exact a6 b hb
  · rw [e3, k1, kp_K]
  · rw [e3]; omega
  · rw [e3]
    obtain ⟨hi, -⟩ := List.getElem?_eq_some_iff.mp hn
    exact hi
  · intro j w hj hw
    rw [e3] at hj
    rcases Nat.lt_succ_iff_lt_or_eq.mp hj with h1 | h1
    · rw [ho j h1] at hw
      obtain ⟨b1, b2, b3⟩ := k6 j w h1 hw
      exact ⟨b1, b2, brel_K _ (brel_lay2 (v := mSetC v 0) hne hw0 (by omega) (a6 (j + 1) (by omega)) b3)⟩
    · subst h1
      rw [hn] at hw
      cases hw
      rw [hq]
      refine ⟨sCopy_ok a1.1, sCopy_in a1.1 a2, ?_⟩
      rw [← k1]
      exact brel_K _ (sCopy_rel a1.1 (brel_lay (v := mSetC v 0) (by omega) hw0 a3))
theorem op_keepN {tr : TrR} {kp : List (StA × StR)} {v u2 : MR} {B : Nat} {of9 : Nat → Int64} {r9 r : Int32} {w2 : (TrR ⊕ (TrR × StA × StR)) × (Nat → Int64)} (h : LRel tr kp v B) (hno : tN tr < 3 → tF tr (tN tr) = none)
    (hc : (r9 = 0 ∧ ∃ v1 : Int32, (∃ t, w2.1 = .inr t ∧ (tN tr < 3 ∧ v1 = nI (tN tr) ∧ t.1 = (tX tr, va_up (tF tr) (tN tr) (some (sH t.2.1)), tG tr, tN tr + 1) ∧ ∃ y, t.2.2 = sCopy y (tX tr))) ∧ w2.2 0 = v1.toInt64) ∨ (r9 = 1 ∧ w2 = (.inl tr, of9) ∧ tN tr = 3))
    (hm : (mKp v = 3 ∧ u2 = mSetC v 1) ∨ (mKp v < 3 ∧ u2 = mSetK (mLay (mSetC v 0) 0 (mKp v + 1)) (mKp v + 1) ∧ r = nI (mKp v))) :
    mCode u2 = r9 ∧ (r9 = 0 → w2.2 0 = r.toInt64) ∧ ((∃ t, w2.1 = .inr t ∧ LRel t.1 (kp ++ [t.2]) u2 B) ∨ (w2.1 = .inl tr ∧ LRel tr kp u2 B)) := by
  obtain ⟨k1, k2, k3, k4, k5, k6⟩ := h.2.2.2.2.2.2
  rcases hc with ⟨rfl, v1, ⟨t, ht, hlt, rfl, h1, y, hy⟩, h0⟩ | ⟨rfl, rfl, h3⟩
  · rcases hm with ⟨h2, -⟩ | ⟨-, rfl, rfl⟩
    · omega
    · refine ⟨(code_K _ _).trans (mLay_l (mSetC v 0) 0 (mKp v + 1)).1, fun _ => by rw [h0, k1], Or.inl ⟨t, ht, ?_⟩⟩
      have hlen : kp.length = tN tr := by
        have := k5 (tN tr) hlt
        rw [hno hlt] at this
        have h9 : kp[tN tr]? = none := by
          cases e : kp[tN tr]? with
          | none => rfl
          | some q => rw [e] at this; cases this
        have := List.getElem?_eq_none_iff.mp h9
        omega
      refine krel_keep (q := t.2) (y := y) h hlt hy (by rw [h1]) (by rw [h1]) (by rw [h1]) (fun j hj => ?_) (by rw [List.length_append]; show kp.length + 1 ≤ 3; omega) (by rw [← hlen]; exact List.getElem?_concat_length) (fun j hj => List.getElem?_append_left (by omega))
      rw [h1]
      show va_up (tF tr) (tN tr) (some (sH t.2.1)) j = _
      unfold va_up
      by_cases e : j = tN tr
      · rw [if_pos e, e, ← hlen, List.getElem?_concat_length]; rfl
      · rw [if_neg e, k5 j hj]
        congr 1
        rcases Nat.lt_or_ge j kp.length with h9 | h9
        · exact (List.getElem?_append_left h9).symm
        · rw [List.getElem?_eq_none h9, List.getElem?_eq_none (by rw [List.length_append]; show kp.length + 1 ≤ j; omega)]
  · rcases hm with ⟨-, rfl⟩ | ⟨h2, -⟩
    · exact ⟨rfl, fun q => absurd q (by decide), Or.inr ⟨rfl, h⟩⟩
    · omega
theorem op_keepS {tr : TrR} {kp : List (StA × StR)} {v u2 : MR} {B : Nat} {S2 : StA} {y : StR} {r9 r : Int32} {w2 : (TrR × StR) × (Nat → Int64)} (h : LRel tr kp v B) (hlt : tN tr < 3) (hk : kp[tN tr]? = some (S2, y))
    (hc : r9 = 0 ∧ ∃ v1 : Int32, (v1 = nI (tN tr) ∧ w2.1 = (tSetN tr (tN tr + 1), sCopy y (tX tr))) ∧ w2.2 0 = v1.toInt64)
    (hm : (mKp v = 3 ∧ u2 = mSetC v 1) ∨ (mKp v < 3 ∧ u2 = mSetK (mLay (mSetC v 0) 0 (mKp v + 1)) (mKp v + 1) ∧ r = nI (mKp v))) :
    mCode u2 = r9 ∧ (r9 = 0 → w2.2 0 = r.toInt64) ∧ LRel w2.1.1 (kp.set (tN tr) (S2, w2.1.2)) u2 B := by
  obtain ⟨k1, k2, k3, k4, k5, k6⟩ := h.2.2.2.2.2.2
  obtain ⟨rfl, v1, ⟨rfl, h1⟩, h0⟩ := hc
  rcases hm with ⟨h2, -⟩ | ⟨-, rfl, rfl⟩
  · omega
  · refine ⟨(code_K _ _).trans (mLay_l (mSetC v 0) 0 (mKp v + 1)).1, fun _ => by rw [h0, k1], ?_⟩
    rw [h1]
    obtain ⟨hi, -⟩ := List.getElem?_eq_some_iff.mp hk
    refine krel_keep (q := (S2, sCopy y (tX tr))) (y := y) h hlt rfl rfl rfl rfl (fun j hj => ?_) (by rw [List.length_set]; exact k4) (List.getElem?_set_self hi) (fun j hj => List.getElem?_set_ne (by omega))
    show tF tr j = _
    rw [k5 j hj]
    by_cases e : tN tr = j
    · rw [← e, List.getElem?_set_self hi, hk]; rfl
    · rw [List.getElem?_set_ne e]
theorem op_backN {tr : TrR} {kp : List (StA × StR)} {v u2 : MR} {B : Nat} {x : Int32} {of9 : Nat → Int64} {r9 r : Int32} {w2 : TrR × (Nat → Int64)} (h : LRel tr kp v B) (hbad : ∀ j, j < tN tr → x ≠ nI j)
    (hc : (r9 = 0 ∧ ∃ v1 : Int32, False ∧ w2.2 0 = v1.toInt64) ∨ (r9 = 1 ∧ w2 = (tr, of9) ∧ True))
    (hm : ((∀ j, j < mKp v → x ≠ nI j) ∧ u2 = mSetC v 1) ∨ (∃ j, j < mKp v ∧ x = nI j ∧ u2 = mLay (mSetC v 0) (j + 1) 0 ∧ r = nI (mMany (mLay (mSetC v 0) (j + 1) 0) 1))) :
    mCode u2 = r9 ∧ (r9 = 0 → w2.2 0 = r.toInt64) ∧ LRel w2.1 kp u2 B := by
  have k1 := h.2.2.2.2.2.2.1
  rcases hc with ⟨-, v1, hf, -⟩ | ⟨rfl, rfl, -⟩
  · exact hf.elim
  · rcases hm with ⟨-, rfl⟩ | ⟨j, hj, e, -⟩
    · exact ⟨rfl, fun q => absurd q (by decide), h⟩
    · exact absurd e (hbad j (by omega))
theorem op_backS {tr : TrR} {kp : List (StA × StR)} {v u2 : MR} {B : Nat} {S2 : StA} {y : StR} {j : Nat} {r9 r : Int32} {w2 : TrR × (Nat → Int64)} (h : LRel tr kp v B) (hj : j < tN tr) (hk : kp[j]? = some (S2, y))
    (hc : r9 = 0 ∧ ∃ v1 : Int32, (v1 = nI (lSz (sT y)) ∧ w2.1 = tSetX tr (sCopy (tX tr) y)) ∧ w2.2 0 = v1.toInt64)
    (hm : ((∀ i, i < mKp v → nI j ≠ nI i) ∧ u2 = mSetC v 1) ∨ (∃ i, i < mKp v ∧ nI j = nI i ∧ u2 = mLay (mSetC v 0) (i + 1) 0 ∧ r = nI (mMany (mLay (mSetC v 0) (i + 1) 0) 1))) :
    mCode u2 = r9 ∧ (r9 = 0 → w2.2 0 = r.toInt64) ∧ LRel w2.1 kp u2 B := by
  obtain ⟨a1, a2, a3, a4, a5, a6, k1, k2, k3, k4, k5, k6⟩ := h
  obtain ⟨rfl, v1, ⟨rfl, h1⟩, h0⟩ := hc
  rcases hm with ⟨h2, -⟩ | ⟨i, hi, e, rfl, rfl⟩
  · exact absurd rfl (h2 j (by omega))
  · have eij : j = i := (nI_eq (by omega) (by omega)).mp e
    subst eij
    obtain ⟨b1, b2, b3⟩ := k6 j (S2, y) hj hk
    have hwj := a6 (j + 1) (by omega)
    have hne : j + 1 ≠ 0 := by omega
    have hb : BRel (sCopy (tX tr) y) (mLay (mSetC v 0) (j + 1) 0) 0 := sCopy_rel b1 (brel_lay (v := mSetC v 0) hne hwj b3)
    refine ⟨(mLay_l (mSetC v 0) (j + 1) 0).1, fun _ => ?_, ?_⟩
    · rw [h0, many1 hb]; rfl
    · rw [h1]
      refine ⟨⟨sCopy_ok b1, a1.2⟩, sCopy_in b1 b2, hb, grel_lay (v := mSetC v 0) a4 _ 0, mLay_z (v := mSetC v 0) hne hwj a5, fun b hb4 => ?_, ?_, k2, k3, k4, k5, fun i q hi hq => ?_⟩
      · rw [mLay_w]
        show va_up (mW v) 0 (mW v (j + 1)) b ≤ 80
        by_cases e : b = 0
        · rw [e, va_up_self]; exact hwj
        · rw [vup_ne e]; exact a6 b hb4
      · rw [mLay_k]; exact k1
      · obtain ⟨c1, c2, c3⟩ := k6 i q hi hq
        have hi : i < tN tr := hi
        exact ⟨c1, c2, brel_lay2 (v := mSetC v 0) hne hwj (by omega) (a6 (i + 1) (by omega)) c3⟩
