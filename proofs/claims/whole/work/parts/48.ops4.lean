/-! The calls that only tell. -/
theorem least_of {x : StR} {v : MR} {B : Nat} (h : BRel x v 0) (hs : SIn x B) (hz : MZ v) {c ta : Int32} {b9 : Int64} {a : ME} (ha : a ∈ mBl v 0) (hm : mMay c ta b9 a = true) (hl : ∀ y ∈ mBl v 0, mMay c ta b9 y = true → mLt (mCn v 3) y a = false) : ∃ i, mLeast v c ta b9 (mW v 0) = some i ∧ i < mW v 0 ∧ mE v i = a := by
  rcases mLeast_sp hz (c := c) (ta := ta) (b9 := b9) (mW v 0) with ⟨-, h0⟩ | ⟨i, h1, h2, h3, h4⟩
  · obtain ⟨k, hk, e⟩ := mem_mE ha
    have := h0 k hk
    rw [e, hm] at this
    cases this
  · refine ⟨i, h1, h2, ?_⟩
    obtain ⟨k, hk, e⟩ := mem_mE ha
    have g1 : mLt (mCn v 3) a (mE v i) = false := by rw [← e]; exact h4 k hk (by rw [e]; exact hm)
    have g2 := hl _ (mE_mem h2) h3
    have ka : k01 a := by rw [← e]; exact hz k
    obtain ⟨q1, q2⟩ := mLt_one (hz i) ka g2 g1
    have m1 := h.1.mem_iff.mp (mE_mem h2)
    have m2 := h.1.mem_iff.mp ha
    obtain ⟨i1, i2, ei⟩ : ∃ i1 i2, mE v i = (i1, i2) := ⟨_, _, rfl⟩
    obtain ⟨a1, a2⟩ := a
    rw [ei] at m1 q1 q2 ⊢
    dsimp only at q1 q2 ka
    subst q1
    rcases ka with k0 | k1
    · subst k0
      rw [nd_one hs.2.2.2.1 (mem0.mp m1) (mem0.mp m2) q2]
    · subst k1
      rw [nd_one hs.2.1 (mem1.mp m1) (mem1.mp m2) q2]
theorem least_no {v : MR} (hz : MZ v) {c ta : Int32} {b9 : Int64} (h : ∀ y ∈ mBl v 0, mMay c ta b9 y = false) : mLeast v c ta b9 (mW v 0) = none := by
  rcases mLeast_sp hz (c := c) (ta := ta) (b9 := b9) (mW v 0) with ⟨h1, -⟩ | ⟨i, h1, h2, h3, -⟩
  · exact h1
  · rw [h _ (mE_mem h2)] at h3
    cases h3
theorem eLt_irr (a : Ent) : eLt a a = false := by
  rw [eLt_f, eLt_iff]; omega
/-- the first of a clock stands ahead of all of it -/
theorem first_le {u : LnR} (hs : eSrt (lAb u)) {c : Int32} {k : Nat} (hk : k < lSz u) (hf : ∀ i, i < k → eC (lAt u i) ≠ c) {e : Ent} (he : e ∈ lAb u) (hc : eC e = c) : eLt e (lAt u k) = false := by
  obtain ⟨j, hj, ej⟩ := mem_lAb he
  rcases Nat.lt_trichotomy j k with h | h | h
  · exact absurd (by rw [ej]; exact hc) (hf j h)
  · rw [← ej, h]; exact eLt_irr _
  · have := List.pairwise_iff_getElem.mp hs k j (by rw [lAb_len]; exact hk) (by rw [lAb_len]; exact hj) h
    rw [← ej]
    have e1 : (lAb u)[k]'(by rw [lAb_len]; exact hk) = lAt u k := by
      have := erase_get hk
      rw [List.getElem?_eq_getElem (by rw [lAb_len]; exact hk)] at this
      exact Option.some.inj this
    have e2 : (lAb u)[j]'(by rw [lAb_len]; exact hj) = lAt u j := by
      have := erase_get hj
      rw [List.getElem?_eq_getElem (by rw [lAb_len]; exact hj)] at this
      exact Option.some.inj this
    rw [e1, e2] at this
    exact this
theorem eLt_tm {a b : Ent} (h : eLt a b = false) : (eT b).toInt ≤ (eT a).toInt := by
  rw [eLt_f, eLt_iff] at h
  omega
/-- two of one kind stand as in a line -/
theorem mLt_same {rf k : Int32} (a b : Ent) (hk : k = 0 ∨ k = 1) : mLt rf (k, a) (k, b) = eLt a b := by
  have h1 : k01 (k, a) := hk
  have h2 : k01 (k, b) := hk
  have e : kr rf (k, a) = kr rf (k, b) := rfl
  have := mLt_iff (rf := rf) h1 h2
  rw [e] at this
  dsimp only at this
  cases hx : eLt a b with
  | true =>
    rw [eLt_iff] at hx
    exact this.mpr (by omega)
  | false =>
    rw [eLt_f, eLt_iff] at hx
    rw [mLt_f, this]
    omega
theorem may_iff {c ta : Int32} {b9 : Int64} {m : ME} : mMay c ta b9 m = true ↔ eC m.2 = c ∧ eT m.2 ≤ b9 ∧ (m.1 ≠ 0 ∨ ta = 0) := by
  unfold mMay
  rw [Bool.and_eq_true, Bool.and_eq_true, Bool.or_eq_true, decide_eq_true_iff, decide_eq_true_iff, decide_eq_true_iff, decide_eq_true_iff]
theorem may_no {c ta : Int32} {b9 : Int64} {m : ME} (h : ¬ (eC m.2 = c ∧ eT m.2 ≤ b9 ∧ (m.1 ≠ 0 ∨ ta = 0))) : mMay c ta b9 m = false := by
  cases e : mMay c ta b9 m with
  | true => exact absurd (may_iff.mp e) h
  | false => rfl
/-- what a thing of the reference is -/
theorem bl_kind {x : StR} {v : MR} (h : BRel x v 0) (hz : MZ v) {m : ME} (hm : m ∈ mBl v 0) : (m.1 = 1 ∧ m.2 ∈ lAb (sT x)) ∨ (m.1 = 0 ∧ m.2 ∈ lAb (sR x)) := by
  obtain ⟨k, hk, e⟩ := mem_mE hm
  have h01 : m.1 = 0 ∨ m.1 = 1 := by rw [← e]; exact hz k
  have hp := h.1.mem_iff.mp hm
  obtain ⟨a, b⟩ := m
  rcases h01 with q | q
  · dsimp only at q; subst q; exact Or.inr ⟨rfl, mem0.mp hp⟩
  · dsimp only at q; subst q; exact Or.inl ⟨rfl, mem1.mp hp⟩
theorem op_next {tr : TrR} {kp : List (StA × StR)} {v u2 : MR} {B : Nat} {x : Int32} {of9 : Nat → Int64} {r9 r : Int32} {w2 : TrR × (Nat → Int64)} (h : LRel tr kp v B)
    (hc : (r9 = 0 ∧ ∃ v1 : Int32, ((cClk x ∧ ((∃ k, k < lSz (sT (tX tr)) ∧ eC (lAt (sT (tX tr)) k) = x ∧ (∀ i, i < k → eC (lAt (sT (tX tr)) i) ≠ x) ∧ v1 = eN (lAt (sT (tX tr)) k)) ∨ ((∀ i, i < lSz (sT (tX tr)) → eC (lAt (sT (tX tr)) i) ≠ x) ∧ v1 = -1))) ∧ w2.1 = tr) ∧ w2.2 0 = v1.toInt64) ∨ (r9 = 1 ∧ w2 = (tr, of9) ∧ ¬ cClk x))
    (hm : (¬ gClk x ∧ u2 = mSetC v 1) ∨ (gClk x ∧ u2 = mSetC v 0 ∧ r = match mLeast v x 1 4000000000000 (mW v 0) with | none => -1 | some k => mNu v k)) : mCode u2 = r9 ∧ (r9 = 0 → w2.2 0 = r.toInt64) ∧ LRel w2.1 kp u2 B := by
  have hb := h.2.2.1
  have hz := h.2.2.2.2.1
  have hsi := h.2.1
  have hok : StOk (tX tr) := h.1.1
  have h4 : (4000000000000 : Int64).toInt = 4000000000000 := by decide
  rcases hc with ⟨rfl, v1, ⟨⟨hg, hk⟩, e1⟩, h0⟩ | ⟨rfl, rfl, hg⟩
  · rw [cclk_iff] at hg
    rcases hm with ⟨h1, -⟩ | ⟨-, rfl, hr⟩
    · exact absurd hg h1
    · refine ⟨rfl, fun _ => ?_, by rw [e1]; exact h⟩
      rw [h0, hr]
      congr 1
      rcases hk with ⟨k, hk, hkc, hkf, rfl⟩ | ⟨hno, rfl⟩
      · obtain ⟨i, hi, hi2, hi3⟩ := least_of hb hsi hz (c := x) (ta := 1) (b9 := 4000000000000) (a := (1, lAt (sT (tX tr)) k)) (hb.1.mem_iff.mpr (mem1.mpr (lAt_mem hk))) (may_iff.mpr ⟨hkc, Int64.le_iff_toInt_le.mpr (by have := (hsi.1 _ (lAt_mem hk)).2.2.1; rw [h4]; show (eT (lAt (sT (tX tr)) k)).toInt ≤ _; omega), Or.inl (show ¬ (1 : Int32) = 0 by decide)⟩) (fun y hy hmy => by
          obtain ⟨y1, y2, y3⟩ := may_iff.mp hmy
          rcases bl_kind hb hz hy with ⟨q1, q2⟩ | ⟨q1, -⟩
          · obtain ⟨a, b⟩ := y
            dsimp only at q1; subst q1
            rw [mLt_same _ _ (Or.inr rfl)]
            exact first_le hok.1.2 hk hkf q2 y1
          · rcases y3 with q | q
            · exact absurd q1 q
            · exact absurd q (by decide))
        rw [hi]
        exact (congrArg (fun m : ME => eN m.2) hi3).symm
      · rw [least_no hz (c := x) (ta := 1) (b9 := 4000000000000) (fun y hy => may_no (fun ⟨y1, y2, y3⟩ => by
          rcases bl_kind hb hz hy with ⟨q1, q2⟩ | ⟨q1, -⟩
          · obtain ⟨j, hj, ej⟩ := mem_lAb q2
            exact hno j hj (by rw [ej]; exact y1)
          · rcases y3 with q | q
            · exact q q1
            · exact absurd q (by decide)))]
  · rw [cclk_iff] at hg
    rcases hm with ⟨-, rfl⟩ | ⟨h1, -⟩
    · exact ⟨rfl, fun q => absurd q (by decide), h⟩
    · exact absurd h1 hg
theorem op_waiting {tr : TrR} {kp : List (StA × StR)} {v u2 : MR} {B : Nat} {x : Int32} {y t1 t2 : Int64} {of9 : Nat → Int64} {r9 r : Int32} {w2 : TrR × (Nat → Int64)} (h : LRel tr kp v B)
    (hc : (r9 = 0 ∧ ∃ v1 : Int32, (((cClk x ∧ t1 ≤ t2) ∧ v1 = nI (cnt (fun j9 => eBet x y t1 t2 (lAt (sT (tX tr)) j9)) (lSz (sT (tX tr))))) ∧ w2.1 = tr) ∧ w2.2 0 = v1.toInt64) ∨ (r9 = 1 ∧ w2 = (tr, of9) ∧ ¬ (cClk x ∧ t1 ≤ t2)))
    (hm : (¬ (gClk x ∧ t1 ≤ t2) ∧ u2 = mSetC v 1) ∨ ((gClk x ∧ t1 ≤ t2) ∧ u2 = mSetC v 0 ∧ r = nI (cnt (mBet v x y t1 t2) (mW v 0)))) : mCode u2 = r9 ∧ (r9 = 0 → w2.2 0 = r.toInt64) ∧ LRel w2.1 kp u2 B := by
  have hb := h.2.2.1
  rcases hc with ⟨rfl, v1, ⟨⟨hg, rfl⟩, e1⟩, h0⟩ | ⟨rfl, rfl, hg⟩
  · rw [cclk_iff] at hg
    rcases hm with ⟨h1, -⟩ | ⟨-, rfl, rfl⟩
    · exact absurd hg h1
    · refine ⟨rfl, fun _ => ?_, by rw [e1]; exact h⟩
      rw [h0]
      congr 2
      refine Eq.symm ((brel_cnt hb (fun m => decide (m.1 ≠ 0) && eBet x y t1 t2 m.2)).trans ?_)
      show (lAb (sT (tX tr))).countP (fun e => decide ((1 : Int32) ≠ 0) && eBet x y t1 t2 e) + (lAb (sR (tX tr))).countP (fun e => decide ((0 : Int32) ≠ 0) && eBet x y t1 t2 e) = _
      rw [show decide ((1 : Int32) ≠ 0) = true by decide, show decide ((0 : Int32) ≠ 0) = false by decide, cnt_ab]
      show List.countP (fun e => true && eBet x y t1 t2 e) (lAb (sT (tX tr))) + List.countP (fun e => false) (lAb (sR (tX tr))) = _
      rw [List.countP_false]
      simp
  · rw [cclk_iff] at hg
    rcases hm with ⟨-, rfl⟩ | ⟨h1, -⟩
    · exact ⟨rfl, fun q => absurd q (by decide), h⟩
    · exact absurd h1 hg
theorem op_now {tr : TrR} {kp : List (StA × StR)} {v u2 : MR} {B : Nat} {x : Int32} {of9 : Nat → Int64} {r9 : Int32} {r : Int64} {w2 : TrR × (Nat → Int64)} (h : LRel tr kp v B)
    (hc : (r9 = 0 ∧ ∃ v1 : Int64, ((cClk x ∧ v1 = sNw (tX tr) x.toNatClampNeg) ∧ w2.1 = tr) ∧ w2.2 0 = v1) ∨ (r9 = 1 ∧ w2 = (tr, of9) ∧ ¬ cClk x))
    (hm : (¬ gClk x ∧ u2 = mSetC v 1) ∨ (gClk x ∧ u2 = mSetC v 0 ∧ r = mNw v x.toNatClampNeg)) : mCode u2 = r9 ∧ (r9 = 0 → w2.2 0 = r) ∧ LRel w2.1 kp u2 B := by
  have hb := h.2.2.1
  rcases hc with ⟨rfl, v1, ⟨⟨hg, rfl⟩, e1⟩, h0⟩ | ⟨rfl, rfl, hg⟩
  · rw [cclk_iff] at hg
    rcases hm with ⟨h1, -⟩ | ⟨-, rfl, rfl⟩
    · exact absurd hg h1
    · refine ⟨rfl, fun _ => ?_, by rw [e1]; exact h⟩
      rw [h0]
      rcases clk_of hg with e | e <;> subst e
      · exact hb.2.1
      · exact hb.2.2.1
  · rw [cclk_iff] at hg
    rcases hm with ⟨-, rfl⟩ | ⟨h1, -⟩
    · exact ⟨rfl, fun q => absurd q (by decide), h⟩
    · exact absurd h1 hg
theorem op_told {tr : TrR} {kp : List (StA × StR)} {v u2 : MR} {B : Nat} {x y : Int32} {of9 : Nat → Int64} {r9 : Int32} {r : Int64} {w2 : TrR × (Nat → Int64)} (h : LRel tr kp v B)
    (hc : (r9 = 0 ∧ ∃ v1 : Int64, (((¬ y < 0 ∧ y ≤ 4) ∧ ∃ k, k < lSz (sT (tX tr)) ∧ eN (lAt (sT (tX tr)) k) = x ∧ v1 = if y = 0 then (eC (lAt (sT (tX tr)) k)).toInt64 else if y = 1 then eK (lAt (sT (tX tr)) k) else if y = 2 then eT (lAt (sT (tX tr)) k) else if y = 3 then eG (lAt (sT (tX tr)) k) else (eO (lAt (sT (tX tr)) k)).toInt64) ∧ w2.1 = tr) ∧ w2.2 0 = v1) ∨ (r9 = 1 ∧ w2 = (tr, of9) ∧ ¬ (¬ y < 0 ∧ y ≤ 4)) ∨ (r9 = 2 ∧ w2 = (tr, of9) ∧ ((¬ y < 0 ∧ y ≤ 4) ∧ ∀ i, i < lSz (sT (tX tr)) → eN (lAt (sT (tX tr)) i) ≠ x)))
    (hm : (¬ (0 ≤ y.toInt64 ∧ y.toInt64 ≤ 4) ∧ u2 = mSetC v 1) ∨ ((0 ≤ y.toInt64 ∧ y.toInt64 ≤ 4) ∧ (∀ k, k < mW v 0 → mIt v k ≠ 0 → mNu v k ≠ x) ∧ u2 = mSetC v 2) ∨ ((0 ≤ y.toInt64 ∧ y.toInt64 ≤ 4) ∧ ∃ k, k < mW v 0 ∧ mIt v k ≠ 0 ∧ mNu v k = x ∧ u2 = mSetC v 0 ∧ r = if y = 0 then (mCk v k).toInt64 else if y = 1 then mKe v k else if y = 2 then mTi v k else if y = 3 then mGa v k else (mOf v k).toInt64)) : mCode u2 = r9 ∧ (r9 = 0 → w2.2 0 = r) ∧ LRel w2.1 kp u2 B := by
  have hb := h.2.2.1
  have hz := h.2.2.2.2.1
  rcases hc with ⟨rfl, v1, ⟨⟨hg, i, hi, hn, rfl⟩, e1⟩, h0⟩ | ⟨rfl, rfl, hg⟩ | ⟨rfl, rfl, hg, hno⟩
  · rw [rng4] at hg
    rcases hm with ⟨h1, -⟩ | ⟨-, hno, -⟩ | ⟨-, k, hk, h1, h2, rfl, rfl⟩
    · exact absurd hg h1
    · exact absurd hn ((find_no hb hz x).mp hno i hi)
    · have e := find_one hb h.2.1 hz hk h1 h2 hi hn
      refine ⟨rfl, fun _ => ?_, by rw [e1]; exact h⟩
      rw [h0, show mCk v k = eC (lAt (sT (tX tr)) i) from congrArg (fun m : ME => eC m.2) e, show mKe v k = eK (lAt (sT (tX tr)) i) from congrArg (fun m : ME => eK m.2) e, show mTi v k = eT (lAt (sT (tX tr)) i) from congrArg (fun m : ME => eT m.2) e, show mGa v k = eG (lAt (sT (tX tr)) i) from congrArg (fun m : ME => eG m.2) e, show mOf v k = eO (lAt (sT (tX tr)) i) from congrArg (fun m : ME => eO m.2) e]
  · rw [rng4] at hg
    rcases hm with ⟨-, rfl⟩ | ⟨h1, -⟩ | ⟨h1, -⟩
    · exact ⟨rfl, fun q => absurd q (by decide), h⟩
    · exact absurd h1 hg
    · exact absurd h1 hg
  · rw [rng4] at hg
    rcases hm with ⟨h1, -⟩ | ⟨-, -, rfl⟩ | ⟨-, k, hk, h1, h2, -⟩
    · exact absurd hg h1
    · exact ⟨rfl, fun q => absurd q (by decide), h⟩
    · exact absurd h2 ((find_no hb hz x).mpr hno k hk h1)
theorem op_done {tr : TrR} {kp : List (StA × StR)} {v u2 : MR} {B : Nat} {x y : Int32} {of9 : Nat → Int64} {r9 : Int32} {r : Int64} {w2 : TrR × (Nat → Int64)} (h : LRel tr kp v B)
    (hc : (r9 = 0 ∧ ∃ v1 : Int64, (((¬ y < 0 ∧ y ≤ 4) ∧ ∃ j, j < gN (tG tr) ∧ x = nI j ∧ v1 = if y = 0 then (gKi (tG tr) j).toInt64 else if y = 1 then (gNu (tG tr) j).toInt64 else if y = 2 then gKe (tG tr) j else if y = 3 then gTi (tG tr) j else (gOf (tG tr) j).toInt64) ∧ w2.1 = tr) ∧ w2.2 0 = v1) ∨ (r9 = 1 ∧ w2 = (tr, of9) ∧ ¬ (¬ y < 0 ∧ y ≤ 4)) ∨ (r9 = 2 ∧ w2 = (tr, of9) ∧ ((¬ y < 0 ∧ y ≤ 4) ∧ ∀ j, j < gN (tG tr) → x ≠ nI j)))
    (hm : (¬ (0 ≤ y.toInt64 ∧ y.toInt64 ≤ 4) ∧ u2 = mSetC v 1) ∨ ((0 ≤ y.toInt64 ∧ y.toInt64 ≤ 4) ∧ (∀ j, j < mDn v → x ≠ nI j) ∧ u2 = mSetC v 2) ∨ ((0 ≤ y.toInt64 ∧ y.toInt64 ≤ 4) ∧ ∃ j, j < mDn v ∧ x = nI j ∧ u2 = mSetC v 0 ∧ r = if y = 0 then (mDk v j).toInt64 else if y = 1 then (mDu v j).toInt64 else if y = 2 then mDe v j else if y = 3 then mDt v j else (mDo v j).toInt64)) : mCode u2 = r9 ∧ (r9 = 0 → w2.2 0 = r) ∧ LRel w2.1 kp u2 B := by
  obtain ⟨g1, g2, g3⟩ := h.2.2.2.1
  rcases hc with ⟨rfl, v1, ⟨⟨hg, j, hj, rfl, rfl⟩, e1⟩, h0⟩ | ⟨rfl, rfl, hg⟩ | ⟨rfl, rfl, hg, hno⟩
  · rw [rng4] at hg
    rcases hm with ⟨h1, -⟩ | ⟨-, hno, -⟩ | ⟨-, k, hk, h1, rfl, rfl⟩
    · exact absurd hg h1
    · exact absurd rfl (hno j (by omega))
    · have ejk : j = k := (nI_eq (by omega) (by omega)).mp h1
      subst ejk
      have e := g2 j hj
      refine ⟨rfl, fun _ => ?_, by rw [e1]; exact h⟩
      rw [h0, show gKi (tG tr) j = mDk v j from congrArg (fun m : LgE => m.1) e, show gNu (tG tr) j = mDu v j from congrArg (fun m : LgE => m.2.1) e, show gKe (tG tr) j = mDe v j from congrArg (fun m : LgE => m.2.2.1) e, show gTi (tG tr) j = mDt v j from congrArg (fun m : LgE => m.2.2.2.1) e, show gOf (tG tr) j = mDo v j from congrArg (fun m : LgE => m.2.2.2.2) e]
  · rw [rng4] at hg
    rcases hm with ⟨-, rfl⟩ | ⟨h1, -⟩ | ⟨h1, -⟩
    · exact ⟨rfl, fun q => absurd q (by decide), h⟩
    · exact absurd h1 hg
    · exact absurd h1 hg
  · rw [rng4] at hg
    rcases hm with ⟨h1, -⟩ | ⟨-, -, rfl⟩ | ⟨-, k, hk, h1, -⟩
    · exact absurd hg h1
    · exact ⟨rfl, fun q => absurd q (by decide), h⟩
    · exact absurd h1 (hno k (by omega))
theorem op_of {tr : TrR} {kp : List (StA × StR)} {v u2 : MR} {B : Nat} {y : Int32} {of9 : Nat → Int64} {r9 r : Int32} {w2 : TrR × (Nat → Int64)} (h : LRel tr kp v B)
    (hc : (r9 = 0 ∧ ∃ v1 : Int32, (((¬ y < 0 ∧ y ≤ 6) ∧ v1 = if y = 0 then nI (lSz (sT (tX tr))) else if y = 1 then nI (lSz (sR (tX tr))) else if y = 2 then sTs (tX tr) else if y = 3 then sRc (tX tr) else if y = 4 then sLa (tX tr) else if y = 5 then nI (tN tr) else nI (gN (tG tr))) ∧ w2.1 = tr) ∧ w2.2 0 = v1.toInt64) ∨ (r9 = 1 ∧ w2 = (tr, of9) ∧ ¬ (¬ y < 0 ∧ y ≤ 6)))
    (hm : (¬ (0 ≤ y.toInt64 ∧ y.toInt64 ≤ 6) ∧ u2 = mSetC v 1) ∨ ((0 ≤ y.toInt64 ∧ y.toInt64 ≤ 6) ∧ u2 = mSetC v 0 ∧ r = if y = 0 then nI (mMany v 1) else if y = 1 then nI (mMany v 0) else if y = 2 then mCn v 0 else if y = 3 then mCn v 1 else if y = 4 then mCn v 2 else if y = 5 then nI (mKp v) else nI (mDn v))) : mCode u2 = r9 ∧ (r9 = 0 → w2.2 0 = r.toInt64) ∧ LRel w2.1 kp u2 B := by
  have hb := h.2.2.1
  rcases hc with ⟨rfl, v1, ⟨⟨hg, rfl⟩, e1⟩, h0⟩ | ⟨rfl, rfl, hg⟩
  · rw [rng6] at hg
    rcases hm with ⟨h1, -⟩ | ⟨-, rfl, rfl⟩
    · exact absurd hg h1
    · refine ⟨rfl, fun _ => ?_, by rw [e1]; exact h⟩
      rw [h0, many1 hb, many0 hb, show sTs (tX tr) = mCn v 0 from hb.2.2.2.1, show sRc (tX tr) = mCn v 1 from hb.2.2.2.2.1, show sLa (tX tr) = mCn v 2 from hb.2.2.2.2.2.1, h.2.2.2.2.2.2.1, h.2.2.2.1.1]
  · rw [rng6] at hg
    rcases hm with ⟨-, rfl⟩ | ⟨h1, -⟩
    · exact ⟨rfl, fun q => absurd q (by decide), h⟩
    · exact absurd h1 hg
theorem op_forget {tr : TrR} {kp : List (StA × StR)} {v u2 : MR} {B : Nat} {of9 : Nat → Int64} {r9 r : Int32} {w2 : TrR × (Nat → Int64)} (h : LRel tr kp v B)
    (hc : (r9 = 0 ∧ ∃ v1 : Int32, (0 < tN tr ∧ v1 = nI (tN tr - 1) ∧ w2.1 = tSetN tr (tN tr - 1)) ∧ w2.2 0 = v1.toInt64) ∨ (r9 = 1 ∧ w2 = (tr, of9) ∧ tN tr = 0))
    (hm : (mKp v = 0 ∧ u2 = mSetC v 1) ∨ (0 < mKp v ∧ u2 = mSetK (mSetC v 0) (mKp v - 1) ∧ r = nI (mKp v - 1))) : mCode u2 = r9 ∧ (r9 = 0 → w2.2 0 = r.toInt64) ∧ LRel w2.1 kp u2 B := by
  obtain ⟨k1, k2, k3, k4, k5, k6⟩ := h.2.2.2.2.2.2
  rcases hc with ⟨rfl, v1, ⟨hp, rfl, hw1⟩, h0⟩ | ⟨rfl, rfl, h0⟩
  · rcases hm with ⟨h1, -⟩ | ⟨-, rfl, rfl⟩
    · omega
    · refine ⟨rfl, fun _ => by rw [h0, k1], ?_⟩
      rw [hw1]
      refine ⟨h.1, h.2.1, h.2.2.1, h.2.2.2.1, h.2.2.2.2.1, h.2.2.2.2.2.1, ?_, ?_, ?_, k4, k5, fun j q hj hq => k6 j q (by have hj : j < tN tr - 1 := hj; omega) hq⟩
      · show tN tr - 1 = mKp v - 1
        rw [k1]
      · show tN tr - 1 ≤ 3
        omega
      · show tN tr - 1 ≤ kp.length
        omega
  · rcases hm with ⟨-, rfl⟩ | ⟨h1, -⟩
    · exact ⟨rfl, fun q => absurd q (by decide), h⟩
    · omega
