/-! What joins the class and the reference. -/
def eTm (e : Ent) : Prop := 0 ≤ (eT e).toInt ∧ (eT e).toInt ≤ 1001000000000 ∧ 0 ≤ (eG e).toInt ∧ (eG e).toInt ≤ 1000000000
def SIn (x : StR) (B : Nat) : Prop := (∀ e ∈ lAb (sT x), (eN e).toInt < (sTs x).toInt ∧ eTm e) ∧ ((lAb (sT x)).map eN).Nodup ∧ (∀ e ∈ lAb (sR x), (eN e).toInt < (sRc x).toInt ∧ eC e = 0) ∧ ((lAb (sR x)).map eN).Nodup ∧ (0 ≤ (sTs x).toInt ∧ (sTs x).toInt ≤ B) ∧ (0 ≤ (sRc x).toInt ∧ (sRc x).toInt ≤ B)
def mk1 (T R : List Ent) : List ME := T.map (fun e => (1, e)) ++ R.map (fun e => (0, e))
def BRel (x : StR) (v : MR) (b : Nat) : Prop := (mBl v b).Perm (mk1 (lAb (sT x)) (lAb (sR x))) ∧ sNw x 0 = mNw v (2 * b) ∧ sNw x 1 = mNw v (2 * b + 1) ∧ sTs x = mCn v (4 * b) ∧ sRc x = mCn v (4 * b + 1) ∧ sLa x = mCn v (4 * b + 2) ∧ sRf x = mCn v (4 * b + 3)
def GRel (g : LgR) (v : MR) : Prop := gN g = mDn v ∧ (∀ i, i < gN g → lgAt g i = (mDk v i, mDu v i, mDe v i, mDt v i, mDo v i)) ∧ gN g ≤ 2080
/-- what is kept -/
def KRel (tr : TrR) (kp : List (StA × StR)) (v : MR) (B : Nat) : Prop := tN tr = mKp v ∧ tN tr ≤ 3 ∧ tN tr ≤ kp.length ∧ kp.length ≤ 3 ∧ (∀ j, j < 3 → tF tr j = (kp[j]?).map (fun q => sH q.1)) ∧ ∀ (j : Nat) (q : StA × StR), j < tN tr → kp[j]? = some q → StOk q.2 ∧ SIn q.2 B ∧ BRel q.2 v (j + 1)
def LRel (tr : TrR) (kp : List (StA × StR)) (v : MR) (B : Nat) : Prop := TrOk tr ∧ SIn (tX tr) B ∧ BRel (tX tr) v 0 ∧ GRel (tG tr) v ∧ MZ v ∧ (∀ b, b < 4 → mW v b ≤ 80) ∧ KRel tr kp v B
theorem SIn.up {x : StR} {B B' : Nat} (h : SIn x B) (hB : B ≤ B') : SIn x B' := ⟨h.1, h.2.1, h.2.2.1, h.2.2.2.1, ⟨h.2.2.2.2.1.1, by have := h.2.2.2.2.1.2; omega⟩, ⟨h.2.2.2.2.2.1, by have := h.2.2.2.2.2.2; omega⟩⟩
/-- nothing but the first row has changed -/
def mOut (v v' : MR) : Prop := (∀ b, 0 < b → mW v' b = mW v b) ∧ (∀ j, 80 ≤ j → mE v' j = mE v j) ∧ (∀ k, 2 ≤ k → mNw v' k = mNw v k) ∧ (∀ k, 4 ≤ k → mCn v' k = mCn v k)
theorem mOut.rf (v : MR) : mOut v v := ⟨fun _ _ => rfl, fun _ _ => rfl, fun _ _ => rfl, fun _ _ => rfl⟩
theorem mOut.tr {u v w : MR} (h1 : mOut u v) (h2 : mOut v w) : mOut u w := ⟨fun b hb => (h2.1 b hb).trans (h1.1 b hb), fun j hj => (h2.2.1 j hj).trans (h1.2.1 j hj), fun k hk => (h2.2.2.1 k hk).trans (h1.2.2.1 k hk), fun k hk => (h2.2.2.2 k hk).trans (h1.2.2.2 k hk)⟩
theorem brel_cong {x : StR} {v v' : MR} {b : Nat} (h : BRel x v b) (hw : mW v' b = mW v b) (he : ∀ i, i < mW v b → mE v' (80 * b + i) = mE v (80 * b + i)) (hn : ∀ k, k < 2 → mNw v' (2 * b + k) = mNw v (2 * b + k)) (hc : ∀ k, k < 4 → mCn v' (4 * b + k) = mCn v (4 * b + k)) : BRel x v' b := by
  have e : mBl v' b = mBl v b := by
    unfold mBl
    rw [hw]
    exact List.map_congr_left (fun i hi => he i (List.mem_range.mp hi))
  obtain ⟨h0, h1, h2, h3, h4, h5, h6⟩ := h
  exact ⟨by rw [e]; exact h0, h1.trans (hn 0 (by decide)).symm, h2.trans (hn 1 (by decide)).symm, h3.trans (hc 0 (by decide)).symm, h4.trans (hc 1 (by decide)).symm, h5.trans (hc 2 (by decide)).symm, h6.trans (hc 3 (by decide)).symm⟩
theorem brel_out {x : StR} {v v' : MR} {j : Nat} (ho : mOut v v') (h : BRel x v (j + 1)) : BRel x v' (j + 1) := brel_cong h (ho.1 _ (by omega)) (fun i _ => ho.2.1 _ (by omega)) (fun k _ => ho.2.2.1 _ (by omega)) (fun k _ => ho.2.2.2 _ (by omega))
theorem krel_out {tr tr' : TrR} {kp : List (StA × StR)} {v v' : MR} {B B' : Nat} (h : KRel tr kp v B) (hB : B ≤ B') (ho : mOut v v') (hk : mKp v' = mKp v) (hn : tN tr' = tN tr) (hf : tF tr' = tF tr) : KRel tr' kp v' B' := by
  obtain ⟨h1, h2, h3, h4, h5, h6⟩ := h
  refine ⟨by rw [hn, hk]; exact h1, by rw [hn]; exact h2, by rw [hn]; exact h3, h4, fun j hj => by rw [hf]; exact h5 j hj, fun j q hj hq => ?_⟩
  obtain ⟨a, b, c⟩ := h6 j q (by rw [← hn]; exact hj) hq
  exact ⟨a, b.up hB, brel_out ho c⟩
theorem mw_out {v v' : MR} (h : ∀ b, b < 4 → mW v b ≤ 80) (ho : mOut v v') (h0 : mW v' 0 ≤ 80) : ∀ b, b < 4 → mW v' b ≤ 80 := fun b hb => by
  rcases Nat.eq_zero_or_pos b with e | e
  · rw [e]; exact h0
  · rw [ho.1 b e]; exact h b hb
/-- the class's state that lives has changed, and the reference's -/
theorem lrel_live {tr : TrR} {kp : List (StA × StR)} {v v' : MR} {B B' : Nat} {x' : StR} (h : LRel tr kp v B) (hB : B ≤ B') (h1 : StOk x') (h2 : SIn x' B') (h3 : BRel x' v' 0) (ho : mOut v v') (hz : MZ v') (hw : mW v' 0 ≤ 80) (hk : mKp v' = mKp v) (hg : GRel (tG tr) v') : LRel (tSetX tr x') kp v' B' :=
  ⟨⟨h1, h.1.2⟩, h2, h3, hg, hz, mw_out h.2.2.2.2.2.1 ho hw, krel_out h.2.2.2.2.2.2 hB ho hk rfl rfl⟩
theorem LRel.up {tr : TrR} {kp : List (StA × StR)} {v : MR} {B B' : Nat} (h : LRel tr kp v B) (hB : B ≤ B') : LRel tr kp v B' := ⟨h.1, h.2.1.up hB, h.2.2.1, h.2.2.2.1, h.2.2.2.2.1, h.2.2.2.2.2.1, krel_out h.2.2.2.2.2.2 hB (mOut.rf v) rfl rfl rfl⟩
theorem LRel.setC {tr : TrR} {kp : List (StA × StR)} {v : MR} {B : Nat} (h : LRel tr kp v B) (x : Int32) : LRel tr kp (mSetC v x) B := h
theorem mk1_perm {T T' R R' : List Ent} (h1 : T.Perm T') (h2 : R.Perm R') : (mk1 T R).Perm (mk1 T' R') := (h1.map _).append (h2.map _)
theorem mk1_row (T R : List Ent) (a : Ent) : (mk1 T (a :: R)).Perm ((0, a) :: mk1 T R) := List.perm_middle
theorem mem1 {T R : List Ent} {e : Ent} : ((1 : Int32), e) ∈ mk1 T R ↔ e ∈ T := by
  unfold mk1
  rw [List.mem_append, List.mem_map, List.mem_map]
  constructor
  · rintro (⟨a, h, e1⟩ | ⟨a, h, e1⟩)
    · cases e1; exact h
    · exact absurd (congrArg Prod.fst e1) (show ¬ (0 : Int32) = 1 by decide)
  · exact fun h => Or.inl ⟨e, h, rfl⟩
theorem mem0 {T R : List Ent} {e : Ent} : ((0 : Int32), e) ∈ mk1 T R ↔ e ∈ R := by
  unfold mk1
  rw [List.mem_append, List.mem_map, List.mem_map]
  constructor
  · rintro (⟨a, h, e1⟩ | ⟨a, h, e1⟩)
    · exact absurd (congrArg Prod.fst e1) (show ¬ (1 : Int32) = 0 by decide)
    · cases e1; exact h
  · exact fun h => Or.inr ⟨e, h, rfl⟩
theorem mBl0_eq (v : MR) : mBl v 0 = (List.range (mW v 0)).map (mE v) := by
  unfold mBl
  refine List.map_congr_left (fun j hj => ?_)
  rw [show 80 * 0 + j = j by omega]
theorem mE_mem {v : MR} {k : Nat} (h : k < mW v 0) : mE v k ∈ mBl v 0 := List.mem_of_getElem? (mBl0_get h)
theorem mem_mE {v : MR} {x : ME} (h : x ∈ mBl v 0) : ∃ k, k < mW v 0 ∧ mE v k = x := by
  rw [mBl0_eq] at h
  obtain ⟨k, h1, h2⟩ := List.mem_map.mp h
  exact ⟨k, List.mem_range.mp h1, h2⟩
theorem cnt_bl (v : MR) (q : ME → Bool) : cnt (fun j => q (mE v j)) (mW v 0) = (mBl v 0).countP q := by
  rw [mBl0_eq, cnt_map]
theorem cnt_ab (u : LnR) (q : Ent → Bool) : cnt (fun j => q (lAt u j)) (lSz u) = (lAb u).countP q := by
  unfold lAb
  rw [cnt_map]
theorem cnt_mk1 (T R : List Ent) (q : ME → Bool) : (mk1 T R).countP q = T.countP (fun e => q (1, e)) + R.countP (fun e => q (0, e)) := by
  unfold mk1
  rw [List.countP_append, List.countP_map, List.countP_map]; rfl
theorem brel_cnt {x : StR} {v : MR} (h : BRel x v 0) (q : ME → Bool) : cnt (fun j => q (mE v j)) (mW v 0) = (lAb (sT x)).countP (fun e => q (1, e)) + (lAb (sR x)).countP (fun e => q (0, e)) := by
  rw [cnt_bl, h.1.countP_eq, cnt_mk1]
theorem many1 {x : StR} {v : MR} (h : BRel x v 0) : mMany v 1 = lSz (sT x) := by
  refine (brel_cnt h (fun m => decide (m.1 = 1))).trans ?_
  show (lAb (sT x)).countP (fun _ => decide ((1 : Int32) = 1)) + (lAb (sR x)).countP (fun _ => decide ((0 : Int32) = 1)) = _
  rw [show decide ((1 : Int32) = 1) = true by decide, show decide ((0 : Int32) = 1) = false by decide, List.countP_true, List.countP_false, lAb_len]; rfl
theorem many0 {x : StR} {v : MR} (h : BRel x v 0) : mMany v 0 = lSz (sR x) := by
  refine (brel_cnt h (fun m => decide (m.1 = 0))).trans ?_
  show (lAb (sT x)).countP (fun _ => decide ((1 : Int32) = 0)) + (lAb (sR x)).countP (fun _ => decide ((0 : Int32) = 0)) = _
  rw [show decide ((1 : Int32) = 0) = false by decide, show decide ((0 : Int32) = 0) = true by decide, List.countP_true, List.countP_false, lAb_len]; exact Nat.zero_add _
theorem brel_w {x : StR} {v : MR} (h : BRel x v 0) : mW v 0 = lSz (sT x) + lSz (sR x) := by
  have := h.1.length_eq
  rw [mBl_len] at this
  rw [this]
  unfold mk1
  rw [List.length_append, List.length_map, List.length_map, lAb_len, lAb_len]
theorem inc_toInt {x : Int32} (h0 : 0 ≤ x.toInt) (h : x.toInt ≤ 2000000) : (x + 1).toInt = x.toInt + 1 := by
  rw [Int32.toInt_add, Int.bmod_eq_of_le] <;> simp <;> omega
theorem mem_lAb {u : LnR} {e : Ent} (h : e ∈ lAb u) : ∃ k, k < lSz u ∧ lAt u k = e := by
  obtain ⟨k, h1, h2⟩ := List.mem_map.mp h
  exact ⟨k, List.mem_range.mp h1, h2⟩
/-- a timer that is found -/
theorem find_in {x : StR} {v : MR} (h : BRel x v 0) (hz : MZ v) {k : Nat} (hk : k < mW v 0) (h1 : mIt v k ≠ 0) : (mE v k).1 = 1 ∧ (mE v k).2 ∈ lAb (sT x) := by
  have e1 : mIt v k = 1 := (hz k).resolve_left h1
  have hm := h.1.mem_iff.mp (mE_mem hk)
  have e2 : mE v k = (1, (mE v k).2) := me_ext e1 rfl
  rw [e2] at hm
  exact ⟨e1, mem1.mp hm⟩
theorem find_ex {x : StR} {v : MR} (h : BRel x v 0) {e : Ent} (he : e ∈ lAb (sT x)) : ∃ k, k < mW v 0 ∧ mE v k = (1, e) := mem_mE (h.1.mem_iff.mpr (mem1.mpr he))
theorem nd_one {L : List Ent} (h : (L.map eN).Nodup) {a b : Ent} (ha : a ∈ L) (hb : b ∈ L) (e : eN a = eN b) : a = b := by
  induction L with
  | nil => cases ha
  | cons x L ih =>
    rw [List.map_cons, List.nodup_cons] at h
    rcases List.mem_cons.mp ha with ea | ha'
    · rcases List.mem_cons.mp hb with eb | hb'
      · rw [ea, eb]
      · exact absurd (List.mem_map.mpr ⟨b, hb', by rw [← e, ea]⟩) h.1
    · rcases List.mem_cons.mp hb with eb | hb'
      · exact absurd (List.mem_map.mpr ⟨a, ha', by rw [e, eb]⟩) h.1
      · exact ih h.2 ha' hb'
/-- .. and not found -/
theorem find_no {x : StR} {v : MR} (h : BRel x v 0) (hz : MZ v) (n : Int32) : (∀ k, k < mW v 0 → mIt v k ≠ 0 → mNu v k ≠ n) ↔ (∀ i, i < lSz (sT x) → eN (lAt (sT x) i) ≠ n) := by
  constructor
  · intro hh i hi e
    obtain ⟨k, hk, ek⟩ := find_ex h (lAt_mem hi)
    have e1 : mIt v k = 1 := congrArg Prod.fst ek
    have e2 : mNu v k = eN (lAt (sT x) i) := congrArg (fun m : ME => eN m.2) ek
    exact hh k hk (by rw [e1]; decide) (e2.trans e)
  · intro hh k hk h1 e
    obtain ⟨-, hm⟩ := find_in h hz hk h1
    obtain ⟨i, hi, ei⟩ := mem_lAb hm
    exact hh i hi (by rw [ei]; exact e)
/-- the two that were found are one -/
theorem find_one {x : StR} {v : MR} {B : Nat} (h : BRel x v 0) (hs : SIn x B) (hz : MZ v) {n : Int32} {k i : Nat} (hk : k < mW v 0) (h1 : mIt v k ≠ 0) (h2 : mNu v k = n) (hi : i < lSz (sT x)) (h3 : eN (lAt (sT x) i) = n) : mE v k = (1, lAt (sT x) i) := by
  obtain ⟨e1, hm⟩ := find_in h hz hk h1
  have e2 : (mE v k).2 = lAt (sT x) i := nd_one hs.2.1 hm (lAt_mem hi) (h2.trans h3.symm)
  exact me_ext e1 e2
theorem le64 (a b : Int32) : a.toInt64 ≤ b.toInt64 ↔ a ≤ b := by
  rw [Int64.le_iff_toInt_le, Int32.toInt_toInt64, Int32.toInt_toInt64, Int32.le_iff_toInt_le]
theorem rng {a : Int32} {n : Int32} : (¬ a < 0 ∧ a ≤ n) ↔ ((0 : Int32).toInt64 ≤ a.toInt64 ∧ a.toInt64 ≤ n.toInt64) := by
  rw [le64, le64, Int32.not_lt]
theorem rng4 (a : Int32) : (¬ a < 0 ∧ a ≤ 4) ↔ (0 ≤ a.toInt64 ∧ a.toInt64 ≤ 4) := rng
theorem rng6 (a : Int32) : (¬ a < 0 ∧ a ≤ 6) ↔ (0 ≤ a.toInt64 ∧ a.toInt64 ≤ 6) := rng
theorem rng50 (a : Int32) : (¬ a < 0 ∧ a ≤ 50) ↔ (0 ≤ a.toInt64 ∧ a.toInt64 ≤ 50) := rng
theorem rngT (a : Int32) : (¬ a < 1 ∧ a ≤ 128) ↔ gTasks a := by
  show _ ↔ (1 : Int32).toInt64 ≤ a.toInt64 ∧ a.toInt64 ≤ (128 : Int32).toInt64
  rw [le64, le64, Int32.not_lt]
theorem cset_iff (x : Int32) (t g : Int64) (o : Int32) : cSet x t g o ↔ gSet x t g o := by
  unfold cSet gSet
  rw [cclk_iff, rng50]
theorem cload_iff (x n : Int32) : ((¬ n < 1 ∧ n ≤ 128) ∧ (¬ x < 0 ∧ x < n)) ↔ gLoad x n := by
  unfold gLoad
  rw [rngT]
  refine and_congr_right (fun h => ?_)
  show _ ↔ (0 : Int32).toInt64 ≤ x.toInt64 ∧ x.toInt64 ≤ (n - 1).toInt64
  rw [le64, le64, Int32.not_lt]
  have h1 : (1 : Int) ≤ n.toInt := by
    have := Int64.le_iff_toInt_le.mp h.1
    rw [Int32.toInt_toInt64] at this
    exact this
  have h2 := n.toInt_lt
  have e : (n - 1).toInt = n.toInt - 1 := by
    rw [Int32.toInt_sub, Int.bmod_eq_of_le] <;> simp <;> omega
  rw [Int32.lt_iff_toInt_lt, Int32.le_iff_toInt_le, Int32.le_iff_toInt_le, e]
  omega
