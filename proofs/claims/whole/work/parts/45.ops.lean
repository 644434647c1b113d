/-! The calls, one by one: what the class does, what the reference does, is one. -/
theorem vup_ne {f : Nat → Nat} {k x j : Nat} (h : j ≠ k) : va_up f k x j = f j := by
  unfold va_up
  rw [if_neg h]
theorem i32_cancel (x : Int32) : x + 1 - 1 = x := by simp
theorem out_add {v : MR} (hw : mW v 0 < 80) (b : Int32) (a : Ent) : mOut v (mAdd v b a) := ⟨fun b hb => vup_ne (by omega), fun j hj => by rw [mE_add, if_neg (by omega)], fun _ _ => rfl, fun _ _ => rfl⟩
theorem out_cn (v : MR) {k : Nat} (hk : k < 4) (x : Int32) : mOut v (mSetCn v k x) := ⟨fun _ _ => rfl, fun _ _ => rfl, fun _ _ => rfl, fun j hj => pk_un (by omega)⟩
theorem out_C (v : MR) (x : Int32) : mOut v (mSetC v x) := mOut.rf v
theorem out_take {v : MR} {i : Nat} (hi : i < 80) : mOut v (mTake v i) := ⟨fun b hb => vup_ne (by omega), fun j hj => by unfold mTake; rw [mE_copy, if_neg (by omega)]; rfl, fun _ _ => rfl, fun _ _ => rfl⟩
theorem out_T {v : MR} {i : Nat} (hi : i < 80) (t : Int64) : mOut v (mSetT v i t) := ⟨fun _ _ => rfl, fun j hj => by rw [mE_setT, if_neg (by omega)], fun _ _ => rfl, fun _ _ => rfl⟩
theorem z_add {v : MR} (h : MZ v) {b : Int32} (hb : b = 0 ∨ b = 1) (a : Ent) : MZ (mAdd v b a) := fun j => by
  show upd (mIt v) (mW v 0) b j = 0 ∨ upd (mIt v) (mW v 0) b j = 1
  unfold upd
  split
  · exact hb
  · exact h j
theorem perm_new {x : StR} {v : MR} (h : BRel x v 0) (a : Ent) : (mBl v 0 ++ [(1, a)]).Perm (mk1 (eIns (lAb (sT x)) a) (lAb (sR x))) := by
  refine (List.perm_append_comm (l₂ := [((1 : Int32), a)])).trans ?_
  refine (List.Perm.cons _ h.1).trans ?_
  exact mk1_perm (T := a :: lAb (sT x)) (eIns_perm _ _).symm (List.Perm.refl _)
theorem perm_newR {x : StR} {v : MR} (h : BRel x v 0) (a : Ent) : (mBl v 0 ++ [(0, a)]).Perm (mk1 (lAb (sT x)) (eIns (lAb (sR x)) a)) := by
  refine (List.perm_append_comm (l₂ := [((0 : Int32), a)])).trans ?_
  refine (List.Perm.cons _ h.1).trans ?_
  exact (mk1_row _ _ a).symm.trans (mk1_perm (List.Perm.refl _) (eIns_perm _ _).symm)
theorem nd_new {L : List Ent} {a : Ent} (h : (L.map eN).Nodup) (hn : ∀ e ∈ L, eN e ≠ eN a) : ((eIns L a).map eN).Nodup := by
  rw [((eIns_perm L a).map eN).nodup_iff, List.map_cons, List.nodup_cons]
  refine ⟨fun hm => ?_, h⟩
  obtain ⟨e, he, e1⟩ := List.mem_map.mp hm
  exact hn e he e1
theorem mem_ins {L : List Ent} {a e : Ent} : e ∈ eIns L a ↔ e = a ∨ e ∈ L := by
  rw [(eIns_perm L a).mem_iff, List.mem_cons]
theorem op_clear {tr u : TrR} {kp : List (StA × StR)} {v u2 : MR} {B : Nat} {r r' : Int32} (h : LRel tr kp v B) (hc : r = nI (lSz (sT (tX tr)) + lSz (sR (tX tr))) ∧ ∃ x, StNew x ∧ u = (x, tF tr, gSetN (tG tr) 0, 0)) (hm : u2 = mBegin (mSetC v 0) ∧ r' = nI (mW v 0)) : r = r' ∧ LRel u kp u2 B := by
  obtain ⟨hr, x, hx, rfl⟩ := hc
  obtain ⟨rfl, hr'⟩ := hm
  refine ⟨by rw [hr, hr', brel_w h.2.2.1], ?_⟩
  obtain ⟨n1, n2, n3, n4, n5, n6, n7, n8, n9, n10⟩ := hx
  have eT0 : lAb (sT x) = [] := List.eq_nil_of_length_eq_zero (by rw [lAb_len]; exact n3)
  have eR0 : lAb (sR x) = [] := List.eq_nil_of_length_eq_zero (by rw [lAb_len]; exact n4)
  have ho : mOut v (mBegin (mSetC v 0)) := ⟨fun b hb => vup_ne (by omega), fun _ _ => rfl, fun k hk => by
      show vp_updL (vp_updL (mNw v) 0 (-1)) 1 (-1) k = mNw v k
      rw [pk_uLn (by omega), pk_uLn (by omega)], fun k hk => by
      show upd (upd (upd (upd (mCn v) 0 0) 1 0) 2 0) 3 1 k = mCn v k
      rw [pk_un (by omega), pk_un (by omega), pk_un (by omega), pk_un (by omega)]⟩
  have hw0 : mW (mBegin (mSetC v 0)) 0 = 0 := va_up_self (mW v) 0 0
  have hst : StOk x := ⟨⟨n1, by rw [eT0]; exact List.Pairwise.nil⟩, ⟨n2, by rw [eR0]; exact List.Pairwise.nil⟩, Or.inr n10, fun e he => by rw [eT0] at he; cases he⟩
  refine ⟨⟨hst, h.1.2.1, Nat.zero_le _⟩, ?_, ?_, ⟨rfl, fun i hi => absurd hi (Nat.not_lt_zero i), Nat.zero_le _⟩, h.2.2.2.2.1, mw_out h.2.2.2.2.2.1 ho (by rw [hw0]; exact Nat.zero_le _), ?_⟩
  · show SIn x B
    refine ⟨fun e he => ?_, ?_, fun e he => ?_, ?_, ?_, ?_⟩
    · rw [eT0] at he; cases he
    · rw [eT0]; exact List.nodup_nil
    · rw [eR0] at he; cases he
    · rw [eR0]; exact List.nodup_nil
    · rw [n7]; exact ⟨Int.le_refl _, Int.natCast_nonneg B⟩
    · rw [n8]; exact ⟨Int.le_refl _, Int.natCast_nonneg B⟩
  · show BRel x _ 0
    refine ⟨?_, ?_, ?_, ?_, ?_, ?_, ?_⟩
    · have : mBl (mBegin (mSetC v 0)) 0 = [] := List.eq_nil_of_length_eq_zero (by rw [mBl_len]; exact hw0)
      rw [this, eT0, eR0]; exact List.Perm.refl _
    · rw [n5]; rfl
    · rw [n6]; rfl
    · rw [n7]; rfl
    · rw [n8]; rfl
    · rw [n9]; rfl
    · rw [n10]; rfl
  · obtain ⟨k1, k2, k3, k4, k5, k6⟩ := h.2.2.2.2.2.2
    exact ⟨rfl, Nat.zero_le _, Nat.zero_le _, k4, k5, fun j q hj => absurd hj (Nat.not_lt_zero j)⟩
theorem tim_int {t : Int64} (h : gTim t) : 0 ≤ t.toInt ∧ t.toInt ≤ 1000000000000 := ⟨Int64.le_iff_toInt_le.mp h.1, Int64.le_iff_toInt_le.mp h.2⟩
abbrev aSet (tr : TrR) (x : Int32) (y t g : Int64) (o : Int32) : Ent := (sTs (tX tr), x, y, t, g, o)
theorem op_set {tr : TrR} {kp : List (StA × StR)} {v u2 : MR} {B : Nat} {x o : Int32} {y t g : Int64} {of9 : Nat → Int64} {r9 r : Int32} {w2 : TrR × (Nat → Int64)} (h : LRel tr kp v B) (hB : B ≤ 1500000)
    (hc : (r9 = 0 ∧ ∃ v1 : Int32, (cSet x t g o ∧ lSz (sT (tX tr)) < 40 ∧ v1 = sTs (tX tr) ∧ w2.1 = tSetX tr (sSetTs (sSetT (tX tr) (lSort (lPut (sT (tX tr)) (aSet tr x y t g o)) (ePl (lAb (sT (tX tr))) (aSet tr x y t g o)))) (sTs (tX tr) + 1))) ∧ w2.2 0 = v1.toInt64) ∨ (r9 = 1 ∧ w2 = (tr, of9) ∧ ¬ cSet x t g o) ∨ (r9 = 2 ∧ w2 = (tr, of9) ∧ (cSet x t g o ∧ lSz (sT (tX tr)) = 40)))
    (hm : (¬ gSet x t g o ∧ u2 = mSetC v 1) ∨ (gSet x t g o ∧ mMany v 1 = 40 ∧ u2 = mSetC v 2) ∨ (gSet x t g o ∧ mMany v 1 ≠ 40 ∧ u2 = mSet v (mCn v 0, x, y, t, g, o) ∧ r = mCn v 0 + 1 - 1)) : mCode u2 = r9 ∧ (r9 = 0 → w2.2 0 = r.toInt64) ∧ LRel w2.1 kp u2 (B + 1) := by
  have hb := h.2.2.1
  have hm1 := many1 hb
  rcases hc with ⟨rfl, v1, ⟨hg, h40, rfl, hw1⟩, h0⟩ | ⟨rfl, rfl, hg⟩ | ⟨rfl, rfl, hg, h40⟩
  · rw [cset_iff] at hg
    rcases hm with ⟨h1, -⟩ | ⟨-, h1, -⟩ | ⟨-, -, rfl, hr⟩
    · exact absurd hg h1
    · omega
    · rw [i32_cancel] at hr
      have ets : sTs (tX tr) = mCn v 0 := hb.2.2.2.1
      refine ⟨rfl, fun _ => by rw [h0, hr, ets], ?_⟩
      rw [hw1]
      have hw80 := brel_w hb
      have hR40 := h.1.1.2.1.1.1
      have ea : (mCn v 0, x, y, t, g, o) = aSet tr x y t g o := by rw [← ets]
      rw [ea]
      have hok : StOk (tX tr) := h.1.1
      have hsi := h.2.1
      have hgo := (rng50 o).mpr hg.2.2.2
      have hin := inc_toInt hsi.2.2.2.2.1.1 (by have := hsi.2.2.2.2.1.2; omega)
      have eab : lAb (lSort (lPut (sT (tX tr)) (aSet tr x y t g o)) (ePl (lAb (sT (tX tr))) (aSet tr x y t g o))) = eIns (lAb (sT (tX tr))) (aSet tr x y t g o) := lEnter_ab hok.1.1 h40 _
      have hnew : ∀ e ∈ lAb (sT (tX tr)), eN e ≠ sTs (tX tr) := fun e he q => by
        have := (hsi.1 e he).1
        rw [q] at this
        omega
      refine lrel_live (v' := mSet v (aSet tr x y t g o)) h (Nat.le_succ B) ⟨lEnter_st hok.1 h40 _, hok.2.1, hok.2.2.1, fun e he => ?_⟩ ⟨fun e he => ?_, ?_, hsi.2.2.1, hsi.2.2.2.1, ?_, ?_⟩ ⟨?_, hb.2.1, hb.2.2.1, ?_, ?_, ?_, ?_⟩ ?_ ?_ ?_ rfl h.2.2.2.1
      · have he : e ∈ lAb (lSort (lPut (sT (tX tr)) (aSet tr x y t g o)) (ePl (lAb (sT (tX tr))) (aSet tr x y t g o))) := he
        rw [eab] at he
        rcases mem_ins.mp he with q | q
        · rw [q]
          obtain ⟨k, hk, ek⟩ := nI_of2 (M := 50) (n := 50) (by decide) hgo.1 hgo.2
          show o.toNatClampNeg ≤ 50
          rw [ek, nI_clamp (by omega)]; exact hk
        · exact hok.2.2.2 e q
      · have he : e ∈ lAb (lSort (lPut (sT (tX tr)) (aSet tr x y t g o)) (ePl (lAb (sT (tX tr))) (aSet tr x y t g o))) := he
        rw [eab] at he
        show (eN e).toInt < (sTs (tX tr) + 1).toInt ∧ eTm e
        rw [hin]
        rcases mem_ins.mp he with q | q
        · rw [q]
          have ht := tim_int hg.2.1
          exact ⟨by show (sTs (tX tr)).toInt < _; omega, ht.1, by show t.toInt ≤ _; omega, Int64.le_iff_toInt_le.mp hg.2.2.1.1, Int64.le_iff_toInt_le.mp hg.2.2.1.2⟩
        · exact ⟨by have := (hsi.1 e q).1; omega, (hsi.1 e q).2⟩
      · show ((lAb (lSort (lPut (sT (tX tr)) (aSet tr x y t g o)) (ePl (lAb (sT (tX tr))) (aSet tr x y t g o)))).map eN).Nodup
        rw [eab]
        exact nd_new hsi.2.1 hnew
      · show 0 ≤ (sTs (tX tr) + 1).toInt ∧ (sTs (tX tr) + 1).toInt ≤ ((B + 1 : Nat) : Int)
        rw [hin]
        have := hsi.2.2.2.2.1
        omega
      · have := hsi.2.2.2.2.2
        exact ⟨this.1, by show (sRc (tX tr)).toInt ≤ _; omega⟩
      · show (mBl (mSet v (aSet tr x y t g o)) 0).Perm (mk1 (lAb (lSort (lPut (sT (tX tr)) (aSet tr x y t g o)) (ePl (lAb (sT (tX tr))) (aSet tr x y t g o)))) (lAb (sR (tX tr))))
        rw [eab, show mBl (mSet v (aSet tr x y t g o)) 0 = mBl v 0 ++ [(1, aSet tr x y t g o)] from mBl_add (mSetC v 0) 1 _]
        exact perm_new hb _
      · show sTs (tX tr) + 1 = upd (mCn v) 0 (mCn v 0 + 1) 0
        rw [pk_us, ets]
      · exact hb.2.2.2.2.1.trans (pk_un (x := mCn v 0 + 1) (show (1 : Nat) ≠ 0 by decide)).symm
      · exact hb.2.2.2.2.2.1.trans (pk_un (x := mCn v 0 + 1) (show (2 : Nat) ≠ 0 by decide)).symm
      · exact hb.2.2.2.2.2.2.trans (pk_un (x := mCn v 0 + 1) (show (3 : Nat) ≠ 0 by decide)).symm
      · exact ((out_C v 0).tr (out_add (v := mSetC v 0) (by show mW v 0 < 80; omega) 1 _)).tr (out_cn _ (by decide) _)
      · exact z_add (v := mSetC v 0) h.2.2.2.2.1 (Or.inr rfl) (aSet tr x y t g o)
      · show va_up (mW v) 0 (mW v 0 + 1) 0 ≤ 80
        rw [va_up_self]; omega
  · rw [cset_iff] at hg
    rcases hm with ⟨-, rfl⟩ | ⟨h1, -⟩ | ⟨h1, -⟩
    · exact ⟨rfl, fun q => absurd q (by decide), h.up (Nat.le_succ B)⟩
    · exact absurd h1 hg
    · exact absurd h1 hg
  · rw [cset_iff] at hg
    rcases hm with ⟨h1, -⟩ | ⟨-, -, rfl⟩ | ⟨-, h1, -⟩
    · exact absurd hg h1
    · exact ⟨rfl, fun q => absurd q (by decide), h.up (Nat.le_succ B)⟩
    · omega
