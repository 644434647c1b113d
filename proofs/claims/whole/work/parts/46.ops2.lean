theorem erase_get {u : LnR} {i : Nat} (h : i < lSz u) : (lAb u)[i]? = some (lAt u i) := by rw [lAb_get, if_pos h]
/-- a timer goes -/
theorem perm_gone {x : StR} {v : MR} (h : BRel x v 0) {k i : Nat} (hk : k < mW v 0) (hi : i < lSz (sT x)) (e : mE v k = (1, lAt (sT x) i)) : ((mBl v 0).eraseIdx k).Perm (mk1 ((lAb (sT x)).eraseIdx i) (lAb (sR x))) := by
  have h1 : (mBl v 0).Perm (mE v k :: (mBl v 0).eraseIdx k) := erase_perm (mBl0_get hk)
  have h2 : (mk1 (lAb (sT x)) (lAb (sR x))).Perm ((1, lAt (sT x) i) :: mk1 ((lAb (sT x)).eraseIdx i) (lAb (sR x))) := mk1_perm (T' := lAt (sT x) i :: (lAb (sT x)).eraseIdx i) (erase_perm (erase_get hi)) (List.Perm.refl _)
  have h3 := (h1.symm.trans h.1).trans h2
  rw [e] at h3
  exact List.Perm.cons_inv h3
theorem perm_goneR {x : StR} {v : MR} (h : BRel x v 0) {k i : Nat} (hk : k < mW v 0) (hi : i < lSz (sR x)) (e : mE v k = (0, lAt (sR x) i)) : ((mBl v 0).eraseIdx k).Perm (mk1 (lAb (sT x)) ((lAb (sR x)).eraseIdx i)) := by
  have h1 : (mBl v 0).Perm (mE v k :: (mBl v 0).eraseIdx k) := erase_perm (mBl0_get hk)
  have h2 : (mk1 (lAb (sT x)) (lAb (sR x))).Perm ((0, lAt (sR x) i) :: mk1 (lAb (sT x)) ((lAb (sR x)).eraseIdx i)) := (mk1_perm (R' := lAt (sR x) i :: (lAb (sR x)).eraseIdx i) (List.Perm.refl _) (erase_perm (erase_get hi))).trans (mk1_row _ _ _)
  have h3 := (h1.symm.trans h.1).trans h2
  rw [e] at h3
  exact List.Perm.cons_inv h3
theorem nd_erase {L : List Ent} (h : (L.map eN).Nodup) (i : Nat) : ((L.eraseIdx i).map eN).Nodup := h.sublist ((List.eraseIdx_sublist L i).map eN)
theorem mem_erase {L : List Ent} {i : Nat} {e : Ent} (h : e ∈ L.eraseIdx i) : e ∈ L := (List.eraseIdx_sublist L i).subset h
/-- one that went is unlike those that stay -/
theorem nd_gone {L : List Ent} (h : (L.map eN).Nodup) {i : Nat} {a : Ent} (ha : L[i]? = some a) : ∀ e ∈ L.eraseIdx i, eN e ≠ eN a := by
  have h1 := ((erase_perm ha).map eN).nodup_iff.mp h
  rw [List.map_cons, List.nodup_cons] at h1
  exact fun e he q => h1.1 (List.mem_map.mpr ⟨e, he, q⟩)
theorem op_cancel {tr u : TrR} {kp : List (StA × StR)} {v u2 : MR} {B : Nat} {x r r' : Int32} (h : LRel tr kp v B) 
    (hc : ((∀ i, i < lSz (sT (tX tr)) → eN (lAt (sT (tX tr)) i) ≠ x) ∧ r = 0 ∧ u = tr) ∨ (∃ k, k < lSz (sT (tX tr)) ∧ eN (lAt (sT (tX tr)) k) = x ∧ r = 1 ∧ u = tSetX tr (sSetT (tX tr) (lLeave (sT (tX tr)) k))))
    (hm : ((∀ k, k < mW v 0 → mIt v k ≠ 0 → mNu v k ≠ x) ∧ u2 = mSetC v 0 ∧ r' = 0) ∨ (∃ k, k < mW v 0 ∧ mIt v k ≠ 0 ∧ mNu v k = x ∧ u2 = mTake (mSetC v 0) k ∧ r' = 1)) : r = r' ∧ LRel u kp u2 B := by
  have hb := h.2.2.1
  have hz := h.2.2.2.2.1
  have hsi := h.2.1
  have hok : StOk (tX tr) := h.1.1
  have hw80 := h.2.2.2.2.2.1 0 (by decide)
  rcases hc with ⟨hno, rfl, rfl⟩ | ⟨i, hi, hn, rfl, rfl⟩
  · rcases hm with ⟨-, rfl, rfl⟩ | ⟨k, hk, h1, h2, -⟩
    · exact ⟨rfl, h⟩
    · exact absurd h2 ((find_no hb hz x).mpr hno k hk h1)
  · rcases hm with ⟨hno, -, -⟩ | ⟨k, hk, h1, h2, rfl, rfl⟩
    · exact absurd hn ((find_no hb hz x).mp hno i hi)
    · have e := find_one hb hsi hz hk h1 h2 hi hn
      have eab : lAb (lLeave (sT (tX tr)) i) = (lAb (sT (tX tr))).eraseIdx i := lLeave_ab hi
      refine ⟨rfl, lrel_live (v' := mTake (mSetC v 0) k) h (Nat.le_refl B) ⟨lLeave_st hok.1 hi, hok.2.1, hok.2.2.1, fun e he => ?_⟩ ⟨fun e he => ?_, ?_, hsi.2.2⟩ ⟨?_, hb.2⟩ ?_ ?_ ?_ rfl h.2.2.2.1⟩
      · have he : e ∈ lAb (lLeave (sT (tX tr)) i) := he
        rw [eab] at he
        exact hok.2.2.2 e (mem_erase he)
      · have he : e ∈ lAb (lLeave (sT (tX tr)) i) := he
        rw [eab] at he
        exact hsi.1 e (mem_erase he)
      · show ((lAb (lLeave (sT (tX tr)) i)).map eN).Nodup
        rw [eab]; exact nd_erase hsi.2.1 i
      · show (mBl (mTake (mSetC v 0) k) 0).Perm (mk1 (lAb (lLeave (sT (tX tr)) i)) (lAb (sR (tX tr))))
        rw [eab]
        exact (mBl_take (v := mSetC v 0) hk).trans (perm_gone hb hk hi e)
      · exact out_take (v := mSetC v 0) (by omega)
      · exact mTake_z (v := mSetC v 0) hz
      · rw [mTake_w]; show mW v 0 - 1 ≤ 80; omega
theorem op_move {tr : TrR} {kp : List (StA × StR)} {v u2 : MR} {B : Nat} {x : Int32} {t : Int64} {of9 : Nat → Int64} {r9 : Int32} {r : Int64} {w2 : TrR × (Nat → Int64)} (h : LRel tr kp v B)
    (hc : (r9 = 0 ∧ ∃ v1 : Int64, (gTim t ∧ ∃ k, k < lSz (sT (tX tr)) ∧ eN (lAt (sT (tX tr)) k) = x ∧ v1 = eT (lAt (sT (tX tr)) k) ∧ w2.1 = tSetX tr (sSetT (tX tr) (lSort (lPutT (lLeave (sT (tX tr)) k) t) (ePl (lAb (lLeave (sT (tX tr)) k)) (eSetT (lAt (sT (tX tr)) k) t))))) ∧ w2.2 0 = v1) ∨ (r9 = 1 ∧ w2 = (tr, of9) ∧ ¬ gTim t) ∨ (r9 = 2 ∧ w2 = (tr, of9) ∧ (gTim t ∧ ∀ i, i < lSz (sT (tX tr)) → eN (lAt (sT (tX tr)) i) ≠ x)))
    (hm : (¬ gTim t ∧ u2 = mSetC v 1) ∨ (gTim t ∧ (∀ k, k < mW v 0 → mIt v k ≠ 0 → mNu v k ≠ x) ∧ u2 = mSetC v 2) ∨ (gTim t ∧ ∃ k, k < mW v 0 ∧ mIt v k ≠ 0 ∧ mNu v k = x ∧ u2 = mSetT (mSetC v 0) k t ∧ r = mTi v k)) : mCode u2 = r9 ∧ (r9 = 0 → w2.2 0 = r) ∧ LRel w2.1 kp u2 B := by
  have hb := h.2.2.1
  have hz := h.2.2.2.2.1
  have hsi := h.2.1
  have hok : StOk (tX tr) := h.1.1
  have hw80 := h.2.2.2.2.2.1 0 (by decide)
  rcases hc with ⟨rfl, v1, ⟨hg, i, hi, hn, rfl, hw1⟩, h0⟩ | ⟨rfl, rfl, hg⟩ | ⟨rfl, rfl, hg, hno⟩
  · rcases hm with ⟨h1, -⟩ | ⟨-, hno, -⟩ | ⟨-, k, hk, h1, h2, rfl, rfl⟩
    · exact absurd hg h1
    · exact absurd hn ((find_no hb hz x).mp hno i hi)
    · have e := find_one hb hsi hz hk h1 h2 hi hn
      have et : mTi v k = eT (lAt (sT (tX tr)) i) := congrArg (fun m : ME => eT m.2) e
      refine ⟨rfl, fun _ => by rw [h0, et], ?_⟩
      rw [hw1]
      have eab : lAb (lSort (lPutT (lLeave (sT (tX tr)) i) t) (ePl (lAb (lLeave (sT (tX tr)) i)) (eSetT (lAt (sT (tX tr)) i) t))) = eIns ((lAb (sT (tX tr))).eraseIdx i) (eSetT (lAt (sT (tX tr)) i) t) := lRetime_ab hok.1.1 hi t
      have ht := tim_int hg
      refine lrel_live (v' := mSetT (mSetC v 0) k t) h (Nat.le_refl B) ⟨lRetime_st hok.1 hi t, hok.2.1, hok.2.2.1, fun e he => ?_⟩ ⟨fun e he => ?_, ?_, hsi.2.2⟩ ⟨?_, hb.2⟩ (out_T (v := mSetC v 0) (by omega) t) hz hw80 rfl h.2.2.2.1
      · have he : e ∈ lAb (lSort (lPutT (lLeave (sT (tX tr)) i) t) (ePl (lAb (lLeave (sT (tX tr)) i)) (eSetT (lAt (sT (tX tr)) i) t))) := he
        rw [eab] at he
        rcases mem_ins.mp he with q | q
        · rw [q]; exact hok.2.2.2 (lAt (sT (tX tr)) i) (lAt_mem hi)
        · exact hok.2.2.2 e (mem_erase q)
      · have he : e ∈ lAb (lSort (lPutT (lLeave (sT (tX tr)) i) t) (ePl (lAb (lLeave (sT (tX tr)) i)) (eSetT (lAt (sT (tX tr)) i) t))) := he
        rw [eab] at he
        rcases mem_ins.mp he with q | q
        · rw [q]
          have h9 := hsi.1 _ (lAt_mem hi)
          exact ⟨h9.1, ht.1, by show t.toInt ≤ _; omega, h9.2.2.2⟩
        · exact hsi.1 e (mem_erase q)
      · show ((lAb (lSort (lPutT (lLeave (sT (tX tr)) i) t) (ePl (lAb (lLeave (sT (tX tr)) i)) (eSetT (lAt (sT (tX tr)) i) t)))).map eN).Nodup
        rw [eab]
        exact nd_new (nd_erase hsi.2.1 i) (fun e he => nd_gone (a := lAt (sT (tX tr)) i) hsi.2.1 (erase_get hi) e he)
      · show (mBl (mSetT (mSetC v 0) k t) 0).Perm (mk1 (lAb (lSort (lPutT (lLeave (sT (tX tr)) i) t) (ePl (lAb (lLeave (sT (tX tr)) i)) (eSetT (lAt (sT (tX tr)) i) t)))) (lAb (sR (tX tr))))
        rw [eab, mBl_put (v := v) (v' := mSetT (mSetC v 0) k t) rfl (fun j => mE_setT (mSetC v 0) k t j)]
        refine (set_perm (mBl0_get hk) _).trans ?_
        have e9 : ((mE (mSetC v 0) k).1, eSetT (mE (mSetC v 0) k).2 t) = (1, eSetT (lAt (sT (tX tr)) i) t) := by
          show ((mE v k).1, eSetT (mE v k).2 t) = _
          rw [e]
        rw [e9]
        exact (List.Perm.cons _ (perm_gone hb hk hi e)).trans (mk1_perm (T := eSetT (lAt (sT (tX tr)) i) t :: (lAb (sT (tX tr))).eraseIdx i) (eIns_perm _ _).symm (List.Perm.refl _))
  · rcases hm with ⟨-, rfl⟩ | ⟨h1, -⟩ | ⟨h1, -⟩
    · exact ⟨rfl, fun q => absurd q (by decide), h⟩
    · exact absurd h1 hg
    · exact absurd h1 hg
  · rcases hm with ⟨h1, -⟩ | ⟨-, -, rfl⟩ | ⟨-, k, hk, h1, h2, -⟩
    · exact absurd hg h1
    · exact ⟨rfl, fun q => absurd q (by decide), h⟩
    · exact absurd h2 ((find_no hb hz x).mpr hno k hk h1)
