/-! A pass: step by step the class does what the reference does. -/
theorem least_nat {P : Nat → Prop} : ∀ n, P n → ∃ k, P k ∧ ∀ i, i < k → ¬ P i := by
  intro n
  induction n using Nat.strongRecOn with
  | _ n ih =>
    intro h
    by_cases hx : ∃ m, m < n ∧ P m
    · obtain ⟨m, h1, h2⟩ := hx
      exact ih m h1 h2
    · exact ⟨n, h, fun i hi hp => hx ⟨i, hi, hp⟩⟩
/-- the first of a clock -/
theorem first_ex {u : LnR} (hs : eSrt (lAb u)) {c : Int32} {e : Ent} (he : e ∈ lAb u) (hc : eC e = c) : ∃ q, q < lSz u ∧ eC (lAt u q) = c ∧ (∀ i, i < q → eC (lAt u i) ≠ c) ∧ (eT (lAt u q)).toInt ≤ (eT e).toInt := by
  obtain ⟨j, hj, ej⟩ := mem_lAb he
  obtain ⟨q, ⟨h1, h2⟩, h3⟩ := least_nat (P := fun i => i < lSz u ∧ eC (lAt u i) = c) j ⟨hj, by rw [ej]; exact hc⟩
  have hf : ∀ i, i < q → eC (lAt u i) ≠ c := fun i hi e9 => h3 i hi ⟨by omega, e9⟩
  exact ⟨q, h1, h2, hf, eLt_tm (first_le hs h1 hf he hc)⟩
theorem none_no {u : LnR} (hs : eSrt (lAb u)) {c : Int32} {t : Int64} (h : lNone u c t) {e : Ent} (he : e ∈ lAb u) (hc : eC e = c) (ht : eT e ≤ t) : False := by
  obtain ⟨q, h1, h2, h3, h4⟩ := first_ex hs he hc
  exact h q h1 h2 h3 (Int64.le_iff_toInt_le.mpr (Int.le_trans h4 (Int64.le_iff_toInt_le.mp ht)))
theorem stop_rel {w : TrR} {kp : List (StA × StR)} {v : MR} {B : Nat} {c : Int32} {t : Int64} (h : LRel w kp v B) (hs : tStop c t w) : mLeast v c 0 t (mW v 0) = none := by
  have hok : StOk (tX w) := h.1.1
  refine least_no h.2.2.2.2.1 (fun y hy => may_no (fun ⟨y1, y2, y3⟩ => ?_))
  rcases bl_kind h.2.2.1 h.2.2.2.2.1 hy with ⟨-, q2⟩ | ⟨-, q2⟩
  · exact none_no hok.1.2 hs.1 q2 y1 y2
  · rcases hs.2 with h0 | h0
    · exact h0 (y1.symm.trans (h.2.1.2.2.1 _ q2).2)
    · exact none_no hok.2.1.2 h0 q2 y1 y2
theorem kr_t1 (e : Ent) : kr 1 (1, e) = 1 := by unfold kr; simp
theorem kr_r1 (e : Ent) : kr 1 (0, e) = 0 := by unfold kr; simp
theorem kr_t0 (e : Ent) : kr 0 (1, e) = 0 := by unfold kr; simp
theorem kr_r0 (e : Ent) : kr 0 (0, e) = 1 := by unfold kr; simp
/-- a row goes ahead of a timer -/
theorem lt_tr {rf : Int32} {e r : Ent} (h : (eT r).toInt < (eT e).toInt ∨ ((eT r).toInt ≤ (eT e).toInt ∧ rf = 1)) : mLt rf (1, e) (0, r) = false := by
  rw [mLt_f, mLt_iff (Or.inr rfl) (Or.inl rfl)]
  dsimp only
  rcases h with h | ⟨h, rfl⟩
  · omega
  · rw [kr_t1, kr_r1]; omega
theorem lt_rt {rf : Int32} {e r : Ent} (h : (eT e).toInt < (eT r).toInt ∨ ((eT e).toInt ≤ (eT r).toInt ∧ rf = 0)) : mLt rf (0, r) (1, e) = false := by
  rw [mLt_f, mLt_iff (Or.inl rfl) (Or.inr rfl)]
  dsimp only
  rcases h with h | ⟨h, rfl⟩
  · omega
  · rw [kr_t0, kr_r0]; omega
theorem ahead_y {x : StR} {k q : Nat} (hrf : sRf x = 0 ∨ sRf x = 1) (h : sAhead x k q) : (eT (lAt (sR x) k)).toInt < (eT (lAt (sT x) q)).toInt ∨ ((eT (lAt (sR x) k)).toInt ≤ (eT (lAt (sT x) q)).toInt ∧ sRf x = 1) := by
  unfold sAhead at h
  by_cases h1 : eT (lAt (sR x) k) = eT (lAt (sT x) q)
  · rw [if_pos h1] at h
    exact Or.inr ⟨by rw [h1]; exact Int.le_refl _, hrf.resolve_left h⟩
  · rw [if_neg h1] at h
    by_cases h2 : eT (lAt (sR x) k) < eT (lAt (sT x) q)
    · exact Or.inl (Int64.lt_iff_toInt_lt.mp h2)
    · rw [if_neg h2] at h
      exact absurd rfl h
theorem ahead_n {x : StR} {k q : Nat} (h : ¬ sAhead x k q) : (eT (lAt (sT x) q)).toInt < (eT (lAt (sR x) k)).toInt ∨ ((eT (lAt (sT x) q)).toInt ≤ (eT (lAt (sR x) k)).toInt ∧ sRf x = 0) := by
  unfold sAhead at h
  have h := Classical.not_not.mp h
  by_cases h1 : eT (lAt (sR x) k) = eT (lAt (sT x) q)
  · rw [if_pos h1] at h
    exact Or.inr ⟨by rw [h1]; exact Int.le_refl _, h⟩
  · rw [if_neg h1] at h
    by_cases h2 : eT (lAt (sR x) k) < eT (lAt (sT x) q)
    · rw [if_pos h2] at h
      exact absurd h (by decide)
    · have h3 : (eT (lAt (sR x) k)).toInt ≠ (eT (lAt (sT x) q)).toInt := fun q => h1 (Int64.toInt_inj.mp q)
      have h4 : ¬ (eT (lAt (sR x) k)).toInt < (eT (lAt (sT x) q)).toInt := fun q => h2 (Int64.lt_iff_toInt_lt.mpr q)
      exact Or.inl (by omega)
/-- the row that is done is the least -/
theorem least_row {w : TrR} {kp : List (StA × StR)} {v : MR} {B : Nat} {c : Int32} {t : Int64} {k : Nat} (h : LRel w kp v B) (hd : lDue (sR (tX w)) c t k) (hT : lNone (sT (tX w)) c t ∨ ∃ q, lDue (sT (tX w)) c t q ∧ sAhead (tX w) k q) : ∃ i, mLeast v c 0 t (mW v 0) = some i ∧ i < mW v 0 ∧ mE v i = (0, lAt (sR (tX w)) k) := by
  have hb := h.2.2.1
  have hz := h.2.2.2.2.1
  have hok : StOk (tX w) := h.1.1
  refine least_of hb h.2.1 hz (hb.1.mem_iff.mpr (mem0.mpr (lAt_mem hd.1))) (may_iff.mpr ⟨hd.2.1, hd.2.2.2, Or.inr rfl⟩) (fun y hy hmy => ?_)
  obtain ⟨y1, y2, -⟩ := may_iff.mp hmy
  have kd := bl_kind hb hz hy
  obtain ⟨a, e⟩ := y
  dsimp only at kd y1 y2
  rcases kd with ⟨rfl, q2⟩ | ⟨rfl, q2⟩
  · rcases hT with hT | ⟨q, hq, ha⟩
    · exact (none_no hok.1.2 hT q2 y1 y2).elim
    · have h1 := eLt_tm (first_le hok.1.2 hq.1 hq.2.2.1 q2 y1)
      have h2 := ahead_y hok.2.2.1 ha
      rw [← show sRf (tX w) = mCn v 3 from hb.2.2.2.2.2.2]
      rcases h2 with h2 | ⟨h2, h3⟩
      · exact lt_tr (Or.inl (by omega))
      · exact lt_tr (Or.inr ⟨by omega, h3⟩)
  · rw [mLt_same _ _ (Or.inl rfl)]
    exact first_le hok.2.1.2 hd.1 hd.2.2.1 q2 y1
theorem least_tim {w : TrR} {kp : List (StA × StR)} {v : MR} {B : Nat} {c : Int32} {t : Int64} {q : Nat} (h : LRel w kp v B) (hd : lDue (sT (tX w)) c t q) (hR : (¬ c = 0 ∨ lNone (sR (tX w)) c t) ∨ ∃ k, lDue (sR (tX w)) c t k ∧ ¬ sAhead (tX w) k q) : ∃ i, mLeast v c 0 t (mW v 0) = some i ∧ i < mW v 0 ∧ mE v i = (1, lAt (sT (tX w)) q) := by
  have hb := h.2.2.1
  have hz := h.2.2.2.2.1
  have hok : StOk (tX w) := h.1.1
  refine least_of hb h.2.1 hz (hb.1.mem_iff.mpr (mem1.mpr (lAt_mem hd.1))) (may_iff.mpr ⟨hd.2.1, hd.2.2.2, Or.inr rfl⟩) (fun y hy hmy => ?_)
  obtain ⟨y1, y2, -⟩ := may_iff.mp hmy
  have kd := bl_kind hb hz hy
  obtain ⟨a, e⟩ := y
  dsimp only at kd y1 y2
  rcases kd with ⟨rfl, q2⟩ | ⟨rfl, q2⟩
  · rw [mLt_same _ _ (Or.inr rfl)]
    exact first_le hok.1.2 hd.1 hd.2.2.1 q2 y1
  · rcases hR with (hR | hR) | ⟨k, hk, ha⟩
    · exact absurd (y1.symm.trans (h.2.1.2.2.1 _ q2).2) hR
    · exact (none_no hok.2.1.2 hR q2 y1 y2).elim
    · have h1 := eLt_tm (first_le hok.2.1.2 hk.1 hk.2.2.1 q2 y1)
      have h2 := ahead_n ha
      rw [← show sRf (tX w) = mCn v 3 from hb.2.2.2.2.2.2]
      rcases h2 with h2 | ⟨h2, h3⟩
      · exact lt_rt (Or.inl (by omega))
      · exact lt_rt (Or.inr ⟨by omega, h3⟩)
theorem lrel_step {w : TrR} {kp : List (StA × StR)} {v v' : MR} {B B' : Nat} {x' : StR} {g : LgR} (h : LRel w kp v B) (hB : B ≤ B') (h1 : StOk x') (h2 : SIn x' B') (h3 : BRel x' v' 0) (ho : mOut v v') (hz : MZ v') (hw : mW v' 0 ≤ 80) (hk : mKp v' = mKp v) (hg1 : gLok (gL g)) (hg2 : gN g ≤ gL g) (hg : GRel g v') : LRel (tSetG (tSetX w x') g) kp v' B' :=
  ⟨⟨h1, hg1, hg2⟩, h2, h3, hg, hz, mw_out h.2.2.2.2.2.1 ho hw, krel_out h.2.2.2.2.2.2 hB ho hk rfl rfl⟩
theorem grel_log {g g' : LgR} {v : MR} {i : Nat} {k : Int32} {e : Ent} (h : GRel g v) (hn : gN g < 2080) (ha : gAdd g g' (lgE k e)) (hi : mE v i = (k, e)) (hk : k = 0 ∨ k = 1) : GRel g' (mLog v i) := by
  obtain ⟨h1, h2, h3⟩ := h
  obtain ⟨-, a2, a3, a4⟩ := ha
  refine ⟨by rw [a2, h1]; rfl, fun j hj => ?_, by omega⟩
  show lgAt g' j = (upd (mDk v) (mDn v) (if mIt v i = 0 then 0 else 1) j, upd (mDu v) (mDn v) (mNu v i) j, vp_updL (mDe v) (mDn v) (mKe v i) j, vp_updL (mDt v) (mDn v) (mTi v i) j, upd (mDo v) (mDn v) (mOf v i) j)
  by_cases e9 : j = mDn v
  · subst e9
    rw [pk_us, pk_us, pk_uLs, pk_uLs, pk_us, ← h1, a3]
    have ek : (if mIt v i = 0 then (0 : Int32) else 1) = k := by
      rw [show mIt v i = k from congrArg Prod.fst hi]
      rcases hk with q | q <;> subst q <;> rfl
    rw [ek, show mNu v i = eN e from congrArg (fun m : ME => eN m.2) hi, show mKe v i = eK e from congrArg (fun m : ME => eK m.2) hi, show mTi v i = eT e from congrArg (fun m : ME => eT m.2) hi, show mOf v i = eO e from congrArg (fun m : ME => eO m.2) hi]
    rfl
  · rw [pk_un e9, pk_un e9, pk_uLn e9, pk_uLn e9, pk_un e9]
    have hj2 : j < gN g := by omega
    rw [a4 j hj2]
    exact h2 j hj2
theorem grel_take {g : LgR} {V : MR} (i : Nat) (h : GRel g V) : GRel g (mTake V i) := h
theorem grel_again {g : LgR} {V : MR} (i : Nat) (h : GRel g V) : GRel g (mAgain V i) := h
theorem out_again {v : MR} {i : Nat} (hi : i < 80) : mOut v (mAgain v i) := ⟨fun _ _ => rfl, fun j hj => by rw [mE_again, if_neg (by omega)], fun _ _ => rfl, fun j hj => pk_un (by omega)⟩
theorem step_rel {w w' : TrR} {kp : List (StA × StR)} {v : MR} {B : Nat} {c : Int32} {t : Int64} (h : LRel w kp v B) (hB : B ≤ 1500000) (ht : gTim t) (hn : gN (tG w) < 2080) (h1 : tOne c t w w') : ∃ i, mLeast v c 0 t (mW v 0) = some i ∧ LRel w' kp (mStep v i) (B + 1) := by
  have hb := h.2.2.1
  have hz := h.2.2.2.2.1
  have hsi := h.2.1
  have hok : StOk (tX w) := h.1.1
  have hw80 := h.2.2.2.2.2.1 0 (by decide)
  rcases h1 with ⟨k, -, hd, hT, g, ha, rfl⟩ | ⟨q, hd, hR, g, x', ha, hf, rfl⟩
  · obtain ⟨i, e1, e2, e3⟩ := least_row h hd hT
    refine ⟨i, e1, ?_⟩
    have hit : mIt v i = 0 := congrArg Prod.fst e3
    obtain ⟨b1, b2, -, -⟩ := gAdd_ok h.1.2.1 h.1.2.2 hn ha
    have hst : mStep v i = mTake (mLog v i) i := by unfold mStep; rw [if_pos (Or.inl hit)]
    rw [hst]
    have eab : lAb (lLeave (sR (tX w)) k) = (lAb (sR (tX w))).eraseIdx k := lLeave_ab hd.1
    refine lrel_step (x' := sSetR (tX w) (lLeave (sR (tX w)) k)) h (Nat.le_succ B) ⟨hok.1, lLeave_st hok.2.1 hd.1, hok.2.2⟩ ⟨hsi.1, hsi.2.1, fun e he => ?_, ?_, ?_, ?_⟩ ⟨?_, hb.2⟩ ?_ ?_ ?_ rfl b1 b2 (grel_take i (grel_log h.2.2.2.1 hn ha e3 (Or.inl rfl)))
    · have he : e ∈ lAb (lLeave (sR (tX w)) k) := he
      rw [eab] at he
      exact hsi.2.2.1 e (mem_erase he)
    · show ((lAb (lLeave (sR (tX w)) k)).map eN).Nodup
      rw [eab]; exact nd_erase hsi.2.2.2.1 k
    · have := hsi.2.2.2.2.1
      exact ⟨this.1, by show (sTs (tX w)).toInt ≤ _; omega⟩
    · have := hsi.2.2.2.2.2
      exact ⟨this.1, by show (sRc (tX w)).toInt ≤ _; omega⟩
    · show (mBl (mTake (mLog v i) i) 0).Perm (mk1 (lAb (sT (tX w))) (lAb (lLeave (sR (tX w)) k)))
      rw [eab]
      exact (mBl_take (v := mLog v i) e2).trans (perm_goneR hb e2 hd.1 e3)
    · exact out_take (v := mLog v i) (by omega)
    · exact mTake_z (v := mLog v i) hz
    · rw [mTake_w]; show mW v 0 - 1 ≤ 80; omega
  · obtain ⟨i, e1, e2, e3⟩ := least_tim h hd hR
    refine ⟨i, e1, ?_⟩
    have hit : mIt v i = 1 := congrArg Prod.fst e3
    have hof : mOf v i = eO (lAt (sT (tX w)) q) := congrArg (fun m : ME => eO m.2) e3
    obtain ⟨b1, b2, -, -⟩ := gAdd_ok h.1.2.1 h.1.2.2 hn ha
    obtain ⟨hx', -, -⟩ := sFin_ok hok hd.1 hf
    have hgl := grel_log h.2.2.2.1 hn ha e3 (Or.inr rfl)
    have hsi1 := hsi.1 _ (lAt_mem hd.1)
    rcases hf with ⟨h0, rfl⟩ | ⟨h0, rfl⟩
    · have hst : mStep v i = mAgain (mLog v i) i := by
        unfold mStep
        rw [if_neg]
        rintro (q1 | q1)
        · rw [hit] at q1; exact absurd q1 (by decide)
        · rw [hof] at q1; exact Int32.not_le.mpr h0 q1
      rw [hst]
      have eab : lAb (lSort (lAgain (lLeave (sT (tX w)) q) (sTs (tX w))) (kC w q)) = eIns ((lAb (sT (tX w))).eraseIdx q) (eAgain (lAt (sT (tX w)) q) (sTs (tX w))) := lAgain_ab hok.1.1 hd.1 _
      have hin := inc_toInt hsi.2.2.2.2.1.1 (by have := hsi.2.2.2.2.1.2; omega)
      have hti := tim_int ht
      have hdt := Int64.le_iff_toInt_le.mp hd.2.2.2
      have hsum : (eT (lAt (sT (tX w)) q) + eG (lAt (sT (tX w)) q)).toInt = (eT (lAt (sT (tX w)) q)).toInt + (eG (lAt (sT (tX w)) q)).toInt := by
        have := hsi1.2
        unfold eTm at this
        rw [Int64.toInt_add, Int.bmod_eq_of_le] <;> simp <;> omega
      have hnew : ∀ e ∈ lAb (sT (tX w)), eN e ≠ sTs (tX w) := fun e he q => by
        have := (hsi.1 e he).1
        rw [q] at this
        omega
      refine lrel_step (x' := sSetTs (sSetT (tX w) (lSort (lAgain (lLeave (sT (tX w)) q) (sTs (tX w))) (kC w q))) (sTs (tX w) + 1)) h (Nat.le_succ B) hx' ⟨fun e he => ?_, ?_, hsi.2.2.1, hsi.2.2.2.1, ?_, ?_⟩ ⟨?_, hb.2.1, hb.2.2.1, ?_, ?_, ?_, ?_⟩ ?_ hz hw80 rfl b1 b2 (grel_again i hgl)
      · have he : e ∈ lAb (lSort (lAgain (lLeave (sT (tX w)) q) (sTs (tX w))) (kC w q)) := he
        rw [eab] at he
        show (eN e).toInt < (sTs (tX w) + 1).toInt ∧ eTm e
        rw [hin]
        rcases mem_ins.mp he with r | r
        · rw [r]
          have h9 := hsi1.2
          unfold eTm at h9
          refine ⟨by show (sTs (tX w)).toInt < _; omega, ?_, ?_, h9.2.2.1, h9.2.2.2⟩
          · show 0 ≤ (eT (lAt (sT (tX w)) q) + eG (lAt (sT (tX w)) q)).toInt
            omega
          · show (eT (lAt (sT (tX w)) q) + eG (lAt (sT (tX w)) q)).toInt ≤ _
            omega
        · exact ⟨by have := (hsi.1 e (mem_erase r)).1; omega, (hsi.1 e (mem_erase r)).2⟩
      · show ((lAb (lSort (lAgain (lLeave (sT (tX w)) q) (sTs (tX w))) (kC w q))).map eN).Nodup
        rw [eab]
        exact nd_new (nd_erase hsi.2.1 q) (fun e he => hnew e (mem_erase he))
      · show 0 ≤ (sTs (tX w) + 1).toInt ∧ (sTs (tX w) + 1).toInt ≤ ((B + 1 : Nat) : Int)
        rw [hin]
        have := hsi.2.2.2.2.1
        omega
      · have := hsi.2.2.2.2.2
        exact ⟨this.1, by show (sRc (tX w)).toInt ≤ _; omega⟩
      · show (mBl (mAgain (mLog v i) i) 0).Perm (mk1 (lAb (lSort (lAgain (lLeave (sT (tX w)) q) (sTs (tX w))) (kC w q))) (lAb (sR (tX w))))
        rw [eab, mBl_put (v := v) (v' := mAgain (mLog v i) i) rfl (fun j => mE_again (mLog v i) i j)]
        refine (set_perm (mBl0_get e2) _).trans ?_
        have e9 : ((mE (mLog v i) i).1, eAgain (mE (mLog v i) i).2 (mCn (mLog v i) 0)) = (1, eAgain (lAt (sT (tX w)) q) (sTs (tX w))) := by
          show ((mE v i).1, eAgain (mE v i).2 (mCn v 0)) = _
          rw [e3, ← show sTs (tX w) = mCn v 0 from hb.2.2.2.1]
        rw [e9]
        exact (List.Perm.cons _ (perm_gone hb e2 hd.1 e3)).trans (mk1_perm (T := eAgain (lAt (sT (tX w)) q) (sTs (tX w)) :: (lAb (sT (tX w))).eraseIdx q) (eIns_perm _ _).symm (List.Perm.refl _))
      · show sTs (tX w) + 1 = upd (mCn v) 0 (mCn v 0 + 1) 0
        rw [pk_us, show sTs (tX w) = mCn v 0 from hb.2.2.2.1]
      · exact hb.2.2.2.2.1.trans (pk_un (x := mCn v 0 + 1) (show (1 : Nat) ≠ 0 by decide)).symm
      · exact hb.2.2.2.2.2.1.trans (pk_un (x := mCn v 0 + 1) (show (2 : Nat) ≠ 0 by decide)).symm
      · exact hb.2.2.2.2.2.2.trans (pk_un (x := mCn v 0 + 1) (show (3 : Nat) ≠ 0 by decide)).symm
      · exact out_again (v := mLog v i) (by omega)
    · have hst : mStep v i = mTake (mLog v i) i := by
        unfold mStep
        rw [if_pos (Or.inr (by rw [hof]; exact Int32.not_lt.mp h0))]
      rw [hst]
      have eab : lAb (lLeave (sT (tX w)) q) = (lAb (sT (tX w))).eraseIdx q := lLeave_ab hd.1
      refine lrel_step (x' := sSetT (tX w) (lLeave (sT (tX w)) q)) h (Nat.le_succ B) hx' ⟨fun e he => ?_, ?_, hsi.2.2.1, hsi.2.2.2.1, ?_, ?_⟩ ⟨?_, hb.2⟩ ?_ ?_ ?_ rfl b1 b2 (grel_take i hgl)
      · have he : e ∈ lAb (lLeave (sT (tX w)) q) := he
        rw [eab] at he
        exact hsi.1 e (mem_erase he)
      · show ((lAb (lLeave (sT (tX w)) q)).map eN).Nodup
        rw [eab]; exact nd_erase hsi.2.1 q
      · have := hsi.2.2.2.2.1
        exact ⟨this.1, by show (sTs (tX w)).toInt ≤ _; omega⟩
      · have := hsi.2.2.2.2.2
        exact ⟨this.1, by show (sRc (tX w)).toInt ≤ _; omega⟩
      · show (mBl (mTake (mLog v i) i) 0).Perm (mk1 (lAb (lLeave (sT (tX w)) q)) (lAb (sR (tX w))))
        rw [eab]
        exact (mBl_take (v := mLog v i) e2).trans (perm_gone hb e2 hd.1 e3)
      · exact out_take (v := mLog v i) (by omega)
      · exact mTake_z (v := mLog v i) hz
      · rw [mTake_w]; show mW v 0 - 1 ≤ 80; omega
