theorem op_row {tr : TrR} {kp : List (StA × StR)} {v u2 : MR} {B : Nat} {y t : Int64} {of9 : Nat → Int64} {r9 r : Int32} {w2 : TrR × (Nat → Int64)} (h : LRel tr kp v B) (hB : B ≤ 1500000)
    (hc : (r9 = 0 ∧ ∃ v1 : Int32, ((gTim t ∧ t ≤ sNw (tX tr) 0 ∧ v1 = -1 ∧ w2.1 = tSetX tr (sSetLa (tX tr) (sLa (tX tr) + 1))) ∨ (gTim t ∧ ¬ t ≤ sNw (tX tr) 0 ∧ lSz (sR (tX tr)) < 40 ∧ v1 = sRc (tX tr) ∧ w2.1 = tSetX tr (sSetRc (sSetR (tX tr) (lSort (lPut (sR (tX tr)) (sRc (tX tr), 0, y, t, 0, 0)) (ePl (lAb (sR (tX tr))) (sRc (tX tr), 0, y, t, 0, 0)))) (sRc (tX tr) + 1)))) ∧ w2.2 0 = v1.toInt64) ∨ (r9 = 1 ∧ w2 = (tr, of9) ∧ ¬ gTim t) ∨ (r9 = 2 ∧ w2 = (tr, of9) ∧ (gTim t ∧ ¬ t ≤ sNw (tX tr) 0 ∧ lSz (sR (tX tr)) = 40)))
    (hm : (¬ gTim t ∧ u2 = mSetC v 1) ∨ (gTim t ∧ t ≤ mNw v 0 ∧ u2 = mSetCn (mSetC v 0) 2 (mCn v 2 + 1) ∧ r = -1) ∨ (gTim t ∧ ¬ t ≤ mNw v 0 ∧ mMany v 0 = 40 ∧ u2 = mSetC (mSetC v 0) 2) ∨ (gTim t ∧ ¬ t ≤ mNw v 0 ∧ mMany v 0 ≠ 40 ∧ u2 = mRow v (mCn v 1, 0, y, t, 0, 0) ∧ r = mCn v 1 + 1 - 1)) : mCode u2 = r9 ∧ (r9 = 0 → w2.2 0 = r.toInt64) ∧ LRel w2.1 kp u2 (B + 1) := by
  have hb := h.2.2.1
  have hm0 := many0 hb
  have enw : sNw (tX tr) 0 = mNw v 0 := hb.2.1
  have hsi := h.2.1
  have hok : StOk (tX tr) := h.1.1
  rcases hc with ⟨rfl, v1, ⟨hg, hle, rfl, hw1⟩ | ⟨hg, hle, h40, rfl, hw1⟩, h0⟩ | ⟨rfl, rfl, hg⟩ | ⟨rfl, rfl, hg, hle, h40⟩
  · rw [enw] at hle
    rcases hm with ⟨h1, -⟩ | ⟨-, -, rfl, rfl⟩ | ⟨-, h1, -⟩ | ⟨-, h1, -⟩
    · exact absurd hg h1
    · refine ⟨rfl, fun _ => h0, ?_⟩
      rw [hw1]
      refine lrel_live (v' := mSetCn (mSetC v 0) 2 (mCn v 2 + 1)) h (Nat.le_succ B) hok (hsi.up (Nat.le_succ B)) ⟨hb.1, hb.2.1, hb.2.2.1, ?_, ?_, ?_, ?_⟩ (out_cn (mSetC v 0) (by decide) _) h.2.2.2.2.1 (h.2.2.2.2.2.1 0 (by decide)) rfl h.2.2.2.1
      · exact hb.2.2.2.1.trans (pk_un (x := mCn v 2 + 1) (show (0 : Nat) ≠ 2 by decide)).symm
      · exact hb.2.2.2.2.1.trans (pk_un (x := mCn v 2 + 1) (show (1 : Nat) ≠ 2 by decide)).symm
      · show sLa (tX tr) + 1 = upd (mCn v) 2 (mCn v 2 + 1) 2
        rw [pk_us, show sLa (tX tr) = mCn v 2 from hb.2.2.2.2.2.1]
      · exact hb.2.2.2.2.2.2.trans (pk_un (x := mCn v 2 + 1) (show (3 : Nat) ≠ 2 by decide)).symm
    · exact absurd hle h1
    · exact absurd hle h1
  · rw [enw] at hle
    rcases hm with ⟨h1, -⟩ | ⟨-, h1, -⟩ | ⟨-, -, h1, -⟩ | ⟨-, -, -, rfl, hr⟩
    · exact absurd hg h1
    · exact absurd h1 hle
    · omega
    · rw [i32_cancel] at hr
      have erc : sRc (tX tr) = mCn v 1 := hb.2.2.2.2.1
      refine ⟨rfl, fun _ => by rw [h0, hr, erc], ?_⟩
      rw [hw1]
      have hw80 := brel_w hb
      have hT40 := hok.1.1.1
      have ea : ((mCn v 1, 0, y, t, 0, 0) : Ent) = (sRc (tX tr), 0, y, t, 0, 0) := by rw [← erc]
      rw [ea]
      have hin := inc_toInt hsi.2.2.2.2.2.1 (by have := hsi.2.2.2.2.2.2; omega)
      have eab : lAb (lSort (lPut (sR (tX tr)) (sRc (tX tr), 0, y, t, 0, 0)) (ePl (lAb (sR (tX tr))) (sRc (tX tr), 0, y, t, 0, 0))) = eIns (lAb (sR (tX tr))) (sRc (tX tr), 0, y, t, 0, 0) := lEnter_ab hok.2.1.1 h40 _
      have hnew : ∀ e ∈ lAb (sR (tX tr)), eN e ≠ sRc (tX tr) := fun e he q => by
        have := (hsi.2.2.1 e he).1
        rw [q] at this
        omega
      refine lrel_live (v' := mRow v (sRc (tX tr), 0, y, t, 0, 0)) h (Nat.le_succ B) ⟨hok.1, lEnter_st hok.2.1 h40 _, hok.2.2⟩ ⟨hsi.1, hsi.2.1, fun e he => ?_, ?_, ?_, ?_⟩ ⟨?_, hb.2.1, hb.2.2.1, ?_, ?_, ?_, ?_⟩ ?_ ?_ ?_ rfl h.2.2.2.1
      · have he : e ∈ lAb (lSort (lPut (sR (tX tr)) (sRc (tX tr), 0, y, t, 0, 0)) (ePl (lAb (sR (tX tr))) (sRc (tX tr), 0, y, t, 0, 0))) := he
        rw [eab] at he
        show (eN e).toInt < (sRc (tX tr) + 1).toInt ∧ eC e = 0
        rw [hin]
        rcases mem_ins.mp he with q | q
        · rw [q]
          exact ⟨by show (sRc (tX tr)).toInt < _; omega, rfl⟩
        · exact ⟨by have := (hsi.2.2.1 e q).1; omega, (hsi.2.2.1 e q).2⟩
      · show ((lAb (lSort (lPut (sR (tX tr)) (sRc (tX tr), 0, y, t, 0, 0)) (ePl (lAb (sR (tX tr))) (sRc (tX tr), 0, y, t, 0, 0)))).map eN).Nodup
        rw [eab]
        exact nd_new hsi.2.2.2.1 hnew
      · have := hsi.2.2.2.2.1
        exact ⟨this.1, by show (sTs (tX tr)).toInt ≤ _; omega⟩
      · show 0 ≤ (sRc (tX tr) + 1).toInt ∧ (sRc (tX tr) + 1).toInt ≤ ((B + 1 : Nat) : Int)
        rw [hin]
        have := hsi.2.2.2.2.2
        omega
      · show (mBl (mRow v (sRc (tX tr), 0, y, t, 0, 0)) 0).Perm (mk1 (lAb (sT (tX tr))) (lAb (lSort (lPut (sR (tX tr)) (sRc (tX tr), 0, y, t, 0, 0)) (ePl (lAb (sR (tX tr))) (sRc (tX tr), 0, y, t, 0, 0)))))
        rw [eab, show mBl (mRow v (sRc (tX tr), 0, y, t, 0, 0)) 0 = mBl v 0 ++ [(0, (sRc (tX tr), 0, y, t, 0, 0))] from mBl_add (mSetC (mSetC v 0) 0) 0 _]
        exact perm_newR hb _
      · exact hb.2.2.2.1.trans (pk_un (x := mCn v 1 + 1) (show (0 : Nat) ≠ 1 by decide)).symm
      · show sRc (tX tr) + 1 = upd (mCn v) 1 (mCn v 1 + 1) 1
        rw [pk_us, erc]
      · exact hb.2.2.2.2.2.1.trans (pk_un (x := mCn v 1 + 1) (show (2 : Nat) ≠ 1 by decide)).symm
      · exact hb.2.2.2.2.2.2.trans (pk_un (x := mCn v 1 + 1) (show (3 : Nat) ≠ 1 by decide)).symm
      · exact (out_add (v := mSetC (mSetC v 0) 0) (by show mW v 0 < 80; omega) 0 (sRc (tX tr), 0, y, t, 0, 0)).tr (out_cn _ (by decide) _)
      · exact z_add (v := mSetC (mSetC v 0) 0) h.2.2.2.2.1 (Or.inl rfl) (sRc (tX tr), 0, y, t, 0, 0)
      · show va_up (mW v) 0 (mW v 0 + 1) 0 ≤ 80
        rw [va_up_self]; omega
  · rcases hm with ⟨-, rfl⟩ | ⟨h1, -⟩ | ⟨h1, -⟩ | ⟨h1, -⟩
    · exact ⟨rfl, fun q => absurd q (by decide), h.up (Nat.le_succ B)⟩
    · exact absurd h1 hg
    · exact absurd h1 hg
    · exact absurd h1 hg
  · rw [enw] at hle
    rcases hm with ⟨h1, -⟩ | ⟨-, h1, -⟩ | ⟨-, -, -, rfl⟩ | ⟨-, -, h1, -⟩
    · exact absurd hg h1
    · exact absurd h1 hle
    · exact ⟨rfl, fun q => absurd q (by decide), h.up (Nat.le_succ B)⟩
    · omega
theorem op_first {tr u : TrR} {kp : List (StA × StR)} {v u2 : MR} {B : Nat} {x r r' : Int32} (h : LRel tr kp v B) (hx : x = 0 ∨ x = 1) (hc : r = sRf (tX tr) ∧ u = tSetX tr (sSetRf (tX tr) x)) (hm : u2 = mSetCn (mSetC v 0) 3 (if x = 0 then 0 else 1) ∧ r' = if mCn v 3 = 1 then 1 else 0) : r = r' ∧ LRel u kp u2 B := by
  obtain ⟨rfl, rfl⟩ := hc
  obtain ⟨rfl, rfl⟩ := hm
  have hb := h.2.2.1
  have hok : StOk (tX tr) := h.1.1
  have e3 : sRf (tX tr) = mCn v 3 := hb.2.2.2.2.2.2
  have ex : (if x = 0 then (0 : Int32) else 1) = x := by
    rcases hx with e | e <;> subst e <;> rfl
  rw [ex]
  refine ⟨?_, ?_⟩
  · rw [← e3]
    rcases hok.2.2.1 with e | e <;> rw [e] <;> rfl
  · refine lrel_live (v' := mSetCn (mSetC v 0) 3 x) h (Nat.le_refl B) ⟨hok.1, hok.2.1, hx, hok.2.2.2⟩ h.2.1 ⟨hb.1, hb.2.1, hb.2.2.1, ?_, ?_, ?_, ?_⟩ (out_cn (mSetC v 0) (by decide) _) h.2.2.2.2.1 (h.2.2.2.2.2.1 0 (by decide)) rfl h.2.2.2.1
    · exact hb.2.2.2.1.trans (pk_un (x := x) (show (0 : Nat) ≠ 3 by decide)).symm
    · exact hb.2.2.2.2.1.trans (pk_un (x := x) (show (1 : Nat) ≠ 3 by decide)).symm
    · exact hb.2.2.2.2.2.1.trans (pk_un (x := x) (show (2 : Nat) ≠ 3 by decide)).symm
    · exact (pk_us (f := mCn v) (k := 3) (x := x)).symm
