set_option maxHeartbeats 8000000 in
set_option maxRecDepth 100000 in
/-- back(place) -/
theorem c_X4_back (l : Launch) (G : va_G) (cI cJ cZ cO : ClassId) (sz : Nat) (B : MA) (v : MR) (x : Int32) (hz : ∀ j, mIt v j = 0 ∨ mIt v j = 1) (hk3 : mKp v ≤ 3) (hwb : ∀ b, b < 4 → mW v b ≤ 80) : Met l yX4_back wsX4_back ({ frames := 2, cells := 0, slots := 0, locals := 45 }) (xPc G (xK cI cJ cZ cO) sz [.ref (bH B), .int x] (wMo cI cJ cZ B v)) (va_Qi (fun r u2 => ((∀ j, j < mKp v → x ≠ nI j) ∧ u2 = mSetC v 1) ∨ (∃ j, j < mKp v ∧ x = nI j ∧ u2 = mLay (mSetC v 0) (j + 1) 0 ∧ r = nI (mMany (mLay (mSetC v 0) (j + 1) 0) 1))) (xB G (xK cI cJ cZ cO) (wMo cI cJ cZ B v) sz (fun u9 : MR => wMo cI cJ cZ B u9)) (va_A (wMo cI cJ cZ B v) sz)) 0 0 (va_A (wMo cI cJ cZ B v) sz) := by
  refine x_body (by decide) rfl (Nat.le_of_ble_eq_true rfl) ?_
  intro p e s m below meth c F hr hlk hnm hsz hw ls hl
  subst hsz
  have F : CallFix p m c cX4_back 2 s _ wsX4_back RX4 := F
  have hl : lv_has ls 2 [(0, .ref (bH B)), (1, .int x)] := hl
  have hw : xW G (xK cI cJ cZ cO) _ s.heap s [(bH B, .inr (4, [.int (mCode v), .ref (bW B), .ref (bIt B), .ref (bCk B), .ref (bNu B), .ref (bKe B), .ref (bTi B), .ref (bGa B), .ref (bOf B), .ref (bNw B), .ref (bCn B), .int (nI (mKp v)), .int (nI (mDn v)), .ref (bDk B), .ref (bDu B), .ref (bDe B), .ref (bDt B), .ref (bDo B)])), (bW B, .inl (cI, 4, .inl (fun j9 => nI (mW v j9)))), (bIt B, .inl (cZ, 320, .inl (mIt v))), (bCk B, .inl (cI, 320, .inl (mCk v))), (bNu B, .inl (cI, 320, .inl (mNu v))), (bKe B, .inl (cJ, 320, .inr (.inl (mKe v)))), (bTi B, .inl (cJ, 320, .inr (.inl (mTi v)))), (bGa B, .inl (cJ, 320, .inr (.inl (mGa v)))), (bOf B, .inl (cI, 320, .inl (mOf v))), (bNw B, .inl (cJ, 8, .inr (.inl (mNw v)))), (bCn B, .inl (cI, 16, .inl (mCn v))), (bDk B, .inl (cI, 4000, .inl (mDk v))), (bDu B, .inl (cI, 4000, .inl (mDu v))), (bDe B, .inl (cJ, 4000, .inr (.inl (mDe v)))), (bDt B, .inl (cJ, 4000, .inr (.inl (mDt v)))), (bDo B, .inl (cI, 4000, .inl (mDo v)))] s.heap [] := hw
  have iX4 : ∀ w ∈ wsX40, w ∈ wsX4_back := by decide +kernel
  refine lv_aload_n F.1 F.2.1 dX4_back_0 rfl (lv_at hl 0 rfl) ?_
  refine lv_iload_n F.1 F.2.1 dX4_back_1 rfl (lv_at hl 1 rfl) ?_
  refine lv_i2l (v := x.toInt64) F.1 F.2.1 dX4_back_2 (rfl) ?_
  refine lv_lconst (v := 0) F.1 F.2.1 dX4_back_3 (by decide) ?_
  refine lv_aload_n F.1 F.2.1 dX4_back_4 rfl (lv_at hl 0 rfl) ?_
  refine x_get F hw iX4 0 rfl rfl 11 (by decide) rfl (List.mem_of_getElem? (i := 1) rfl) rfl dX4_back_5 ?_
  refine lv_iconst (v := 1) F.1 F.2.1 dX4_back_8 (by decide) ?_
  refine lv_isub F.1 F.2.1 dX4_back_9 ?_
  refine lv_i2l (v := ((nI (mKp v)) - 1).toInt64) F.1 F.2.1 dX4_back_10 (rfl) ?_
  refine x_ri (va_runS (As := [.long x.toInt64, .long 0, .long (((nI (mKp v)) - 1).toInt64)]) (rest := [.ref (bH B)]) F (c_X4_isIn l G cI cJ cZ cO (Array.size _) x.toInt64 0 (((nI (mKp v)) - 1).toInt64)) (va_cwS 3 F.2.2.2.2 gX4_back_X4_isIn rfl rfl rfl (by decide +kernel) ⟨Nat.le_of_ble_eq_true rfl, Nat.le_of_ble_eq_true rfl⟩) (x_preSW hw [] rfl (by decide)) rfl rfl hl.1 rfl (lv_room (Nat.le_of_ble_eq_true rfl)) dX4_back_11 ⟨Nat.le_of_ble_eq_true rfl, Nat.le_of_ble_eq_true rfl⟩) (fun r11 hr11 => ?_)
  refine lv_if_eq (tgt := 21) F.1 F.2.1 dX4_back_14 (by decide) (fun c14 => ?_) (fun c14 => ?_)
  · refine lv_iconst (v := 1) F.1 F.2.1 dX4_back_21 (by decide) ?_
    refine x_wi (wr := []) (va_runV (As := [.int 1]) (rest := []) F (c_X4_isGood l G cI cJ cZ cO (Array.size _) B v 1) (cwV 1 F.2.2.2.2 gX4_back_X4_isGood rfl rfl rfl (by decide +kernel) ⟨Nat.le_of_ble_eq_true rfl, Nat.le_of_ble_eq_true rfl⟩) (x_preVW hw [0, 1, 2, 3, 4, 5, 6, 7, 8, 9, 10, 11, 12, 13, 14, 15] rfl (by decide) 0 rfl rfl) rfl rfl hl.1 rfl (lv_room (Nat.le_of_ble_eq_true rfl)) dX4_back_22 ⟨Nat.le_of_ble_eq_true rfl, Nat.le_of_ble_eq_true rfl⟩) hw [0, 1, 2, 3, 4, 5, 6, 7, 8, 9, 10, 11, 12, 13, 14, 15] [] rfl rfl (by decide) (by decide) (fun r9 u8 H locs hu9 hw => ?_)
    have hw : xW G (xK cI cJ cZ cO) _ s.heap s [(bH B, .inr (4, [.int (mCode u8), .ref (bW B), .ref (bIt B), .ref (bCk B), .ref (bNu B), .ref (bKe B), .ref (bTi B), .ref (bGa B), .ref (bOf B), .ref (bNw B), .ref (bCn B), .int (nI (mKp u8)), .int (nI (mDn u8)), .ref (bDk B), .ref (bDu B), .ref (bDe B), .ref (bDt B), .ref (bDo B)])), (bW B, .inl (cI, 4, .inl (fun j9 => nI (mW u8 j9)))), (bIt B, .inl (cZ, 320, .inl (mIt u8))), (bCk B, .inl (cI, 320, .inl (mCk u8))), (bNu B, .inl (cI, 320, .inl (mNu u8))), (bKe B, .inl (cJ, 320, .inr (.inl (mKe u8)))), (bTi B, .inl (cJ, 320, .inr (.inl (mTi u8)))), (bGa B, .inl (cJ, 320, .inr (.inl (mGa u8)))), (bOf B, .inl (cI, 320, .inl (mOf u8))), (bNw B, .inl (cJ, 8, .inr (.inl (mNw u8)))), (bCn B, .inl (cI, 16, .inl (mCn u8))), (bDk B, .inl (cI, 4000, .inl (mDk u8))), (bDu B, .inl (cI, 4000, .inl (mDu u8))), (bDe B, .inl (cJ, 4000, .inr (.inl (mDe u8)))), (bDt B, .inl (cJ, 4000, .inr (.inl (mDt u8)))), (bDo B, .inl (cI, 4000, .inl (mDo u8)))] H _ := hw
    obtain ⟨hu9, hr9⟩ := hu9
    subst hu9
    have hr9 := hr9.trans (if_neg (by decide))
    subst hr9
    refine lv_if_ne (tgt := 30) F.1 F.2.1 dX4_back_25 (by decide) (fun c25 => ?_) (fun c25 => ?_)
    · exact (c25 (by decide)).elim
    refine lv_iconst (v := 0) F.1 F.2.1 dX4_back_28 (by decide) ?_
    exact x_iret (f := fun u9 : MR => wMo cI cJ cZ B u9) (mCode (mSetC v 1), (mW (mSetC v 1)), (mIt (mSetC v 1)), (mCk (mSetC v 1)), (mNu (mSetC v 1)), (mKe (mSetC v 1)), (mTi (mSetC v 1)), (mGa (mSetC v 1)), (mOf (mSetC v 1)), (mNw (mSetC v 1)), (mCn (mSetC v 1)), mKp (mSetC v 1), mDn (mSetC v 1), (mDk (mSetC v 1)), (mDu (mSetC v 1)), (mDe (mSetC v 1)), (mDt (mSetC v 1)), (mDo (mSetC v 1))) F hr hlk hw (Or.inl ⟨fun j hj e => if_z hr11 c14 (below_iff (by omega) hj e), rfl⟩) dX4_back_29
  · refine lv_iconst (v := 0) F.1 F.2.1 dX4_back_17 (by decide) ?_
    refine lv_goto (tgt := 22) F.1 F.2.1 dX4_back_18 (by decide) ?_
    refine x_wi (wr := []) (va_runV (As := [.int 0]) (rest := []) F (c_X4_isGood l G cI cJ cZ cO (Array.size _) B v 0) (cwV 1 F.2.2.2.2 gX4_back_X4_isGood rfl rfl rfl (by decide +kernel) ⟨Nat.le_of_ble_eq_true rfl, Nat.le_of_ble_eq_true rfl⟩) (x_preVW hw [0, 1, 2, 3, 4, 5, 6, 7, 8, 9, 10, 11, 12, 13, 14, 15] rfl (by decide) 0 rfl rfl) rfl rfl hl.1 rfl (lv_room (Nat.le_of_ble_eq_true rfl)) dX4_back_22 ⟨Nat.le_of_ble_eq_true rfl, Nat.le_of_ble_eq_true rfl⟩) hw [0, 1, 2, 3, 4, 5, 6, 7, 8, 9, 10, 11, 12, 13, 14, 15] [] rfl rfl (by decide) (by decide) (fun r9 u8 H locs hu9 hw => ?_)
    have hw : xW G (xK cI cJ cZ cO) _ s.heap s [(bH B, .inr (4, [.int (mCode u8), .ref (bW B), .ref (bIt B), .ref (bCk B), .ref (bNu B), .ref (bKe B), .ref (bTi B), .ref (bGa B), .ref (bOf B), .ref (bNw B), .ref (bCn B), .int (nI (mKp u8)), .int (nI (mDn u8)), .ref (bDk B), .ref (bDu B), .ref (bDe B), .ref (bDt B), .ref (bDo B)])), (bW B, .inl (cI, 4, .inl (fun j9 => nI (mW u8 j9)))), (bIt B, .inl (cZ, 320, .inl (mIt u8))), (bCk B, .inl (cI, 320, .inl (mCk u8))), (bNu B, .inl (cI, 320, .inl (mNu u8))), (bKe B, .inl (cJ, 320, .inr (.inl (mKe u8)))), (bTi B, .inl (cJ, 320, .inr (.inl (mTi u8)))), (bGa B, .inl (cJ, 320, .inr (.inl (mGa u8)))), (bOf B, .inl (cI, 320, .inl (mOf u8))), (bNw B, .inl (cJ, 8, .inr (.inl (mNw u8)))), (bCn B, .inl (cI, 16, .inl (mCn u8))), (bDk B, .inl (cI, 4000, .inl (mDk u8))), (bDu B, .inl (cI, 4000, .inl (mDu u8))), (bDe B, .inl (cJ, 4000, .inr (.inl (mDe u8)))), (bDt B, .inl (cJ, 4000, .inr (.inl (mDt u8)))), (bDo B, .inl (cI, 4000, .inl (mDo u8)))] H _ := hw
    obtain ⟨hu9, hr9⟩ := hu9
    subst hu9
    have hr9 := hr9.trans (if_pos rfl)
    subst hr9
    refine lv_if_ne (tgt := 30) F.1 F.2.1 dX4_back_25 (by decide) (fun c25 => ?_) (fun c25 => ?_)
    rotate_left
    · exact absurd c25 (by decide)
    obtain ⟨j9, hj9, rfl⟩ := below_of (n := mKp v) (by omega) (if_nz hr11 c14)
    refine lv_aload_n F.1 F.2.1 dX4_back_30 rfl (lv_at hl 0 rfl) ?_
    refine lv_iload_n F.1 F.2.1 dX4_back_31 rfl (lv_at hl 1 rfl) ?_
    refine lv_iconst (v := 1) F.1 F.2.1 dX4_back_32 (by decide) ?_
    refine lv_iadd F.1 F.2.1 dX4_back_33 ?_
    refine x_topi (v := nI (j9 + 1)) ((nI_add j9 1).symm) ?_
    refine lv_iconst (v := 0) F.1 F.2.1 dX4_back_34 (by decide) ?_
    refine x_wv (wr := []) (va_runV (As := [.int (nI (j9 + 1)), .int 0]) (rest := []) F (c_X4_lay l G cI cJ cZ cO (Array.size H) B (mSetC v 0) (j9 + 1) 0 hz (by omega) (by decide) (by omega) (hwb _ (by omega))) (cwV 2 F.2.2.2.2 gX4_back_X4_lay rfl rfl rfl (by decide +kernel) ⟨Nat.le_of_ble_eq_true rfl, Nat.le_of_ble_eq_true rfl⟩) (x_preVW hw [0, 1, 2, 3, 4, 5, 6, 7, 8, 9, 10, 11, 12, 13, 14, 15] rfl (by decide) 0 rfl rfl) rfl rfl hl.1 rfl (lv_room (Nat.le_of_ble_eq_true rfl)) dX4_back_35 ⟨Nat.le_of_ble_eq_true rfl, Nat.le_of_ble_eq_true rfl⟩) hw [0, 1, 2, 3, 4, 5, 6, 7, 8, 9, 10, 11, 12, 13, 14, 15] [] rfl rfl (by decide) (by decide) (fun u3 H locs hu3 hw => ?_)
    have hw : xW G (xK cI cJ cZ cO) _ s.heap s [(bH B, .inr (4, [.int (mCode u3), .ref (bW B), .ref (bIt B), .ref (bCk B), .ref (bNu B), .ref (bKe B), .ref (bTi B), .ref (bGa B), .ref (bOf B), .ref (bNw B), .ref (bCn B), .int (nI (mKp u3)), .int (nI (mDn u3)), .ref (bDk B), .ref (bDu B), .ref (bDe B), .ref (bDt B), .ref (bDo B)])), (bW B, .inl (cI, 4, .inl (fun j9 => nI (mW u3 j9)))), (bIt B, .inl (cZ, 320, .inl (mIt u3))), (bCk B, .inl (cI, 320, .inl (mCk u3))), (bNu B, .inl (cI, 320, .inl (mNu u3))), (bKe B, .inl (cJ, 320, .inr (.inl (mKe u3)))), (bTi B, .inl (cJ, 320, .inr (.inl (mTi u3)))), (bGa B, .inl (cJ, 320, .inr (.inl (mGa u3)))), (bOf B, .inl (cI, 320, .inl (mOf u3))), (bNw B, .inl (cJ, 8, .inr (.inl (mNw u3)))), (bCn B, .inl (cI, 16, .inl (mCn u3))), (bDk B, .inl (cI, 4000, .inl (mDk u3))), (bDu B, .inl (cI, 4000, .inl (mDu u3))), (bDe B, .inl (cJ, 4000, .inr (.inl (mDe u3)))), (bDt B, .inl (cJ, 4000, .inr (.inl (mDt u3)))), (bDo B, .inl (cI, 4000, .inl (mDo u3)))] H _ := hw
    have hwl : mW u3 0 ≤ 80 := by rw [hu3, mLay_w0]; exact hwb _ (by omega)
    refine lv_aload_n F.1 F.2.1 dX4_back_38 rfl (lv_at hl 0 rfl) ?_
    refine lv_iconst (v := 1) F.1 F.2.1 dX4_back_39 (by decide) ?_
    refine x_ri (va_runV (As := [.int 1]) (rest := []) F (c_X4_many l G cI cJ cZ cO (Array.size H) B u3 1 hwl) (cwV 1 F.2.2.2.2 gX4_back_X4_many rfl rfl rfl (by decide +kernel) ⟨Nat.le_of_ble_eq_true rfl, Nat.le_of_ble_eq_true rfl⟩) (x_preVW hw [0, 1, 2, 3, 4, 5, 6, 7, 8, 9, 10, 11, 12, 13, 14, 15] rfl (by decide) 0 rfl rfl) rfl rfl hl.1 rfl (lv_room (Nat.le_of_ble_eq_true rfl)) dX4_back_40 ⟨Nat.le_of_ble_eq_true rfl, Nat.le_of_ble_eq_true rfl⟩) (fun r40 hr40 => ?_)
    exact x_iret (f := fun u9 : MR => wMo cI cJ cZ B u9) u3 F hr hlk hw (Or.inr ⟨j9, hj9, rfl, hu3, by rw [hr40, hu3]⟩) dX4_back_43
