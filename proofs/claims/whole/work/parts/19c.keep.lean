set_option maxHeartbeats 8000000 in
set_option maxRecDepth 100000 in
/-- keep() -/
theorem c_X4_keep (l : Launch) (G : va_G) (cI cJ cZ cO : ClassId) (sz : Nat) (B : MA) (v : MR) (hz : ∀ j, mIt v j = 0 ∨ mIt v j = 1) (hk3 : mKp v ≤ 3) (hw0 : mW v 0 ≤ 80) : Met l yX4_keep wsX4_keep ({ frames := 2, cells := 0, slots := 0, locals := 45 }) (xPc G (xK cI cJ cZ cO) sz [.ref (bH B)] (wMo cI cJ cZ B v)) (va_Qi (fun r u2 => (mKp v = 3 ∧ u2 = mSetC v 1) ∨ (mKp v < 3 ∧ u2 = mSetK (mLay (mSetC v 0) 0 (mKp v + 1)) (mKp v + 1) ∧ r = nI (mKp v))) (xB G (xK cI cJ cZ cO) (wMo cI cJ cZ B v) sz (fun u9 : MR => wMo cI cJ cZ B u9)) (va_A (wMo cI cJ cZ B v) sz)) 0 0 (va_A (wMo cI cJ cZ B v) sz) := by
  refine x_body (by decide) rfl (Nat.le_of_ble_eq_true rfl) ?_
  intro p e s m below meth c F hr hlk hnm hsz hw ls hl
  subst hsz
  have F : CallFix p m c cX4_keep 1 s _ wsX4_keep RX4 := F
  have hl : lv_has ls 1 [(0, .ref (bH B))] := hl
  have hw : xW G (xK cI cJ cZ cO) _ s.heap s [(bH B, .inr (4, [.int (mCode v), .ref (bW B), .ref (bIt B), .ref (bCk B), .ref (bNu B), .ref (bKe B), .ref (bTi B), .ref (bGa B), .ref (bOf B), .ref (bNw B), .ref (bCn B), .int (nI (mKp v)), .int (nI (mDn v)), .ref (bDk B), .ref (bDu B), .ref (bDe B), .ref (bDt B), .ref (bDo B)])), (bW B, .inl (cI, 4, .inl (fun j9 => nI (mW v j9)))), (bIt B, .inl (cZ, 320, .inl (mIt v))), (bCk B, .inl (cI, 320, .inl (mCk v))), (bNu B, .inl (cI, 320, .inl (mNu v))), (bKe B, .inl (cJ, 320, .inr (.inl (mKe v)))), (bTi B, .inl (cJ, 320, .inr (.inl (mTi v)))), (bGa B, .inl (cJ, 320, .inr (.inl (mGa v)))), (bOf B, .inl (cI, 320, .inl (mOf v))), (bNw B, .inl (cJ, 8, .inr (.inl (mNw v)))), (bCn B, .inl (cI, 16, .inl (mCn v))), (bDk B, .inl (cI, 4000, .inl (mDk v))), (bDu B, .inl (cI, 4000, .inl (mDu v))), (bDe B, .inl (cJ, 4000, .inr (.inl (mDe v)))), (bDt B, .inl (cJ, 4000, .inr (.inl (mDt v)))), (bDo B, .inl (cI, 4000, .inl (mDo v)))] s.heap [] := hw
  have iX4 : ∀ w ∈ wsX40, w ∈ wsX4_keep := by decide +kernel
  refine lv_aload_n F.1 F.2.1 dX4_keep_0 rfl (lv_at hl 0 rfl) ?_
  refine lv_aload_n F.1 F.2.1 dX4_keep_1 rfl (lv_at hl 0 rfl) ?_
  refine x_get F hw iX4 0 rfl rfl 11 (by decide) rfl (List.mem_of_getElem? (i := 1) rfl) rfl dX4_keep_2 ?_
  refine lv_iconst (v := 3) F.1 F.2.1 dX4_keep_5 (by decide) ?_
  refine lv_icmp_ne (tgt := 13) F.1 F.2.1 dX4_keep_6 (by decide) (fun c6 => ?_) (fun c6 => ?_)
  · refine lv_iconst (v := 0) F.1 F.2.1 dX4_keep_13 (by decide) ?_
    refine x_wi (wr := []) (va_runV (As := [.int 0]) (rest := []) F (c_X4_isGood l G cI cJ cZ cO (Array.size _) B v 0) (cwV 1 F.2.2.2.2 gX4_keep_X4_isGood rfl rfl rfl (by decide +kernel) ⟨Nat.le_of_ble_eq_true rfl, Nat.le_of_ble_eq_true rfl⟩) (x_preVW hw [0, 1, 2, 3, 4, 5, 6, 7, 8, 9, 10, 11, 12, 13, 14, 15] rfl (by decide) 0 rfl rfl) rfl rfl hl.1 rfl (lv_room (Nat.le_of_ble_eq_true rfl)) dX4_keep_14 ⟨Nat.le_of_ble_eq_true rfl, Nat.le_of_ble_eq_true rfl⟩) hw [0, 1, 2, 3, 4, 5, 6, 7, 8, 9, 10, 11, 12, 13, 14, 15] [] rfl rfl (by decide) (by decide) (fun r9 u8 H locs hu9 hw => ?_)
    have hw : xW G (xK cI cJ cZ cO) _ s.heap s [(bH B, .inr (4, [.int (mCode u8), .ref (bW B), .ref (bIt B), .ref (bCk B), .ref (bNu B), .ref (bKe B), .ref (bTi B), .ref (bGa B), .ref (bOf B), .ref (bNw B), .ref (bCn B), .int (nI (mKp u8)), .int (nI (mDn u8)), .ref (bDk B), .ref (bDu B), .ref (bDe B), .ref (bDt B), .ref (bDo B)])), (bW B, .inl (cI, 4, .inl (fun j9 => nI (mW u8 j9)))), (bIt B, .inl (cZ, 320, .inl (mIt u8))), (bCk B, .inl (cI, 320, .inl (mCk u8))), (bNu B, .inl (cI, 320, .inl (mNu u8))), (bKe B, .inl (cJ, 320, .inr (.inl (mKe u8)))), (bTi B, .inl (cJ, 320, .inr (.inl (mTi u8)))), (bGa B, .inl (cJ, 320, .inr (.inl (mGa u8)))), (bOf B, .inl (cI, 320, .inl (mOf u8))), (bNw B, .inl (cJ, 8, .inr (.inl (mNw u8)))), (bCn B, .inl (cI, 16, .inl (mCn u8))), (bDk B, .inl (cI, 4000, .inl (mDk u8))), (bDu B, .inl (cI, 4000, .inl (mDu u8))), (bDe B, .inl (cJ, 4000, .inr (.inl (mDe u8)))), (bDt B, .inl (cJ, 4000, .inr (.inl (mDt u8)))), (bDo B, .inl (cI, 4000, .inl (mDo u8)))] H _ := hw
    obtain ⟨hu9, hr9⟩ := hu9
    subst hu9
    have hr9 := hr9.trans (if_pos rfl)
    subst hr9
    refine lv_if_ne (tgt := 22) F.1 F.2.1 dX4_keep_17 (by decide) (fun c17 => ?_) (fun c17 => ?_)
    rotate_left
    · exact absurd c17 (by decide)
    have hk0 : mKp v < 3 := Nat.lt_of_le_of_ne hk3 (fun h => c6 (by rw [h]; rfl))
    refine lv_aload_n F.1 F.2.1 dX4_keep_22 rfl (lv_at hl 0 rfl) ?_
    refine lv_iconst (v := 0) F.1 F.2.1 dX4_keep_23 (by decide) ?_
    refine lv_aload_n F.1 F.2.1 dX4_keep_24 rfl (lv_at hl 0 rfl) ?_
    refine x_get F hw iX4 0 rfl rfl 11 (by decide) rfl (List.mem_of_getElem? (i := 1) rfl) rfl dX4_keep_25 ?_
    refine lv_iconst (v := 1) F.1 F.2.1 dX4_keep_28 (by decide) ?_
    refine lv_iadd F.1 F.2.1 dX4_keep_29 ?_
    refine x_topi (v := nI ((mKp (mSetC v 0)) + 1)) ((nI_add (mKp (mSetC v 0)) 1).symm) ?_
    refine x_wv (wr := []) (va_runV (As := [.int 0, .int (nI ((mKp (mSetC v 0)) + 1))]) (rest := []) F (c_X4_lay l G cI cJ cZ cO (Array.size H) B (mSetC v 0) 0 (mKp v + 1) hz (by decide) (by omega) (by omega) hw0) (cwV 2 F.2.2.2.2 gX4_keep_X4_lay rfl rfl rfl (by decide +kernel) ⟨Nat.le_of_ble_eq_true rfl, Nat.le_of_ble_eq_true rfl⟩) (x_preVW hw [0, 1, 2, 3, 4, 5, 6, 7, 8, 9, 10, 11, 12, 13, 14, 15] rfl (by decide) 0 rfl rfl) rfl rfl hl.1 rfl (lv_room (Nat.le_of_ble_eq_true rfl)) dX4_keep_30 ⟨Nat.le_of_ble_eq_true rfl, Nat.le_of_ble_eq_true rfl⟩) hw [0, 1, 2, 3, 4, 5, 6, 7, 8, 9, 10, 11, 12, 13, 14, 15] [] rfl rfl (by decide) (by decide) (fun u3 H locs hu3 hw => ?_)
    have hw : xW G (xK cI cJ cZ cO) _ s.heap s [(bH B, .inr (4, [.int (mCode u3), .ref (bW B), .ref (bIt B), .ref (bCk B), .ref (bNu B), .ref (bKe B), .ref (bTi B), .ref (bGa B), .ref (bOf B), .ref (bNw B), .ref (bCn B), .int (nI (mKp u3)), .int (nI (mDn u3)), .ref (bDk B), .ref (bDu B), .ref (bDe B), .ref (bDt B), .ref (bDo B)])), (bW B, .inl (cI, 4, .inl (fun j9 => nI (mW u3 j9)))), (bIt B, .inl (cZ, 320, .inl (mIt u3))), (bCk B, .inl (cI, 320, .inl (mCk u3))), (bNu B, .inl (cI, 320, .inl (mNu u3))), (bKe B, .inl (cJ, 320, .inr (.inl (mKe u3)))), (bTi B, .inl (cJ, 320, .inr (.inl (mTi u3)))), (bGa B, .inl (cJ, 320, .inr (.inl (mGa u3)))), (bOf B, .inl (cI, 320, .inl (mOf u3))), (bNw B, .inl (cJ, 8, .inr (.inl (mNw u3)))), (bCn B, .inl (cI, 16, .inl (mCn u3))), (bDk B, .inl (cI, 4000, .inl (mDk u3))), (bDu B, .inl (cI, 4000, .inl (mDu u3))), (bDe B, .inl (cJ, 4000, .inr (.inl (mDe u3)))), (bDt B, .inl (cJ, 4000, .inr (.inl (mDt u3)))), (bDo B, .inl (cI, 4000, .inl (mDo u3)))] H _ := hw
    have hkl : mKp u3 = mKp v := by rw [hu3]; exact mLay_k _ _ _
    refine lv_aload_n F.1 F.2.1 dX4_keep_33 rfl (lv_at hl 0 rfl) ?_
    refine lv_dup F.1 F.2.1 dX4_keep_34 rfl ?_
    refine x_get F hw iX4 0 rfl rfl 11 (by decide) rfl (List.mem_of_getElem? (i := 1) rfl) rfl dX4_keep_35 ?_
    refine lv_iconst (v := 1) F.1 F.2.1 dX4_keep_38 (by decide) ?_
    refine lv_iadd F.1 F.2.1 dX4_keep_39 ?_
    refine x_topi (v := nI ((mKp u3) + 1)) ((nI_add (mKp u3) 1).symm) ?_
    refine x_put F hw iX4 tyX4 tyX4_ok nmX4 0 rfl rfl 11 (by decide) rfl (List.mem_of_getElem? (i := 1) rfl) (rfl) (rfl) (Nat.le_of_ble_eq_true rfl) dX4_keep_40 (fun H locs hw => ?_)
    have hw : xW G (xK cI cJ cZ cO) _ s.heap s [(bH B, .inr (4, [.int (mCode u3), .ref (bW B), .ref (bIt B), .ref (bCk B), .ref (bNu B), .ref (bKe B), .ref (bTi B), .ref (bGa B), .ref (bOf B), .ref (bNw B), .ref (bCn B), .int (nI ((mKp u3) + 1)), .int (nI (mDn u3)), .ref (bDk B), .ref (bDu B), .ref (bDe B), .ref (bDt B), .ref (bDo B)])), (bW B, .inl (cI, 4, .inl (fun j9 => nI (mW u3 j9)))), (bIt B, .inl (cZ, 320, .inl (mIt u3))), (bCk B, .inl (cI, 320, .inl (mCk u3))), (bNu B, .inl (cI, 320, .inl (mNu u3))), (bKe B, .inl (cJ, 320, .inr (.inl (mKe u3)))), (bTi B, .inl (cJ, 320, .inr (.inl (mTi u3)))), (bGa B, .inl (cJ, 320, .inr (.inl (mGa u3)))), (bOf B, .inl (cI, 320, .inl (mOf u3))), (bNw B, .inl (cJ, 8, .inr (.inl (mNw u3)))), (bCn B, .inl (cI, 16, .inl (mCn u3))), (bDk B, .inl (cI, 4000, .inl (mDk u3))), (bDu B, .inl (cI, 4000, .inl (mDu u3))), (bDe B, .inl (cJ, 4000, .inr (.inl (mDe u3)))), (bDt B, .inl (cJ, 4000, .inr (.inl (mDt u3)))), (bDo B, .inl (cI, 4000, .inl (mDo u3)))] H _ := hw
    refine lv_aload_n F.1 F.2.1 dX4_keep_43 rfl (lv_at hl 0 rfl) ?_
    refine x_get F hw iX4 0 rfl rfl 11 (by decide) rfl (List.mem_of_getElem? (i := 1) rfl) rfl dX4_keep_44 ?_
    refine lv_iconst (v := 1) F.1 F.2.1 dX4_keep_47 (by decide) ?_
    refine lv_isub F.1 F.2.1 dX4_keep_48 ?_
    refine x_topi (v := nI (((mKp u3) + 1) - 1)) ((pk_sub (a := (mKp u3) + 1) (b := 1) (by omega)).symm) ?_
    exact x_iret (f := fun u9 : MR => wMo cI cJ cZ B u9) (mCode u3, (mW u3), (mIt u3), (mCk u3), (mNu u3), (mKe u3), (mTi u3), (mGa u3), (mOf u3), (mNw u3), (mCn u3), (mKp u3) + 1, mDn u3, (mDk u3), (mDu u3), (mDe u3), (mDt u3), (mDo u3)) F hr hlk hw (Or.inr ⟨hk0, by rw [← hu3]; show mSetK u3 (mKp u3 + 1) = mSetK u3 (mKp v + 1); rw [hkl], congrArg nI (by omega)⟩) dX4_keep_49
  · refine lv_iconst (v := 1) F.1 F.2.1 dX4_keep_9 (by decide) ?_
    refine lv_goto (tgt := 14) F.1 F.2.1 dX4_keep_10 (by decide) ?_
    refine x_wi (wr := []) (va_runV (As := [.int 1]) (rest := []) F (c_X4_isGood l G cI cJ cZ cO (Array.size _) B v 1) (cwV 1 F.2.2.2.2 gX4_keep_X4_isGood rfl rfl rfl (by decide +kernel) ⟨Nat.le_of_ble_eq_true rfl, Nat.le_of_ble_eq_true rfl⟩) (x_preVW hw [0, 1, 2, 3, 4, 5, 6, 7, 8, 9, 10, 11, 12, 13, 14, 15] rfl (by decide) 0 rfl rfl) rfl rfl hl.1 rfl (lv_room (Nat.le_of_ble_eq_true rfl)) dX4_keep_14 ⟨Nat.le_of_ble_eq_true rfl, Nat.le_of_ble_eq_true rfl⟩) hw [0, 1, 2, 3, 4, 5, 6, 7, 8, 9, 10, 11, 12, 13, 14, 15] [] rfl rfl (by decide) (by decide) (fun r9 u8 H locs hu9 hw => ?_)
    have hw : xW G (xK cI cJ cZ cO) _ s.heap s [(bH B, .inr (4, [.int (mCode u8), .ref (bW B), .ref (bIt B), .ref (bCk B), .ref (bNu B), .ref (bKe B), .ref (bTi B), .ref (bGa B), .ref (bOf B), .ref (bNw B), .ref (bCn B), .int (nI (mKp u8)), .int (nI (mDn u8)), .ref (bDk B), .ref (bDu B), .ref (bDe B), .ref (bDt B), .ref (bDo B)])), (bW B, .inl (cI, 4, .inl (fun j9 => nI (mW u8 j9)))), (bIt B, .inl (cZ, 320, .inl (mIt u8))), (bCk B, .inl (cI, 320, .inl (mCk u8))), (bNu B, .inl (cI, 320, .inl (mNu u8))), (bKe B, .inl (cJ, 320, .inr (.inl (mKe u8)))), (bTi B, .inl (cJ, 320, .inr (.inl (mTi u8)))), (bGa B, .inl (cJ, 320, .inr (.inl (mGa u8)))), (bOf B, .inl (cI, 320, .inl (mOf u8))), (bNw B, .inl (cJ, 8, .inr (.inl (mNw u8)))), (bCn B, .inl (cI, 16, .inl (mCn u8))), (bDk B, .inl (cI, 4000, .inl (mDk u8))), (bDu B, .inl (cI, 4000, .inl (mDu u8))), (bDe B, .inl (cJ, 4000, .inr (.inl (mDe u8)))), (bDt B, .inl (cJ, 4000, .inr (.inl (mDt u8)))), (bDo B, .inl (cI, 4000, .inl (mDo u8)))] H _ := hw
    obtain ⟨hu9, hr9⟩ := hu9
    subst hu9
    have hr9 := hr9.trans (if_neg (by decide))
    subst hr9
    refine lv_if_ne (tgt := 22) F.1 F.2.1 dX4_keep_17 (by decide) (fun c17 => ?_) (fun c17 => ?_)
    · exact (c17 (by decide)).elim
    refine lv_iconst (v := 0) F.1 F.2.1 dX4_keep_20 (by decide) ?_
    exact x_iret (f := fun u9 : MR => wMo cI cJ cZ B u9) (mCode (mSetC v 1), (mW (mSetC v 1)), (mIt (mSetC v 1)), (mCk (mSetC v 1)), (mNu (mSetC v 1)), (mKe (mSetC v 1)), (mTi (mSetC v 1)), (mGa (mSetC v 1)), (mOf (mSetC v 1)), (mNw (mSetC v 1)), (mCn (mSetC v 1)), mKp (mSetC v 1), mDn (mSetC v 1), (mDk (mSetC v 1)), (mDu (mSetC v 1)), (mDe (mSetC v 1)), (mDt (mSetC v 1)), (mDo (mSetC v 1))) F hr hlk hw (Or.inl ⟨(nI_eq (by omega) (by decide)).mp c6, rfl⟩) dX4_keep_21
