set_option maxHeartbeats 8000000 in
set_option maxRecDepth 100000 in
/-- thrown() -/
theorem c_X4_thrown (l : Launch) (G : va_G) (cI cJ cZ cO : ClassId) (sz : Nat) (B : MA) (v : MR)  : Met l yX4_thrown wsX4_thrown ({ frames := 0, cells := 0, slots := 0, locals := 0 }) (xPc G (xK cI cJ cZ cO) sz [.ref (bH B)] (wMo cI cJ cZ B v)) (xQi (fun r => r = mCode v)) 0 0 (fun _ => False) := by
  refine x_body (by decide) rfl (Nat.le_of_ble_eq_true rfl) ?_
  intro p e s m below meth c F hr hlk hnm hsz hw ls hl
  subst hsz
  have F : CallFix p m c cX4_thrown 1 s _ wsX4_thrown RX4 := F
  have hl : lv_has ls 1 [(0, .ref (bH B))] := hl
  have hw : xW G (xK cI cJ cZ cO) _ s.heap s [(bH B, .inr (4, [.int (mCode v), .ref (bW B), .ref (bIt B), .ref (bCk B), .ref (bNu B), .ref (bKe B), .ref (bTi B), .ref (bGa B), .ref (bOf B), .ref (bNw B), .ref (bCn B), .int (nI (mKp v)), .int (nI (mDn v)), .ref (bDk B), .ref (bDu B), .ref (bDe B), .ref (bDt B), .ref (bDo B)])), (bW B, .inl (cI, 4, .inl (fun j9 => nI (mW v j9)))), (bIt B, .inl (cZ, 320, .inl (mIt v))), (bCk B, .inl (cI, 320, .inl (mCk v))), (bNu B, .inl (cI, 320, .inl (mNu v))), (bKe B, .inl (cJ, 320, .inr (.inl (mKe v)))), (bTi B, .inl (cJ, 320, .inr (.inl (mTi v)))), (bGa B, .inl (cJ, 320, .inr (.inl (mGa v)))), (bOf B, .inl (cI, 320, .inl (mOf v))), (bNw B, .inl (cJ, 8, .inr (.inl (mNw v)))), (bCn B, .inl (cI, 16, .inl (mCn v))), (bDk B, .inl (cI, 4000, .inl (mDk v))), (bDu B, .inl (cI, 4000, .inl (mDu v))), (bDe B, .inl (cJ, 4000, .inr (.inl (mDe v)))), (bDt B, .inl (cJ, 4000, .inr (.inl (mDt v)))), (bDo B, .inl (cI, 4000, .inl (mDo v)))] s.heap [] := hw
  have iX4 : ∀ w ∈ wsX40, w ∈ wsX4_thrown := by decide +kernel
  refine lv_aload_n F.1 F.2.1 dX4_thrown_0 rfl (lv_at hl 0 rfl) ?_
  refine x_get F hw iX4 0 rfl rfl 0 (by decide) rfl (List.mem_of_getElem? (i := 1) rfl) rfl dX4_thrown_1 ?_
  exact x_riret F hr hlk (rfl) dX4_thrown_4

set_option maxHeartbeats 8000000 in
set_option maxRecDepth 100000 in
/-- isGood(which) -/
theorem c_X4_isGood (l : Launch) (G : va_G) (cI cJ cZ cO : ClassId) (sz : Nat) (B : MA) (v : MR) (x : Int32) : Met l yX4_isGood wsX4_isGood ({ frames := 0, cells := 0, slots := 0, locals := 0 }) (xPc G (xK cI cJ cZ cO) sz [.ref (bH B), .int x] (wMo cI cJ cZ B v)) (va_Qi (fun r u2 => u2 = mSetC v x ∧ r = if x = 0 then 1 else 0) (xB G (xK cI cJ cZ cO) (wMo cI cJ cZ B v) sz (fun u9 : MR => wMo cI cJ cZ B u9)) (va_A (wMo cI cJ cZ B v) sz)) 0 0 (va_A (wMo cI cJ cZ B v) sz) := by
  refine x_body (by decide) rfl (Nat.le_of_ble_eq_true rfl) ?_
  intro p e s m below meth c F hr hlk hnm hsz hw ls hl
  subst hsz
  have F : CallFix p m c cX4_isGood 2 s _ wsX4_isGood RX4 := F
  have hl : lv_has ls 2 [(0, .ref (bH B)), (1, .int x)] := hl
  have hw : xW G (xK cI cJ cZ cO) _ s.heap s [(bH B, .inr (4, [.int (mCode v), .ref (bW B), .ref (bIt B), .ref (bCk B), .ref (bNu B), .ref (bKe B), .ref (bTi B), .ref (bGa B), .ref (bOf B), .ref (bNw B), .ref (bCn B), .int (nI (mKp v)), .int (nI (mDn v)), .ref (bDk B), .ref (bDu B), .ref (bDe B), .ref (bDt B), .ref (bDo B)])), (bW B, .inl (cI, 4, .inl (fun j9 => nI (mW v j9)))), (bIt B, .inl (cZ, 320, .inl (mIt v))), (bCk B, .inl (cI, 320, .inl (mCk v))), (bNu B, .inl (cI, 320, .inl (mNu v))), (bKe B, .inl (cJ, 320, .inr (.inl (mKe v)))), (bTi B, .inl (cJ, 320, .inr (.inl (mTi v)))), (bGa B, .inl (cJ, 320, .inr (.inl (mGa v)))), (bOf B, .inl (cI, 320, .inl (mOf v))), (bNw B, .inl (cJ, 8, .inr (.inl (mNw v)))), (bCn B, .inl (cI, 16, .inl (mCn v))), (bDk B, .inl (cI, 4000, .inl (mDk v))), (bDu B, .inl (cI, 4000, .inl (mDu v))), (bDe B, .inl (cJ, 4000, .inr (.inl (mDe v)))), (bDt B, .inl (cJ, 4000, .inr (.inl (mDt v)))), (bDo B, .inl (cI, 4000, .inl (mDo v)))] s.heap [] := hw
  have iX4 : ∀ w ∈ wsX40, w ∈ wsX4_isGood := by decide +kernel
  refine lv_aload_n F.1 F.2.1 dX4_isGood_0 rfl (lv_at hl 0 rfl) ?_
  refine lv_iload_n F.1 F.2.1 dX4_isGood_1 rfl (lv_at hl 1 rfl) ?_
  refine x_put F hw iX4 tyX4 tyX4_ok nmX4 0 rfl rfl 0 (by decide) rfl (List.mem_of_getElem? (i := 1) rfl) (rfl) (rfl) (Nat.le_of_ble_eq_true rfl) dX4_isGood_2 (fun H locs hw => ?_)
  have hw : xW G (xK cI cJ cZ cO) _ s.heap s [(bH B, .inr (4, [.int x, .ref (bW B), .ref (bIt B), .ref (bCk B), .ref (bNu B), .ref (bKe B), .ref (bTi B), .ref (bGa B), .ref (bOf B), .ref (bNw B), .ref (bCn B), .int (nI (mKp v)), .int (nI (mDn v)), .ref (bDk B), .ref (bDu B), .ref (bDe B), .ref (bDt B), .ref (bDo B)])), (bW B, .inl (cI, 4, .inl (fun j9 => nI (mW v j9)))), (bIt B, .inl (cZ, 320, .inl (mIt v))), (bCk B, .inl (cI, 320, .inl (mCk v))), (bNu B, .inl (cI, 320, .inl (mNu v))), (bKe B, .inl (cJ, 320, .inr (.inl (mKe v)))), (bTi B, .inl (cJ, 320, .inr (.inl (mTi v)))), (bGa B, .inl (cJ, 320, .inr (.inl (mGa v)))), (bOf B, .inl (cI, 320, .inl (mOf v))), (bNw B, .inl (cJ, 8, .inr (.inl (mNw v)))), (bCn B, .inl (cI, 16, .inl (mCn v))), (bDk B, .inl (cI, 4000, .inl (mDk v))), (bDu B, .inl (cI, 4000, .inl (mDu v))), (bDe B, .inl (cJ, 4000, .inr (.inl (mDe v)))), (bDt B, .inl (cJ, 4000, .inr (.inl (mDt v)))), (bDo B, .inl (cI, 4000, .inl (mDo v)))] H _ := hw
  refine lv_iload_n F.1 F.2.1 dX4_isGood_5 rfl (lv_at hl 1 rfl) ?_
  refine lv_if_ne (tgt := 13) F.1 F.2.1 dX4_isGood_6 (by decide) (fun c6 => ?_) (fun c6 => ?_)
  · refine lv_iconst (v := 0) F.1 F.2.1 dX4_isGood_13 (by decide) ?_
    exact x_zret (f := fun u9 : MR => wMo cI cJ cZ B u9) (x, (mW v), (mIt v), (mCk v), (mNu v), (mKe v), (mTi v), (mGa v), (mOf v), (mNw v), (mCn v), mKp v, mDn v, (mDk v), (mDu v), (mDe v), (mDt v), (mDo v)) F hr hlk (rfl) hw (⟨rfl, (if_neg c6).symm⟩) dX4_isGood_14
  · refine lv_iconst (v := 1) F.1 F.2.1 dX4_isGood_9 (by decide) ?_
    refine lv_goto (tgt := 14) F.1 F.2.1 dX4_isGood_10 (by decide) ?_
    exact x_zret (f := fun u9 : MR => wMo cI cJ cZ B u9) (x, (mW v), (mIt v), (mCk v), (mNu v), (mKe v), (mTi v), (mGa v), (mOf v), (mNw v), (mCn v), mKp v, mDn v, (mDk v), (mDu v), (mDe v), (mDt v), (mDo v)) F hr hlk (rfl) hw (⟨rfl, (if_pos c6).symm⟩) dX4_isGood_14

set_option maxHeartbeats 8000000 in
set_option maxRecDepth 100000 in
/-- isIn(v, low, high) -/
theorem c_X4_isIn (l : Launch) (G : va_G) (cI cJ cZ cO : ClassId) (sz : Nat) (x y z : Int64) : Met l yX4_isIn wsX4_isIn ({ frames := 0, cells := 0, slots := 0, locals := 0 }) (xPc G (xK cI cJ cZ cO) sz [.long x, .long y, .long z] ([])) (xQi (fun r => r = if y ≤ x ∧ x ≤ z then 1 else 0)) 0 0 (fun _ => False) := by
  refine x_body (by decide) rfl (Nat.le_of_ble_eq_true rfl) ?_
  intro p e s m below meth c F hr hlk hnm hsz hw ls hl
  subst hsz
  have F : CallFix p m c cX4_isIn 6 s _ wsX4_isIn RX4 := F
  have hl : lv_has ls 6 [(0, .long x), (2, .long y), (4, .long z)] := hl
  have hw : xW G (xK cI cJ cZ cO) _ s.heap s [] s.heap [] := hw
  refine lv_lload_n F.1 F.2.1 dX4_isIn_0 rfl (lv_at hl 0 rfl) ?_
  refine lv_lload_n F.1 F.2.1 dX4_isIn_1 rfl (lv_at hl 1 rfl) ?_
  refine x_l_lt (tgt := 17) F dX4_isIn_2 dX4_isIn_3 (by decide) (fun c2 => ?_) (fun c2 => ?_)
  · refine lv_iconst (v := 0) F.1 F.2.1 dX4_isIn_17 (by decide) ?_
    exact x_rzret F hr hlk (rfl) ((if_neg (fun h => Int64.not_le.mpr c2 h.1)).symm) dX4_isIn_18
  · refine lv_lload_n F.1 F.2.1 dX4_isIn_6 rfl (lv_at hl 0 rfl) ?_
    refine lv_lload F.1 F.2.1 dX4_isIn_7 (lv_at hl 2 rfl) ?_
    refine x_l_gt (tgt := 17) F dX4_isIn_9 dX4_isIn_10 (by decide) (fun c9 => ?_) (fun c9 => ?_)
    · refine lv_iconst (v := 0) F.1 F.2.1 dX4_isIn_17 (by decide) ?_
      exact x_rzret F hr hlk (rfl) ((if_neg (fun h => Int64.not_le.mpr c9 h.2)).symm) dX4_isIn_18
    · refine lv_iconst (v := 1) F.1 F.2.1 dX4_isIn_13 (by decide) ?_
      refine lv_goto (tgt := 18) F.1 F.2.1 dX4_isIn_14 (by decide) ?_
      exact x_rzret F hr hlk (rfl) ((if_pos ⟨Int64.not_lt.mp c2, Int64.not_lt.mp c9⟩).symm) dX4_isIn_18

set_option maxHeartbeats 8000000 in
set_option maxRecDepth 100000 in
/-- begin() -/
theorem c_X4_begin (l : Launch) (G : va_G) (cI cJ cZ cO : ClassId) (sz : Nat) (B : MA) (v : MR)  : Met l yX4_begin wsX4_begin ({ frames := 0, cells := 0, slots := 0, locals := 0 }) (xPc G (xK cI cJ cZ cO) sz [.ref (bH B)] (wMo cI cJ cZ B v)) (va_Qv (fun u2 => u2 = mBegin v) (xB G (xK cI cJ cZ cO) (wMo cI cJ cZ B v) sz (fun u9 : MR => wMo cI cJ cZ B u9)) (va_A (wMo cI cJ cZ B v) sz)) 0 0 (va_A (wMo cI cJ cZ B v) sz) := by
  refine x_body (by decide) rfl (Nat.le_of_ble_eq_true rfl) ?_
  intro p e s m below meth c F hr hlk hnm hsz hw ls hl
  subst hsz
  have F : CallFix p m c cX4_begin 1 s _ wsX4_begin RX4 := F
  have hl : lv_has ls 1 [(0, .ref (bH B))] := hl
  have hw : xW G (xK cI cJ cZ cO) _ s.heap s [(bH B, .inr (4, [.int (mCode v), .ref (bW B), .ref (bIt B), .ref (bCk B), .ref (bNu B), .ref (bKe B), .ref (bTi B), .ref (bGa B), .ref (bOf B), .ref (bNw B), .ref (bCn B), .int (nI (mKp v)), .int (nI (mDn v)), .ref (bDk B), .ref (bDu B), .ref (bDe B), .ref (bDt B), .ref (bDo B)])), (bW B, .inl (cI, 4, .inl (fun j9 => nI (mW v j9)))), (bIt B, .inl (cZ, 320, .inl (mIt v))), (bCk B, .inl (cI, 320, .inl (mCk v))), (bNu B, .inl (cI, 320, .inl (mNu v))), (bKe B, .inl (cJ, 320, .inr (.inl (mKe v)))), (bTi B, .inl (cJ, 320, .inr (.inl (mTi v)))), (bGa B, .inl (cJ, 320, .inr (.inl (mGa v)))), (bOf B, .inl (cI, 320, .inl (mOf v))), (bNw B, .inl (cJ, 8, .inr (.inl (mNw v)))), (bCn B, .inl (cI, 16, .inl (mCn v))), (bDk B, .inl (cI, 4000, .inl (mDk v))), (bDu B, .inl (cI, 4000, .inl (mDu v))), (bDe B, .inl (cJ, 4000, .inr (.inl (mDe v)))), (bDt B, .inl (cJ, 4000, .inr (.inl (mDt v)))), (bDo B, .inl (cI, 4000, .inl (mDo v)))] s.heap [] := hw
  have iX4 : ∀ w ∈ wsX40, w ∈ wsX4_begin := by decide +kernel
  refine lv_aload_n F.1 F.2.1 dX4_begin_0 rfl (lv_at hl 0 rfl) ?_
  refine x_get F hw iX4 0 rfl rfl 1 (by decide) rfl (List.mem_of_getElem? (i := 1) rfl) rfl dX4_begin_1 ?_
  refine lv_iconst (v := 0) F.1 F.2.1 dX4_begin_4 (by decide) ?_
  refine lv_iconst (v := 0) F.1 F.2.1 dX4_begin_5 (by decide) ?_
  refine x_nastN F hw 1 0 rfl rfl 0 0 rfl rfl (by omega) (by decide) dX4_begin_6 (fun H locs hw => ?_)
  have hw : xW G (xK cI cJ cZ cO) _ s.heap s [(bH B, .inr (4, [.int (mCode v), .ref (bW B), .ref (bIt B), .ref (bCk B), .ref (bNu B), .ref (bKe B), .ref (bTi B), .ref (bGa B), .ref (bOf B), .ref (bNw B), .ref (bCn B), .int (nI (mKp v)), .int (nI (mDn v)), .ref (bDk B), .ref (bDu B), .ref (bDe B), .ref (bDt B), .ref (bDo B)])), (bW B, .inl (cI, 4, .inl (fun j9 => nI (va_up (mW v) 0 0 j9)))), (bIt B, .inl (cZ, 320, .inl (mIt v))), (bCk B, .inl (cI, 320, .inl (mCk v))), (bNu B, .inl (cI, 320, .inl (mNu v))), (bKe B, .inl (cJ, 320, .inr (.inl (mKe v)))), (bTi B, .inl (cJ, 320, .inr (.inl (mTi v)))), (bGa B, .inl (cJ, 320, .inr (.inl (mGa v)))), (bOf B, .inl (cI, 320, .inl (mOf v))), (bNw B, .inl (cJ, 8, .inr (.inl (mNw v)))), (bCn B, .inl (cI, 16, .inl (mCn v))), (bDk B, .inl (cI, 4000, .inl (mDk v))), (bDu B, .inl (cI, 4000, .inl (mDu v))), (bDe B, .inl (cJ, 4000, .inr (.inl (mDe v)))), (bDt B, .inl (cJ, 4000, .inr (.inl (mDt v)))), (bDo B, .inl (cI, 4000, .inl (mDo v)))] H _ := hw
  refine lv_aload_n F.1 F.2.1 dX4_begin_7 rfl (lv_at hl 0 rfl) ?_
  refine x_get F hw iX4 0 rfl rfl 9 (by decide) rfl (List.mem_of_getElem? (i := 2) rfl) rfl dX4_begin_8 ?_
  refine lv_iconst (v := 0) F.1 F.2.1 dX4_begin_11 (by decide) ?_
  refine lv_ldc2 (v := -1) F.1 F.2.1 F.2.2.2.1 (F.2.2.2.2 _ (List.mem_of_getElem? (i := 3) rfl)) dX4_begin_12 ?_
  refine x_lastN F hw 9 1 rfl rfl 0 rfl (by omega) (by decide) dX4_begin_15 (fun H locs hw => ?_)
  have hw : xW G (xK cI cJ cZ cO) _ s.heap s [(bH B, .inr (4, [.int (mCode v), .ref (bW B), .ref (bIt B), .ref (bCk B), .ref (bNu B), .ref (bKe B), .ref (bTi B), .ref (bGa B), .ref (bOf B), .ref (bNw B), .ref (bCn B), .int (nI (mKp v)), .int (nI (mDn v)), .ref (bDk B), .ref (bDu B), .ref (bDe B), .ref (bDt B), .ref (bDo B)])), (bW B, .inl (cI, 4, .inl (fun j9 => nI (va_up (mW v) 0 0 j9)))), (bIt B, .inl (cZ, 320, .inl (mIt v))), (bCk B, .inl (cI, 320, .inl (mCk v))), (bNu B, .inl (cI, 320, .inl (mNu v))), (bKe B, .inl (cJ, 320, .inr (.inl (mKe v)))), (bTi B, .inl (cJ, 320, .inr (.inl (mTi v)))), (bGa B, .inl (cJ, 320, .inr (.inl (mGa v)))), (bOf B, .inl (cI, 320, .inl (mOf v))), (bNw B, .inl (cJ, 8, .inr (.inl (vp_updL (mNw v) 0 (-1))))), (bCn B, .inl (cI, 16, .inl (mCn v))), (bDk B, .inl (cI, 4000, .inl (mDk v))), (bDu B, .inl (cI, 4000, .inl (mDu v))), (bDe B, .inl (cJ, 4000, .inr (.inl (mDe v)))), (bDt B, .inl (cJ, 4000, .inr (.inl (mDt v)))), (bDo B, .inl (cI, 4000, .inl (mDo v)))] H _ := hw
  refine lv_aload_n F.1 F.2.1 dX4_begin_16 rfl (lv_at hl 0 rfl) ?_
  refine x_get F hw iX4 0 rfl rfl 9 (by decide) rfl (List.mem_of_getElem? (i := 2) rfl) rfl dX4_begin_17 ?_
  refine lv_iconst (v := 1) F.1 F.2.1 dX4_begin_20 (by decide) ?_
  refine lv_ldc2 (v := -1) F.1 F.2.1 F.2.2.2.1 (F.2.2.2.2 _ (List.mem_of_getElem? (i := 3) rfl)) dX4_begin_21 ?_
  refine x_lastN F hw 9 1 rfl rfl 1 rfl (by omega) (by decide) dX4_begin_24 (fun H locs hw => ?_)
  have hw : xW G (xK cI cJ cZ cO) _ s.heap s [(bH B, .inr (4, [.int (mCode v), .ref (bW B), .ref (bIt B), .ref (bCk B), .ref (bNu B), .ref (bKe B), .ref (bTi B), .ref (bGa B), .ref (bOf B), .ref (bNw B), .ref (bCn B), .int (nI (mKp v)), .int (nI (mDn v)), .ref (bDk B), .ref (bDu B), .ref (bDe B), .ref (bDt B), .ref (bDo B)])), (bW B, .inl (cI, 4, .inl (fun j9 => nI (va_up (mW v) 0 0 j9)))), (bIt B, .inl (cZ, 320, .inl (mIt v))), (bCk B, .inl (cI, 320, .inl (mCk v))), (bNu B, .inl (cI, 320, .inl (mNu v))), (bKe B, .inl (cJ, 320, .inr (.inl (mKe v)))), (bTi B, .inl (cJ, 320, .inr (.inl (mTi v)))), (bGa B, .inl (cJ, 320, .inr (.inl (mGa v)))), (bOf B, .inl (cI, 320, .inl (mOf v))), (bNw B, .inl (cJ, 8, .inr (.inl (vp_updL (vp_updL (mNw v) 0 (-1)) 1 (-1))))), (bCn B, .inl (cI, 16, .inl (mCn v))), (bDk B, .inl (cI, 4000, .inl (mDk v))), (bDu B, .inl (cI, 4000, .inl (mDu v))), (bDe B, .inl (cJ, 4000, .inr (.inl (mDe v)))), (bDt B, .inl (cJ, 4000, .inr (.inl (mDt v)))), (bDo B, .inl (cI, 4000, .inl (mDo v)))] H _ := hw
  refine lv_aload_n F.1 F.2.1 dX4_begin_25 rfl (lv_at hl 0 rfl) ?_
  refine x_get F hw iX4 0 rfl rfl 10 (by decide) rfl (List.mem_of_getElem? (i := 4) rfl) rfl dX4_begin_26 ?_
  refine lv_iconst (v := 0) F.1 F.2.1 dX4_begin_29 (by decide) ?_
  refine lv_iconst (v := 0) F.1 F.2.1 dX4_begin_30 (by decide) ?_
  refine x_iastN F hw 10 0 rfl rfl 0 rfl (by omega) (by decide) dX4_begin_31 (fun H locs hw => ?_)
  have hw : xW G (xK cI cJ cZ cO) _ s.heap s [(bH B, .inr (4, [.int (mCode v), .ref (bW B), .ref (bIt B), .ref (bCk B), .ref (bNu B), .ref (bKe B), .ref (bTi B), .ref (bGa B), .ref (bOf B), .ref (bNw B), .ref (bCn B), .int (nI (mKp v)), .int (nI (mDn v)), .ref (bDk B), .ref (bDu B), .ref (bDe B), .ref (bDt B), .ref (bDo B)])), (bW B, .inl (cI, 4, .inl (fun j9 => nI (va_up (mW v) 0 0 j9)))), (bIt B, .inl (cZ, 320, .inl (mIt v))), (bCk B, .inl (cI, 320, .inl (mCk v))), (bNu B, .inl (cI, 320, .inl (mNu v))), (bKe B, .inl (cJ, 320, .inr (.inl (mKe v)))), (bTi B, .inl (cJ, 320, .inr (.inl (mTi v)))), (bGa B, .inl (cJ, 320, .inr (.inl (mGa v)))), (bOf B, .inl (cI, 320, .inl (mOf v))), (bNw B, .inl (cJ, 8, .inr (.inl (vp_updL (vp_updL (mNw v) 0 (-1)) 1 (-1))))), (bCn B, .inl (cI, 16, .inl (upd (mCn v) 0 0))), (bDk B, .inl (cI, 4000, .inl (mDk v))), (bDu B, .inl (cI, 4000, .inl (mDu v))), (bDe B, .inl (cJ, 4000, .inr (.inl (mDe v)))), (bDt B, .inl (cJ, 4000, .inr (.inl (mDt v)))), (bDo B, .inl (cI, 4000, .inl (mDo v)))] H _ := hw
  refine lv_aload_n F.1 F.2.1 dX4_begin_32 rfl (lv_at hl 0 rfl) ?_
  refine x_get F hw iX4 0 rfl rfl 10 (by decide) rfl (List.mem_of_getElem? (i := 4) rfl) rfl dX4_begin_33 ?_
  refine lv_iconst (v := 1) F.1 F.2.1 dX4_begin_36 (by decide) ?_
  refine lv_iconst (v := 0) F.1 F.2.1 dX4_begin_37 (by decide) ?_
  refine x_iastN F hw 10 0 rfl rfl 1 rfl (by omega) (by decide) dX4_begin_38 (fun H locs hw => ?_)
  have hw : xW G (xK cI cJ cZ cO) _ s.heap s [(bH B, .inr (4, [.int (mCode v), .ref (bW B), .ref (bIt B), .ref (bCk B), .ref (bNu B), .ref (bKe B), .ref (bTi B), .ref (bGa B), .ref (bOf B), .ref (bNw B), .ref (bCn B), .int (nI (mKp v)), .int (nI (mDn v)), .ref (bDk B), .ref (bDu B), .ref (bDe B), .ref (bDt B), .ref (bDo B)])), (bW B, .inl (cI, 4, .inl (fun j9 => nI (va_up (mW v) 0 0 j9)))), (bIt B, .inl (cZ, 320, .inl (mIt v))), (bCk B, .inl (cI, 320, .inl (mCk v))), (bNu B, .inl (cI, 320, .inl (mNu v))), (bKe B, .inl (cJ, 320, .inr (.inl (mKe v)))), (bTi B, .inl (cJ, 320, .inr (.inl (mTi v)))), (bGa B, .inl (cJ, 320, .inr (.inl (mGa v)))), (bOf B, .inl (cI, 320, .inl (mOf v))), (bNw B, .inl (cJ, 8, .inr (.inl (vp_updL (vp_updL (mNw v) 0 (-1)) 1 (-1))))), (bCn B, .inl (cI, 16, .inl (upd (upd (mCn v) 0 0) 1 0))), (bDk B, .inl (cI, 4000, .inl (mDk v))), (bDu B, .inl (cI, 4000, .inl (mDu v))), (bDe B, .inl (cJ, 4000, .inr (.inl (mDe v)))), (bDt B, .inl (cJ, 4000, .inr (.inl (mDt v)))), (bDo B, .inl (cI, 4000, .inl (mDo v)))] H _ := hw
  refine lv_aload_n F.1 F.2.1 dX4_begin_39 rfl (lv_at hl 0 rfl) ?_
  refine x_get F hw iX4 0 rfl rfl 10 (by decide) rfl (List.mem_of_getElem? (i := 4) rfl) rfl dX4_begin_40 ?_
  refine lv_iconst (v := 2) F.1 F.2.1 dX4_begin_43 (by decide) ?_
  refine lv_iconst (v := 0) F.1 F.2.1 dX4_begin_44 (by decide) ?_
  refine x_iastN F hw 10 0 rfl rfl 2 rfl (by omega) (by decide) dX4_begin_45 (fun H locs hw => ?_)
  have hw : xW G (xK cI cJ cZ cO) _ s.heap s [(bH B, .inr (4, [.int (mCode v), .ref (bW B), .ref (bIt B), .ref (bCk B), .ref (bNu B), .ref (bKe B), .ref (bTi B), .ref (bGa B), .ref (bOf B), .ref (bNw B), .ref (bCn B), .int (nI (mKp v)), .int (nI (mDn v)), .ref (bDk B), .ref (bDu B), .ref (bDe B), .ref (bDt B), .ref (bDo B)])), (bW B, .inl (cI, 4, .inl (fun j9 => nI (va_up (mW v) 0 0 j9)))), (bIt B, .inl (cZ, 320, .inl (mIt v))), (bCk B, .inl (cI, 320, .inl (mCk v))), (bNu B, .inl (cI, 320, .inl (mNu v))), (bKe B, .inl (cJ, 320, .inr (.inl (mKe v)))), (bTi B, .inl (cJ, 320, .inr (.inl (mTi v)))), (bGa B, .inl (cJ, 320, .inr (.inl (mGa v)))), (bOf B, .inl (cI, 320, .inl (mOf v))), (bNw B, .inl (cJ, 8, .inr (.inl (vp_updL (vp_updL (mNw v) 0 (-1)) 1 (-1))))), (bCn B, .inl (cI, 16, .inl (upd (upd (upd (mCn v) 0 0) 1 0) 2 0))), (bDk B, .inl (cI, 4000, .inl (mDk v))), (bDu B, .inl (cI, 4000, .inl (mDu v))), (bDe B, .inl (cJ, 4000, .inr (.inl (mDe v)))), (bDt B, .inl (cJ, 4000, .inr (.inl (mDt v)))), (bDo B, .inl (cI, 4000, .inl (mDo v)))] H _ := hw
  refine lv_aload_n F.1 F.2.1 dX4_begin_46 rfl (lv_at hl 0 rfl) ?_
  refine x_get F hw iX4 0 rfl rfl 10 (by decide) rfl (List.mem_of_getElem? (i := 4) rfl) rfl dX4_begin_47 ?_
  refine lv_iconst (v := 3) F.1 F.2.1 dX4_begin_50 (by decide) ?_
  refine lv_iconst (v := 1) F.1 F.2.1 dX4_begin_51 (by decide) ?_
  refine x_iastN F hw 10 0 rfl rfl 3 rfl (by omega) (by decide) dX4_begin_52 (fun H locs hw => ?_)
  have hw : xW G (xK cI cJ cZ cO) _ s.heap s [(bH B, .inr (4, [.int (mCode v), .ref (bW B), .ref (bIt B), .ref (bCk B), .ref (bNu B), .ref (bKe B), .ref (bTi B), .ref (bGa B), .ref (bOf B), .ref (bNw B), .ref (bCn B), .int (nI (mKp v)), .int (nI (mDn v)), .ref (bDk B), .ref (bDu B), .ref (bDe B), .ref (bDt B), .ref (bDo B)])), (bW B, .inl (cI, 4, .inl (fun j9 => nI (va_up (mW v) 0 0 j9)))), (bIt B, .inl (cZ, 320, .inl (mIt v))), (bCk B, .inl (cI, 320, .inl (mCk v))), (bNu B, .inl (cI, 320, .inl (mNu v))), (bKe B, .inl (cJ, 320, .inr (.inl (mKe v)))), (bTi B, .inl (cJ, 320, .inr (.inl (mTi v)))), (bGa B, .inl (cJ, 320, .inr (.inl (mGa v)))), (bOf B, .inl (cI, 320, .inl (mOf v))), (bNw B, .inl (cJ, 8, .inr (.inl (vp_updL (vp_updL (mNw v) 0 (-1)) 1 (-1))))), (bCn B, .inl (cI, 16, .inl (upd (upd (upd (upd (mCn v) 0 0) 1 0) 2 0) 3 1))), (bDk B, .inl (cI, 4000, .inl (mDk v))), (bDu B, .inl (cI, 4000, .inl (mDu v))), (bDe B, .inl (cJ, 4000, .inr (.inl (mDe v)))), (bDt B, .inl (cJ, 4000, .inr (.inl (mDt v)))), (bDo B, .inl (cI, 4000, .inl (mDo v)))] H _ := hw
  refine lv_aload_n F.1 F.2.1 dX4_begin_53 rfl (lv_at hl 0 rfl) ?_
  refine lv_iconst (v := 0) F.1 F.2.1 dX4_begin_54 (by decide) ?_
  refine x_put F hw iX4 tyX4 tyX4_ok nmX4 0 rfl rfl 11 (by decide) rfl (List.mem_of_getElem? (i := 5) rfl) (rfl) (rfl) (Nat.le_of_ble_eq_true rfl) dX4_begin_55 (fun H locs hw => ?_)
  have hw : xW G (xK cI cJ cZ cO) _ s.heap s [(bH B, .inr (4, [.int (mCode v), .ref (bW B), .ref (bIt B), .ref (bCk B), .ref (bNu B), .ref (bKe B), .ref (bTi B), .ref (bGa B), .ref (bOf B), .ref (bNw B), .ref (bCn B), .int 0, .int (nI (mDn v)), .ref (bDk B), .ref (bDu B), .ref (bDe B), .ref (bDt B), .ref (bDo B)])), (bW B, .inl (cI, 4, .inl (fun j9 => nI (va_up (mW v) 0 0 j9)))), (bIt B, .inl (cZ, 320, .inl (mIt v))), (bCk B, .inl (cI, 320, .inl (mCk v))), (bNu B, .inl (cI, 320, .inl (mNu v))), (bKe B, .inl (cJ, 320, .inr (.inl (mKe v)))), (bTi B, .inl (cJ, 320, .inr (.inl (mTi v)))), (bGa B, .inl (cJ, 320, .inr (.inl (mGa v)))), (bOf B, .inl (cI, 320, .inl (mOf v))), (bNw B, .inl (cJ, 8, .inr (.inl (vp_updL (vp_updL (mNw v) 0 (-1)) 1 (-1))))), (bCn B, .inl (cI, 16, .inl (upd (upd (upd (upd (mCn v) 0 0) 1 0) 2 0) 3 1))), (bDk B, .inl (cI, 4000, .inl (mDk v))), (bDu B, .inl (cI, 4000, .inl (mDu v))), (bDe B, .inl (cJ, 4000, .inr (.inl (mDe v)))), (bDt B, .inl (cJ, 4000, .inr (.inl (mDt v)))), (bDo B, .inl (cI, 4000, .inl (mDo v)))] H _ := hw
  refine lv_aload_n F.1 F.2.1 dX4_begin_58 rfl (lv_at hl 0 rfl) ?_
  refine lv_iconst (v := 0) F.1 F.2.1 dX4_begin_59 (by decide) ?_
  refine x_put F hw iX4 tyX4 tyX4_ok nmX4 0 rfl rfl 12 (by decide) rfl (List.mem_of_getElem? (i := 6) rfl) (rfl) (rfl) (Nat.le_of_ble_eq_true rfl) dX4_begin_60 (fun H locs hw => ?_)
  have hw : xW G (xK cI cJ cZ cO) _ s.heap s [(bH B, .inr (4, [.int (mCode v), .ref (bW B), .ref (bIt B), .ref (bCk B), .ref (bNu B), .ref (bKe B), .ref (bTi B), .ref (bGa B), .ref (bOf B), .ref (bNw B), .ref (bCn B), .int 0, .int 0, .ref (bDk B), .ref (bDu B), .ref (bDe B), .ref (bDt B), .ref (bDo B)])), (bW B, .inl (cI, 4, .inl (fun j9 => nI (va_up (mW v) 0 0 j9)))), (bIt B, .inl (cZ, 320, .inl (mIt v))), (bCk B, .inl (cI, 320, .inl (mCk v))), (bNu B, .inl (cI, 320, .inl (mNu v))), (bKe B, .inl (cJ, 320, .inr (.inl (mKe v)))), (bTi B, .inl (cJ, 320, .inr (.inl (mTi v)))), (bGa B, .inl (cJ, 320, .inr (.inl (mGa v)))), (bOf B, .inl (cI, 320, .inl (mOf v))), (bNw B, .inl (cJ, 8, .inr (.inl (vp_updL (vp_updL (mNw v) 0 (-1)) 1 (-1))))), (bCn B, .inl (cI, 16, .inl (upd (upd (upd (upd (mCn v) 0 0) 1 0) 2 0) 3 1))), (bDk B, .inl (cI, 4000, .inl (mDk v))), (bDu B, .inl (cI, 4000, .inl (mDu v))), (bDe B, .inl (cJ, 4000, .inr (.inl (mDe v)))), (bDt B, .inl (cJ, 4000, .inr (.inl (mDt v)))), (bDo B, .inl (cI, 4000, .inl (mDo v)))] H _ := hw
  exact x_vret (f := fun u9 : MR => wMo cI cJ cZ B u9) (mCode v, (va_up (mW v) 0 0), (mIt v), (mCk v), (mNu v), (mKe v), (mTi v), (mGa v), (mOf v), (vp_updL (vp_updL (mNw v) 0 (-1)) 1 (-1)), (upd (upd (upd (upd (mCn v) 0 0) 1 0) 2 0) 3 1), 0, 0, (mDk v), (mDu v), (mDe v), (mDt v), (mDo v)) F hr hlk hw (rfl) dX4_begin_63

set_option maxHeartbeats 8000000 in
set_option maxRecDepth 100000 in
/-- clear() -/
theorem c_X4_clear (l : Launch) (G : va_G) (cI cJ cZ cO : ClassId) (sz : Nat) (B : MA) (v : MR)  : Met l yX4_clear wsX4_clear ({ frames := 1, cells := 0, slots := 0, locals := 20 }) (xPc G (xK cI cJ cZ cO) sz [.ref (bH B)] (wMo cI cJ cZ B v)) (va_Qi (fun r u2 => u2 = mBegin (mSetC v 0) ∧ r = nI (mW v 0)) (xB G (xK cI cJ cZ cO) (wMo cI cJ cZ B v) sz (fun u9 : MR => wMo cI cJ cZ B u9)) (va_A (wMo cI cJ cZ B v) sz)) 0 0 (va_A (wMo cI cJ cZ B v) sz) := by
  refine x_body (by decide) rfl (Nat.le_of_ble_eq_true rfl) ?_
  intro p e s m below meth c F hr hlk hnm hsz hw ls hl
  subst hsz
  have F : CallFix p m c cX4_clear 2 s _ wsX4_clear RX4 := F
  have hl : lv_has ls 2 [(0, .ref (bH B))] := hl
  have hw : xW G (xK cI cJ cZ cO) _ s.heap s [(bH B, .inr (4, [.int (mCode v), .ref (bW B), .ref (bIt B), .ref (bCk B), .ref (bNu B), .ref (bKe B), .ref (bTi B), .ref (bGa B), .ref (bOf B), .ref (bNw B), .ref (bCn B), .int (nI (mKp v)), .int (nI (mDn v)), .ref (bDk B), .ref (bDu B), .ref (bDe B), .ref (bDt B), .ref (bDo B)])), (bW B, .inl (cI, 4, .inl (fun j9 => nI (mW v j9)))), (bIt B, .inl (cZ, 320, .inl (mIt v))), (bCk B, .inl (cI, 320, .inl (mCk v))), (bNu B, .inl (cI, 320, .inl (mNu v))), (bKe B, .inl (cJ, 320, .inr (.inl (mKe v)))), (bTi B, .inl (cJ, 320, .inr (.inl (mTi v)))), (bGa B, .inl (cJ, 320, .inr (.inl (mGa v)))), (bOf B, .inl (cI, 320, .inl (mOf v))), (bNw B, .inl (cJ, 8, .inr (.inl (mNw v)))), (bCn B, .inl (cI, 16, .inl (mCn v))), (bDk B, .inl (cI, 4000, .inl (mDk v))), (bDu B, .inl (cI, 4000, .inl (mDu v))), (bDe B, .inl (cJ, 4000, .inr (.inl (mDe v)))), (bDt B, .inl (cJ, 4000, .inr (.inl (mDt v)))), (bDo B, .inl (cI, 4000, .inl (mDo v)))] s.heap [] := hw
  have iX4 : ∀ w ∈ wsX40, w ∈ wsX4_clear := by decide +kernel
  refine lv_aload_n F.1 F.2.1 dX4_clear_0 rfl (lv_at hl 0 rfl) ?_
  refine lv_iconst (v := 0) F.1 F.2.1 dX4_clear_1 (by decide) ?_
  refine x_put F hw iX4 tyX4 tyX4_ok nmX4 0 rfl rfl 0 (by decide) rfl (List.mem_of_getElem? (i := 1) rfl) (rfl) (rfl) (Nat.le_of_ble_eq_true rfl) dX4_clear_2 (fun H locs hw => ?_)
  have hw : xW G (xK cI cJ cZ cO) _ s.heap s [(bH B, .inr (4, [.int 0, .ref (bW B), .ref (bIt B), .ref (bCk B), .ref (bNu B), .ref (bKe B), .ref (bTi B), .ref (bGa B), .ref (bOf B), .ref (bNw B), .ref (bCn B), .int (nI (mKp v)), .int (nI (mDn v)), .ref (bDk B), .ref (bDu B), .ref (bDe B), .ref (bDt B), .ref (bDo B)])), (bW B, .inl (cI, 4, .inl (fun j9 => nI (mW v j9)))), (bIt B, .inl (cZ, 320, .inl (mIt v))), (bCk B, .inl (cI, 320, .inl (mCk v))), (bNu B, .inl (cI, 320, .inl (mNu v))), (bKe B, .inl (cJ, 320, .inr (.inl (mKe v)))), (bTi B, .inl (cJ, 320, .inr (.inl (mTi v)))), (bGa B, .inl (cJ, 320, .inr (.inl (mGa v)))), (bOf B, .inl (cI, 320, .inl (mOf v))), (bNw B, .inl (cJ, 8, .inr (.inl (mNw v)))), (bCn B, .inl (cI, 16, .inl (mCn v))), (bDk B, .inl (cI, 4000, .inl (mDk v))), (bDu B, .inl (cI, 4000, .inl (mDu v))), (bDe B, .inl (cJ, 4000, .inr (.inl (mDe v)))), (bDt B, .inl (cJ, 4000, .inr (.inl (mDt v)))), (bDo B, .inl (cI, 4000, .inl (mDo v)))] H _ := hw
  refine lv_aload_n F.1 F.2.1 dX4_clear_5 rfl (lv_at hl 0 rfl) ?_
  refine x_get F hw iX4 0 rfl rfl 1 (by decide) rfl (List.mem_of_getElem? (i := 2) rfl) rfl dX4_clear_6 ?_
  refine lv_iconst (v := 0) F.1 F.2.1 dX4_clear_9 (by decide) ?_
  refine x_ialdN F hw 1 0 rfl rfl 0 rfl (by omega) (by decide) dX4_clear_10 ?_
  refine lv_istore_n (lv' := [(1, .int (nI (mW v 0))), (0, .ref (bH B))]) F.1 F.2.1 dX4_clear_11 rfl hl (by decide) rfl (fun ls hl => ?_)
  have hw : xW G (xK cI cJ cZ cO) _ s.heap s [(bH B, .inr (4, [.int (mCode (mSetC v 0)), .ref (bW B), .ref (bIt B), .ref (bCk B), .ref (bNu B), .ref (bKe B), .ref (bTi B), .ref (bGa B), .ref (bOf B), .ref (bNw B), .ref (bCn B), .int (nI (mKp (mSetC v 0))), .int (nI (mDn (mSetC v 0))), .ref (bDk B), .ref (bDu B), .ref (bDe B), .ref (bDt B), .ref (bDo B)])), (bW B, .inl (cI, 4, .inl (fun j9 => nI (mW (mSetC v 0) j9)))), (bIt B, .inl (cZ, 320, .inl (mIt (mSetC v 0)))), (bCk B, .inl (cI, 320, .inl (mCk (mSetC v 0)))), (bNu B, .inl (cI, 320, .inl (mNu (mSetC v 0)))), (bKe B, .inl (cJ, 320, .inr (.inl (mKe (mSetC v 0))))), (bTi B, .inl (cJ, 320, .inr (.inl (mTi (mSetC v 0))))), (bGa B, .inl (cJ, 320, .inr (.inl (mGa (mSetC v 0))))), (bOf B, .inl (cI, 320, .inl (mOf (mSetC v 0)))), (bNw B, .inl (cJ, 8, .inr (.inl (mNw (mSetC v 0))))), (bCn B, .inl (cI, 16, .inl (mCn (mSetC v 0)))), (bDk B, .inl (cI, 4000, .inl (mDk (mSetC v 0)))), (bDu B, .inl (cI, 4000, .inl (mDu (mSetC v 0)))), (bDe B, .inl (cJ, 4000, .inr (.inl (mDe (mSetC v 0))))), (bDt B, .inl (cJ, 4000, .inr (.inl (mDt (mSetC v 0))))), (bDo B, .inl (cI, 4000, .inl (mDo (mSetC v 0))))] H _ := hw
  refine lv_aload_n F.1 F.2.1 dX4_clear_12 rfl (lv_at hl 1 rfl) ?_
  refine x_wv (wr := []) (va_runV (As := []) (rest := []) F (c_X4_begin l G cI cJ cZ cO (Array.size _) B (mSetC v 0)) (cwV 0 F.2.2.2.2 gX4_clear_X4_begin rfl rfl rfl (by decide +kernel) ⟨Nat.le_of_ble_eq_true rfl, Nat.le_of_ble_eq_true rfl⟩) (x_preVW hw [0, 1, 2, 3, 4, 5, 6, 7, 8, 9, 10, 11, 12, 13, 14, 15] rfl (by decide) 0 rfl rfl) rfl rfl hl.1 rfl (lv_room (Nat.le_of_ble_eq_true rfl)) dX4_clear_13 ⟨Nat.le_of_ble_eq_true rfl, Nat.le_of_ble_eq_true rfl⟩) hw [0, 1, 2, 3, 4, 5, 6, 7, 8, 9, 10, 11, 12, 13, 14, 15] [] rfl rfl (by decide) (by decide) (fun u3 H locs hu3 hw => ?_)
  have hw : xW G (xK cI cJ cZ cO) _ s.heap s [(bH B, .inr (4, [.int (mCode u3), .ref (bW B), .ref (bIt B), .ref (bCk B), .ref (bNu B), .ref (bKe B), .ref (bTi B), .ref (bGa B), .ref (bOf B), .ref (bNw B), .ref (bCn B), .int (nI (mKp u3)), .int (nI (mDn u3)), .ref (bDk B), .ref (bDu B), .ref (bDe B), .ref (bDt B), .ref (bDo B)])), (bW B, .inl (cI, 4, .inl (fun j9 => nI (mW u3 j9)))), (bIt B, .inl (cZ, 320, .inl (mIt u3))), (bCk B, .inl (cI, 320, .inl (mCk u3))), (bNu B, .inl (cI, 320, .inl (mNu u3))), (bKe B, .inl (cJ, 320, .inr (.inl (mKe u3)))), (bTi B, .inl (cJ, 320, .inr (.inl (mTi u3)))), (bGa B, .inl (cJ, 320, .inr (.inl (mGa u3)))), (bOf B, .inl (cI, 320, .inl (mOf u3))), (bNw B, .inl (cJ, 8, .inr (.inl (mNw u3)))), (bCn B, .inl (cI, 16, .inl (mCn u3))), (bDk B, .inl (cI, 4000, .inl (mDk u3))), (bDu B, .inl (cI, 4000, .inl (mDu u3))), (bDe B, .inl (cJ, 4000, .inr (.inl (mDe u3)))), (bDt B, .inl (cJ, 4000, .inr (.inl (mDt u3)))), (bDo B, .inl (cI, 4000, .inl (mDo u3)))] H _ := hw
  subst hu3
  refine lv_iload_n F.1 F.2.1 dX4_clear_16 rfl (lv_at hl 0 rfl) ?_
  exact x_iret (f := fun u9 : MR => wMo cI cJ cZ B u9) (mBegin (mSetC v 0)) F hr hlk hw (⟨rfl, rfl⟩) dX4_clear_17

set_option maxHeartbeats 8000000 in
set_option maxRecDepth 100000 in
/-- many(timers) -/
theorem c_X4_many (l : Launch) (G : va_G) (cI cJ cZ cO : ClassId) (sz : Nat) (B : MA) (v : MR) (x : Int32) (hw0 : mW v 0 ≤ 80) : Met l yX4_many wsX4_many ({ frames := 0, cells := 0, slots := 0, locals := 0 }) (xPc G (xK cI cJ cZ cO) sz [.ref (bH B), .int x] (wMo cI cJ cZ B v)) (xQi (fun r => r = nI (cnt (fun j9 => decide (mIt v j9 = x)) (mW v 0)))) 0 0 (fun _ => False) := by
  refine x_body (by decide) rfl (Nat.le_of_ble_eq_true rfl) ?_
  intro p e s m below meth c F hr hlk hnm hsz hw ls hl
  subst hsz
  have F : CallFix p m c cX4_many 4 s _ wsX4_many RX4 := F
  have hl : lv_has ls 4 [(0, .ref (bH B)), (1, .int x)] := hl
  have hw : xW G (xK cI cJ cZ cO) _ s.heap s [(bH B, .inr (4, [.int (mCode v), .ref (bW B), .ref (bIt B), .ref (bCk B), .ref (bNu B), .ref (bKe B), .ref (bTi B), .ref (bGa B), .ref (bOf B), .ref (bNw B), .ref (bCn B), .int (nI (mKp v)), .int (nI (mDn v)), .ref (bDk B), .ref (bDu B), .ref (bDe B), .ref (bDt B), .ref (bDo B)])), (bW B, .inl (cI, 4, .inl (fun j9 => nI (mW v j9)))), (bIt B, .inl (cZ, 320, .inl (mIt v))), (bCk B, .inl (cI, 320, .inl (mCk v))), (bNu B, .inl (cI, 320, .inl (mNu v))), (bKe B, .inl (cJ, 320, .inr (.inl (mKe v)))), (bTi B, .inl (cJ, 320, .inr (.inl (mTi v)))), (bGa B, .inl (cJ, 320, .inr (.inl (mGa v)))), (bOf B, .inl (cI, 320, .inl (mOf v))), (bNw B, .inl (cJ, 8, .inr (.inl (mNw v)))), (bCn B, .inl (cI, 16, .inl (mCn v))), (bDk B, .inl (cI, 4000, .inl (mDk v))), (bDu B, .inl (cI, 4000, .inl (mDu v))), (bDe B, .inl (cJ, 4000, .inr (.inl (mDe v)))), (bDt B, .inl (cJ, 4000, .inr (.inl (mDt v)))), (bDo B, .inl (cI, 4000, .inl (mDo v)))] s.heap [] := hw
  have iX4 : ∀ w ∈ wsX40, w ∈ wsX4_many := by decide +kernel
  refine lv_iconst (v := 0) F.1 F.2.1 dX4_many_0 (by decide) ?_
  refine lv_istore_n (lv' := [(2, .int 0), (0, .ref (bH B)), (1, .int x)]) F.1 F.2.1 dX4_many_1 rfl hl (by decide) rfl (fun ls hl => ?_)
  refine lv_iconst (v := 0) F.1 F.2.1 dX4_many_2 (by decide) ?_
  refine lv_istore_n (lv' := [(3, .int 0), (2, .int 0), (0, .ref (bH B)), (1, .int x)]) F.1 F.2.1 dX4_many_3 rfl hl (by decide) rfl (fun ls hl => ?_)
  refine x_rec0 (α := Nat × Nat) (fun a9 => mW v 0 - a9.1) (fun a9 ls => lv_has ls 4 [(0, .ref (bH B)), (1, .int x), (2, .int (nI a9.2)), (3, .int (nI a9.1))] ∧ a9.1 ≤ mW v 0 ∧ a9.2 = cnt (fun j9 => decide (mIt v j9 = x)) a9.1) ?_ ((0, 0)) ⟨lv_sub hl [2, 3, 1, 0] rfl, Nat.zero_le _, rfl⟩
  rintro ⟨i, n⟩ ls ⟨hl, hi, hn⟩ ih
  try dsimp only at hi hn
  have hl : lv_has ls 4 [(0, .ref (bH B)), (1, .int x), (2, .int (nI n)), (3, .int (nI i))] := hl
  refine lv_iload_n F.1 F.2.1 dX4_many_4 rfl (lv_at hl 3 rfl) ?_
  refine lv_aload_n F.1 F.2.1 dX4_many_5 rfl (lv_at hl 0 rfl) ?_
  refine x_get F hw iX4 0 rfl rfl 1 (by decide) rfl (List.mem_of_getElem? (i := 1) rfl) rfl dX4_many_6 ?_
  refine lv_iconst (v := 0) F.1 F.2.1 dX4_many_9 (by decide) ?_
  refine x_ialdN F hw 1 0 rfl rfl 0 rfl (by omega) (by decide) dX4_many_10 ?_
  refine lv_icmp_ge (tgt := 38) F.1 F.2.1 dX4_many_11 (by decide) (fun c11 => ?_) (fun c11 => ?_)
  · refine lv_iload_n F.1 F.2.1 dX4_many_38 rfl (lv_at hl 2 rfl) ?_
    exact x_riret F hr hlk (by have h9 := x_le (by omega) (by omega) c11; rw [hn, show i = mW v 0 by omega]) dX4_many_39
  · have hlt : i < mW v 0 := x_nle (by omega) (by omega) c11
    refine lv_iload_n F.1 F.2.1 dX4_many_14 rfl (lv_at hl 2 rfl) ?_
    refine lv_aload_n F.1 F.2.1 dX4_many_15 rfl (lv_at hl 0 rfl) ?_
    refine x_get F hw iX4 0 rfl rfl 2 (by decide) rfl (List.mem_of_getElem? (i := 2) rfl) rfl dX4_many_16 ?_
    refine lv_iload_n F.1 F.2.1 dX4_many_19 rfl (lv_at hl 3 rfl) ?_
    refine x_zaldN F hw 2 2 rfl rfl i rfl (by omega) (by decide) dX4_many_20 ?_
    refine lv_iload_n F.1 F.2.1 dX4_many_21 rfl (lv_at hl 1 rfl) ?_
    refine lv_icmp_ne (tgt := 29) F.1 F.2.1 dX4_many_22 (by decide) (fun c22 => ?_) (fun c22 => ?_)
    · refine lv_iconst (v := 0) F.1 F.2.1 dX4_many_29 (by decide) ?_
      refine lv_iadd F.1 F.2.1 dX4_many_30 ?_
      refine x_topi (v := nI (n + 0)) ((nI_add n 0).symm) ?_
      refine lv_istore_n (lv' := [(2, .int (nI (n + 0))), (0, .ref (bH B)), (1, .int x), (3, .int (nI i))]) F.1 F.2.1 dX4_many_31 rfl hl (by decide) rfl (fun ls hl => ?_)
      refine lv_iinc (v := nI (i + 1)) (lv' := [(3, .int (nI (i + 1))), (2, .int (nI (n + 0))), (0, .ref (bH B)), (1, .int x)]) F.1 F.2.1 dX4_many_32 hl (k := 3) rfl (by rw [show Int32.ofInt 1 = 1 from rfl]; exact nI_1 _) (by decide) rfl (fun ls hl => ?_)
      refine lv_goto (tgt := 4) F.1 F.2.1 dX4_many_35 (by decide) ?_
      exact ih ((i + 1, n + 0)) _ (by simp only []; omega) ⟨lv_sub hl [2, 3, 1, 0] rfl, by omega, by rw [cnt_0 (P := fun j9 => decide (mIt v j9 = x)) (decide_eq_false c22), hn]; rfl⟩
    · refine lv_iconst (v := 1) F.1 F.2.1 dX4_many_25 (by decide) ?_
      refine lv_goto (tgt := 30) F.1 F.2.1 dX4_many_26 (by decide) ?_
      refine lv_iadd F.1 F.2.1 dX4_many_30 ?_
      refine x_topi (v := nI (n + 1)) ((nI_add n 1).symm) ?_
      refine lv_istore_n (lv' := [(2, .int (nI (n + 1))), (0, .ref (bH B)), (1, .int x), (3, .int (nI i))]) F.1 F.2.1 dX4_many_31 rfl hl (by decide) rfl (fun ls hl => ?_)
      refine lv_iinc (v := nI (i + 1)) (lv' := [(3, .int (nI (i + 1))), (2, .int (nI (n + 1))), (0, .ref (bH B)), (1, .int x)]) F.1 F.2.1 dX4_many_32 hl (k := 3) rfl (by rw [show Int32.ofInt 1 = 1 from rfl]; exact nI_1 _) (by decide) rfl (fun ls hl => ?_)
      refine lv_goto (tgt := 4) F.1 F.2.1 dX4_many_35 (by decide) ?_
      exact ih ((i + 1, n + 1)) _ (by simp only []; omega) ⟨lv_sub hl [2, 3, 1, 0] rfl, by omega, by rw [cnt_1 (P := fun j9 => decide (mIt v j9 = x)) (decide_eq_true c22), hn]⟩

set_option maxHeartbeats 8000000 in
set_option maxRecDepth 100000 in
/-- add(..) -/
theorem c_X4_add (l : Launch) (G : va_G) (cI cJ cZ cO : ClassId) (sz : Nat) (B : MA) (v : MR) (b : Int32) (a : Ent) (hb : b = 0 ∨ b = 1) (hw0 : mW v 0 < 80) : Met l yX4_add wsX4_add ({ frames := 0, cells := 0, slots := 0, locals := 0 }) (xPc G (xK cI cJ cZ cO) sz [.ref (bH B), .int b, .int (eC a), .int (eN a), .long (eK a), .long (eT a), .long (eG a), .int (eO a)] (wMo cI cJ cZ B v)) (va_Qv (fun u2 => u2 = mAdd v b a) (xB G (xK cI cJ cZ cO) (wMo cI cJ cZ B v) sz (fun u9 : MR => wMo cI cJ cZ B u9)) (va_A (wMo cI cJ cZ B v) sz)) 0 0 (va_A (wMo cI cJ cZ B v) sz) := by
  refine x_body (by decide) rfl (Nat.le_of_ble_eq_true rfl) ?_
  intro p e s m below meth c F hr hlk hnm hsz hw ls hl
  subst hsz
  have F : CallFix p m c cX4_add 12 s _ wsX4_add RX4 := F
  have hl : lv_has ls 12 [(0, .ref (bH B)), (1, .int b), (2, .int (eC a)), (3, .int (eN a)), (4, .long (eK a)), (6, .long (eT a)), (8, .long (eG a)), (10, .int (eO a))] := hl
  have hw : xW G (xK cI cJ cZ cO) _ s.heap s [(bH B, .inr (4, [.int (mCode v), .ref (bW B), .ref (bIt B), .ref (bCk B), .ref (bNu B), .ref (bKe B), .ref (bTi B), .ref (bGa B), .ref (bOf B), .ref (bNw B), .ref (bCn B), .int (nI (mKp v)), .int (nI (mDn v)), .ref (bDk B), .ref (bDu B), .ref (bDe B), .ref (bDt B), .ref (bDo B)])), (bW B, .inl (cI, 4, .inl (fun j9 => nI (mW v j9)))), (bIt B, .inl (cZ, 320, .inl (mIt v))), (bCk B, .inl (cI, 320, .inl (mCk v))), (bNu B, .inl (cI, 320, .inl (mNu v))), (bKe B, .inl (cJ, 320, .inr (.inl (mKe v)))), (bTi B, .inl (cJ, 320, .inr (.inl (mTi v)))), (bGa B, .inl (cJ, 320, .inr (.inl (mGa v)))), (bOf B, .inl (cI, 320, .inl (mOf v))), (bNw B, .inl (cJ, 8, .inr (.inl (mNw v)))), (bCn B, .inl (cI, 16, .inl (mCn v))), (bDk B, .inl (cI, 4000, .inl (mDk v))), (bDu B, .inl (cI, 4000, .inl (mDu v))), (bDe B, .inl (cJ, 4000, .inr (.inl (mDe v)))), (bDt B, .inl (cJ, 4000, .inr (.inl (mDt v)))), (bDo B, .inl (cI, 4000, .inl (mDo v)))] s.heap [] := hw
  have iX4 : ∀ w ∈ wsX40, w ∈ wsX4_add := by decide +kernel
  refine lv_aload_n F.1 F.2.1 dX4_add_0 rfl (lv_at hl 0 rfl) ?_
  refine x_get F hw iX4 0 rfl rfl 1 (by decide) rfl (List.mem_of_getElem? (i := 1) rfl) rfl dX4_add_1 ?_
  refine lv_iconst (v := 0) F.1 F.2.1 dX4_add_4 (by decide) ?_
  refine x_ialdN F hw 1 0 rfl rfl 0 rfl (by omega) (by decide) dX4_add_5 ?_
  refine lv_istore (lv' := [(11, .int (nI (mW v 0))), (0, .ref (bH B)), (1, .int b), (2, .int (eC a)), (3, .int (eN a)), (4, .long (eK a)), (6, .long (eT a)), (8, .long (eG a)), (10, .int (eO a))]) F.1 F.2.1 dX4_add_6 hl (by decide) rfl (fun ls hl => ?_)
  refine lv_aload_n F.1 F.2.1 dX4_add_8 rfl (lv_at hl 1 rfl) ?_
  refine x_get F hw iX4 0 rfl rfl 1 (by decide) rfl (List.mem_of_getElem? (i := 1) rfl) rfl dX4_add_9 ?_
  refine lv_iconst (v := 0) F.1 F.2.1 dX4_add_12 (by decide) ?_
  refine lv_dup2_11 F.1 F.2.1 dX4_add_13 rfl rfl ?_
  refine x_ialdN F hw 1 0 rfl rfl 0 rfl (by omega) (by decide) dX4_add_14 ?_
  refine lv_iconst (v := 1) F.1 F.2.1 dX4_add_15 (by decide) ?_
  refine lv_iadd F.1 F.2.1 dX4_add_16 ?_
  refine x_topi (v := nI ((mW v 0) + 1)) ((nI_add (mW v 0) 1).symm) ?_
  refine x_nastN F hw 1 0 rfl rfl 0 ((mW v 0) + 1) rfl rfl (by omega) (by decide) dX4_add_17 (fun H locs hw => ?_)
  have hw : xW G (xK cI cJ cZ cO) _ s.heap s [(bH B, .inr (4, [.int (mCode v), .ref (bW B), .ref (bIt B), .ref (bCk B), .ref (bNu B), .ref (bKe B), .ref (bTi B), .ref (bGa B), .ref (bOf B), .ref (bNw B), .ref (bCn B), .int (nI (mKp v)), .int (nI (mDn v)), .ref (bDk B), .ref (bDu B), .ref (bDe B), .ref (bDt B), .ref (bDo B)])), (bW B, .inl (cI, 4, .inl (fun j9 => nI (va_up (mW v) 0 ((mW v 0) + 1) j9)))), (bIt B, .inl (cZ, 320, .inl (mIt v))), (bCk B, .inl (cI, 320, .inl (mCk v))), (bNu B, .inl (cI, 320, .inl (mNu v))), (bKe B, .inl (cJ, 320, .inr (.inl (mKe v)))), (bTi B, .inl (cJ, 320, .inr (.inl (mTi v)))), (bGa B, .inl (cJ, 320, .inr (.inl (mGa v)))), (bOf B, .inl (cI, 320, .inl (mOf v))), (bNw B, .inl (cJ, 8, .inr (.inl (mNw v)))), (bCn B, .inl (cI, 16, .inl (mCn v))), (bDk B, .inl (cI, 4000, .inl (mDk v))), (bDu B, .inl (cI, 4000, .inl (mDu v))), (bDe B, .inl (cJ, 4000, .inr (.inl (mDe v)))), (bDt B, .inl (cJ, 4000, .inr (.inl (mDt v)))), (bDo B, .inl (cI, 4000, .inl (mDo v)))] H _ := hw
  refine lv_aload_n F.1 F.2.1 dX4_add_18 rfl (lv_at hl 1 rfl) ?_
  refine x_get F hw iX4 0 rfl rfl 2 (by decide) rfl (List.mem_of_getElem? (i := 2) rfl) rfl dX4_add_19 ?_
  refine lv_iload F.1 F.2.1 dX4_add_22 (lv_at hl 0 rfl) ?_
  refine lv_iload_n F.1 F.2.1 dX4_add_24 rfl (lv_at hl 2 rfl) ?_
  refine x_zastN F hw 2 2 rfl rfl (mW v 0) rfl (by omega) (by decide) (nar_z hb) dX4_add_25 (fun H locs hw => ?_)
  have hw : xW G (xK cI cJ cZ cO) _ s.heap s [(bH B, .inr (4, [.int (mCode v), .ref (bW B), .ref (bIt B), .ref (bCk B), .ref (bNu B), .ref (bKe B), .ref (bTi B), .ref (bGa B), .ref (bOf B), .ref (bNw B), .ref (bCn B), .int (nI (mKp v)), .int (nI (mDn v)), .ref (bDk B), .ref (bDu B), .ref (bDe B), .ref (bDt B), .ref (bDo B)])), (bW B, .inl (cI, 4, .inl (fun j9 => nI (va_up (mW v) 0 ((mW v 0) + 1) j9)))), (bIt B, .inl (cZ, 320, .inl (upd (mIt v) (mW v 0) b))), (bCk B, .inl (cI, 320, .inl (mCk v))), (bNu B, .inl (cI, 320, .inl (mNu v))), (bKe B, .inl (cJ, 320, .inr (.inl (mKe v)))), (bTi B, .inl (cJ, 320, .inr (.inl (mTi v)))), (bGa B, .inl (cJ, 320, .inr (.inl (mGa v)))), (bOf B, .inl (cI, 320, .inl (mOf v))), (bNw B, .inl (cJ, 8, .inr (.inl (mNw v)))), (bCn B, .inl (cI, 16, .inl (mCn v))), (bDk B, .inl (cI, 4000, .inl (mDk v))), (bDu B, .inl (cI, 4000, .inl (mDu v))), (bDe B, .inl (cJ, 4000, .inr (.inl (mDe v)))), (bDt B, .inl (cJ, 4000, .inr (.inl (mDt v)))), (bDo B, .inl (cI, 4000, .inl (mDo v)))] H _ := hw
  refine lv_aload_n F.1 F.2.1 dX4_add_26 rfl (lv_at hl 1 rfl) ?_
  refine x_get F hw iX4 0 rfl rfl 3 (by decide) rfl (List.mem_of_getElem? (i := 3) rfl) rfl dX4_add_27 ?_
  refine lv_iload F.1 F.2.1 dX4_add_30 (lv_at hl 0 rfl) ?_
  refine lv_iload_n F.1 F.2.1 dX4_add_32 rfl (lv_at hl 3 rfl) ?_
  refine x_iastN F hw 3 0 rfl rfl (mW v 0) rfl (by omega) (by decide) dX4_add_33 (fun H locs hw => ?_)
  have hw : xW G (xK cI cJ cZ cO) _ s.heap s [(bH B, .inr (4, [.int (mCode v), .ref (bW B), .ref (bIt B), .ref (bCk B), .ref (bNu B), .ref (bKe B), .ref (bTi B), .ref (bGa B), .ref (bOf B), .ref (bNw B), .ref (bCn B), .int (nI (mKp v)), .int (nI (mDn v)), .ref (bDk B), .ref (bDu B), .ref (bDe B), .ref (bDt B), .ref (bDo B)])), (bW B, .inl (cI, 4, .inl (fun j9 => nI (va_up (mW v) 0 ((mW v 0) + 1) j9)))), (bIt B, .inl (cZ, 320, .inl (upd (mIt v) (mW v 0) b))), (bCk B, .inl (cI, 320, .inl (upd (mCk v) (mW v 0) (eC a)))), (bNu B, .inl (cI, 320, .inl (mNu v))), (bKe B, .inl (cJ, 320, .inr (.inl (mKe v)))), (bTi B, .inl (cJ, 320, .inr (.inl (mTi v)))), (bGa B, .inl (cJ, 320, .inr (.inl (mGa v)))), (bOf B, .inl (cI, 320, .inl (mOf v))), (bNw B, .inl (cJ, 8, .inr (.inl (mNw v)))), (bCn B, .inl (cI, 16, .inl (mCn v))), (bDk B, .inl (cI, 4000, .inl (mDk v))), (bDu B, .inl (cI, 4000, .inl (mDu v))), (bDe B, .inl (cJ, 4000, .inr (.inl (mDe v)))), (bDt B, .inl (cJ, 4000, .inr (.inl (mDt v)))), (bDo B, .inl (cI, 4000, .inl (mDo v)))] H _ := hw
  refine lv_aload_n F.1 F.2.1 dX4_add_34 rfl (lv_at hl 1 rfl) ?_
  refine x_get F hw iX4 0 rfl rfl 4 (by decide) rfl (List.mem_of_getElem? (i := 4) rfl) rfl dX4_add_35 ?_
  refine lv_iload F.1 F.2.1 dX4_add_38 (lv_at hl 0 rfl) ?_
  refine lv_iload_n F.1 F.2.1 dX4_add_40 rfl (lv_at hl 4 rfl) ?_
  refine x_iastN F hw 4 0 rfl rfl (mW v 0) rfl (by omega) (by decide) dX4_add_41 (fun H locs hw => ?_)
  have hw : xW G (xK cI cJ cZ cO) _ s.heap s [(bH B, .inr (4, [.int (mCode v), .ref (bW B), .ref (bIt B), .ref (bCk B), .ref (bNu B), .ref (bKe B), .ref (bTi B), .ref (bGa B), .ref (bOf B), .ref (bNw B), .ref (bCn B), .int (nI (mKp v)), .int (nI (mDn v)), .ref (bDk B), .ref (bDu B), .ref (bDe B), .ref (bDt B), .ref (bDo B)])), (bW B, .inl (cI, 4, .inl (fun j9 => nI (va_up (mW v) 0 ((mW v 0) + 1) j9)))), (bIt B, .inl (cZ, 320, .inl (upd (mIt v) (mW v 0) b))), (bCk B, .inl (cI, 320, .inl (upd (mCk v) (mW v 0) (eC a)))), (bNu B, .inl (cI, 320, .inl (upd (mNu v) (mW v 0) (eN a)))), (bKe B, .inl (cJ, 320, .inr (.inl (mKe v)))), (bTi B, .inl (cJ, 320, .inr (.inl (mTi v)))), (bGa B, .inl (cJ, 320, .inr (.inl (mGa v)))), (bOf B, .inl (cI, 320, .inl (mOf v))), (bNw B, .inl (cJ, 8, .inr (.inl (mNw v)))), (bCn B, .inl (cI, 16, .inl (mCn v))), (bDk B, .inl (cI, 4000, .inl (mDk v))), (bDu B, .inl (cI, 4000, .inl (mDu v))), (bDe B, .inl (cJ, 4000, .inr (.inl (mDe v)))), (bDt B, .inl (cJ, 4000, .inr (.inl (mDt v)))), (bDo B, .inl (cI, 4000, .inl (mDo v)))] H _ := hw
  refine lv_aload_n F.1 F.2.1 dX4_add_42 rfl (lv_at hl 1 rfl) ?_
  refine x_get F hw iX4 0 rfl rfl 5 (by decide) rfl (List.mem_of_getElem? (i := 5) rfl) rfl dX4_add_43 ?_
  refine lv_iload F.1 F.2.1 dX4_add_46 (lv_at hl 0 rfl) ?_
  refine lv_lload F.1 F.2.1 dX4_add_48 (lv_at hl 5 rfl) ?_
  refine x_lastN F hw 5 1 rfl rfl (mW v 0) rfl (by omega) (by decide) dX4_add_50 (fun H locs hw => ?_)
  have hw : xW G (xK cI cJ cZ cO) _ s.heap s [(bH B, .inr (4, [.int (mCode v), .ref (bW B), .ref (bIt B), .ref (bCk B), .ref (bNu B), .ref (bKe B), .ref (bTi B), .ref (bGa B), .ref (bOf B), .ref (bNw B), .ref (bCn B), .int (nI (mKp v)), .int (nI (mDn v)), .ref (bDk B), .ref (bDu B), .ref (bDe B), .ref (bDt B), .ref (bDo B)])), (bW B, .inl (cI, 4, .inl (fun j9 => nI (va_up (mW v) 0 ((mW v 0) + 1) j9)))), (bIt B, .inl (cZ, 320, .inl (upd (mIt v) (mW v 0) b))), (bCk B, .inl (cI, 320, .inl (upd (mCk v) (mW v 0) (eC a)))), (bNu B, .inl (cI, 320, .inl (upd (mNu v) (mW v 0) (eN a)))), (bKe B, .inl (cJ, 320, .inr (.inl (vp_updL (mKe v) (mW v 0) (eK a))))), (bTi B, .inl (cJ, 320, .inr (.inl (mTi v)))), (bGa B, .inl (cJ, 320, .inr (.inl (mGa v)))), (bOf B, .inl (cI, 320, .inl (mOf v))), (bNw B, .inl (cJ, 8, .inr (.inl (mNw v)))), (bCn B, .inl (cI, 16, .inl (mCn v))), (bDk B, .inl (cI, 4000, .inl (mDk v))), (bDu B, .inl (cI, 4000, .inl (mDu v))), (bDe B, .inl (cJ, 4000, .inr (.inl (mDe v)))), (bDt B, .inl (cJ, 4000, .inr (.inl (mDt v)))), (bDo B, .inl (cI, 4000, .inl (mDo v)))] H _ := hw
  refine lv_aload_n F.1 F.2.1 dX4_add_51 rfl (lv_at hl 1 rfl) ?_
  refine x_get F hw iX4 0 rfl rfl 6 (by decide) rfl (List.mem_of_getElem? (i := 6) rfl) rfl dX4_add_52 ?_
  refine lv_iload F.1 F.2.1 dX4_add_55 (lv_at hl 0 rfl) ?_
  refine lv_lload F.1 F.2.1 dX4_add_57 (lv_at hl 6 rfl) ?_
  refine x_lastN F hw 6 1 rfl rfl (mW v 0) rfl (by omega) (by decide) dX4_add_59 (fun H locs hw => ?_)
  have hw : xW G (xK cI cJ cZ cO) _ s.heap s [(bH B, .inr (4, [.int (mCode v), .ref (bW B), .ref (bIt B), .ref (bCk B), .ref (bNu B), .ref (bKe B), .ref (bTi B), .ref (bGa B), .ref (bOf B), .ref (bNw B), .ref (bCn B), .int (nI (mKp v)), .int (nI (mDn v)), .ref (bDk B), .ref (bDu B), .ref (bDe B), .ref (bDt B), .ref (bDo B)])), (bW B, .inl (cI, 4, .inl (fun j9 => nI (va_up (mW v) 0 ((mW v 0) + 1) j9)))), (bIt B, .inl (cZ, 320, .inl (upd (mIt v) (mW v 0) b))), (bCk B, .inl (cI, 320, .inl (upd (mCk v) (mW v 0) (eC a)))), (bNu B, .inl (cI, 320, .inl (upd (mNu v) (mW v 0) (eN a)))), (bKe B, .inl (cJ, 320, .inr (.inl (vp_updL (mKe v) (mW v 0) (eK a))))), (bTi B, .inl (cJ, 320, .inr (.inl (vp_updL (mTi v) (mW v 0) (eT a))))), (bGa B, .inl (cJ, 320, .inr (.inl (mGa v)))), (bOf B, .inl (cI, 320, .inl (mOf v))), (bNw B, .inl (cJ, 8, .inr (.inl (mNw v)))), (bCn B, .inl (cI, 16, .inl (mCn v))), (bDk B, .inl (cI, 4000, .inl (mDk v))), (bDu B, .inl (cI, 4000, .inl (mDu v))), (bDe B, .inl (cJ, 4000, .inr (.inl (mDe v)))), (bDt B, .inl (cJ, 4000, .inr (.inl (mDt v)))), (bDo B, .inl (cI, 4000, .inl (mDo v)))] H _ := hw
  refine lv_aload_n F.1 F.2.1 dX4_add_60 rfl (lv_at hl 1 rfl) ?_
  refine x_get F hw iX4 0 rfl rfl 7 (by decide) rfl (List.mem_of_getElem? (i := 7) rfl) rfl dX4_add_61 ?_
  refine lv_iload F.1 F.2.1 dX4_add_64 (lv_at hl 0 rfl) ?_
  refine lv_lload F.1 F.2.1 dX4_add_66 (lv_at hl 7 rfl) ?_
  refine x_lastN F hw 7 1 rfl rfl (mW v 0) rfl (by omega) (by decide) dX4_add_68 (fun H locs hw => ?_)
  have hw : xW G (xK cI cJ cZ cO) _ s.heap s [(bH B, .inr (4, [.int (mCode v), .ref (bW B), .ref (bIt B), .ref (bCk B), .ref (bNu B), .ref (bKe B), .ref (bTi B), .ref (bGa B), .ref (bOf B), .ref (bNw B), .ref (bCn B), .int (nI (mKp v)), .int (nI (mDn v)), .ref (bDk B), .ref (bDu B), .ref (bDe B), .ref (bDt B), .ref (bDo B)])), (bW B, .inl (cI, 4, .inl (fun j9 => nI (va_up (mW v) 0 ((mW v 0) + 1) j9)))), (bIt B, .inl (cZ, 320, .inl (upd (mIt v) (mW v 0) b))), (bCk B, .inl (cI, 320, .inl (upd (mCk v) (mW v 0) (eC a)))), (bNu B, .inl (cI, 320, .inl (upd (mNu v) (mW v 0) (eN a)))), (bKe B, .inl (cJ, 320, .inr (.inl (vp_updL (mKe v) (mW v 0) (eK a))))), (bTi B, .inl (cJ, 320, .inr (.inl (vp_updL (mTi v) (mW v 0) (eT a))))), (bGa B, .inl (cJ, 320, .inr (.inl (vp_updL (mGa v) (mW v 0) (eG a))))), (bOf B, .inl (cI, 320, .inl (mOf v))), (bNw B, .inl (cJ, 8, .inr (.inl (mNw v)))), (bCn B, .inl (cI, 16, .inl (mCn v))), (bDk B, .inl (cI, 4000, .inl (mDk v))), (bDu B, .inl (cI, 4000, .inl (mDu v))), (bDe B, .inl (cJ, 4000, .inr (.inl (mDe v)))), (bDt B, .inl (cJ, 4000, .inr (.inl (mDt v)))), (bDo B, .inl (cI, 4000, .inl (mDo v)))] H _ := hw
  refine lv_aload_n F.1 F.2.1 dX4_add_69 rfl (lv_at hl 1 rfl) ?_
  refine x_get F hw iX4 0 rfl rfl 8 (by decide) rfl (List.mem_of_getElem? (i := 8) rfl) rfl dX4_add_70 ?_
  refine lv_iload F.1 F.2.1 dX4_add_73 (lv_at hl 0 rfl) ?_
  refine lv_iload F.1 F.2.1 dX4_add_75 (lv_at hl 8 rfl) ?_
  refine x_iastN F hw 8 0 rfl rfl (mW v 0) rfl (by omega) (by decide) dX4_add_77 (fun H locs hw => ?_)
  have hw : xW G (xK cI cJ cZ cO) _ s.heap s [(bH B, .inr (4, [.int (mCode v), .ref (bW B), .ref (bIt B), .ref (bCk B), .ref (bNu B), .ref (bKe B), .ref (bTi B), .ref (bGa B), .ref (bOf B), .ref (bNw B), .ref (bCn B), .int (nI (mKp v)), .int (nI (mDn v)), .ref (bDk B), .ref (bDu B), .ref (bDe B), .ref (bDt B), .ref (bDo B)])), (bW B, .inl (cI, 4, .inl (fun j9 => nI (va_up (mW v) 0 ((mW v 0) + 1) j9)))), (bIt B, .inl (cZ, 320, .inl (upd (mIt v) (mW v 0) b))), (bCk B, .inl (cI, 320, .inl (upd (mCk v) (mW v 0) (eC a)))), (bNu B, .inl (cI, 320, .inl (upd (mNu v) (mW v 0) (eN a)))), (bKe B, .inl (cJ, 320, .inr (.inl (vp_updL (mKe v) (mW v 0) (eK a))))), (bTi B, .inl (cJ, 320, .inr (.inl (vp_updL (mTi v) (mW v 0) (eT a))))), (bGa B, .inl (cJ, 320, .inr (.inl (vp_updL (mGa v) (mW v 0) (eG a))))), (bOf B, .inl (cI, 320, .inl (upd (mOf v) (mW v 0) (eO a)))), (bNw B, .inl (cJ, 8, .inr (.inl (mNw v)))), (bCn B, .inl (cI, 16, .inl (mCn v))), (bDk B, .inl (cI, 4000, .inl (mDk v))), (bDu B, .inl (cI, 4000, .inl (mDu v))), (bDe B, .inl (cJ, 4000, .inr (.inl (mDe v)))), (bDt B, .inl (cJ, 4000, .inr (.inl (mDt v)))), (bDo B, .inl (cI, 4000, .inl (mDo v)))] H _ := hw
  exact x_vret (f := fun u9 : MR => wMo cI cJ cZ B u9) (mCode v, (va_up (mW v) 0 ((mW v 0) + 1)), (upd (mIt v) (mW v 0) b), (upd (mCk v) (mW v 0) (eC a)), (upd (mNu v) (mW v 0) (eN a)), (vp_updL (mKe v) (mW v 0) (eK a)), (vp_updL (mTi v) (mW v 0) (eT a)), (vp_updL (mGa v) (mW v 0) (eG a)), (upd (mOf v) (mW v 0) (eO a)), (mNw v), (mCn v), mKp v, mDn v, (mDk v), (mDu v), (mDe v), (mDt v), (mDo v)) F hr hlk hw (rfl) dX4_add_78

set_option maxHeartbeats 8000000 in
set_option maxRecDepth 100000 in
/-- copy(from, to) -/
theorem c_X4_copy (l : Launch) (G : va_G) (cI cJ cZ cO : ClassId) (sz : Nat) (B : MA) (v : MR) (f t : Nat) (hz : mIt v f = 0 ∨ mIt v f = 1) (hf : f < 320) (ht : t < 320) : Met l yX4_copy wsX4_copy ({ frames := 0, cells := 0, slots := 0, locals := 0 }) (xPc G (xK cI cJ cZ cO) sz [.ref (bH B), .int (nI f), .int (nI t)] (wMo cI cJ cZ B v)) (va_Qv (fun u2 => u2 = mCopy v f t) (xB G (xK cI cJ cZ cO) (wMo cI cJ cZ B v) sz (fun u9 : MR => wMo cI cJ cZ B u9)) (va_A (wMo cI cJ cZ B v) sz)) 0 0 (va_A (wMo cI cJ cZ B v) sz) := by
  refine x_body (by decide) rfl (Nat.le_of_ble_eq_true rfl) ?_
  intro p e s m below meth c F hr hlk hnm hsz hw ls hl
  subst hsz
  have F : CallFix p m c cX4_copy 3 s _ wsX4_copy RX4 := F
  have hl : lv_has ls 3 [(0, .ref (bH B)), (1, .int (nI f)), (2, .int (nI t))] := hl
  have hw : xW G (xK cI cJ cZ cO) _ s.heap s [(bH B, .inr (4, [.int (mCode v), .ref (bW B), .ref (bIt B), .ref (bCk B), .ref (bNu B), .ref (bKe B), .ref (bTi B), .ref (bGa B), .ref (bOf B), .ref (bNw B), .ref (bCn B), .int (nI (mKp v)), .int (nI (mDn v)), .ref (bDk B), .ref (bDu B), .ref (bDe B), .ref (bDt B), .ref (bDo B)])), (bW B, .inl (cI, 4, .inl (fun j9 => nI (mW v j9)))), (bIt B, .inl (cZ, 320, .inl (mIt v))), (bCk B, .inl (cI, 320, .inl (mCk v))), (bNu B, .inl (cI, 320, .inl (mNu v))), (bKe B, .inl (cJ, 320, .inr (.inl (mKe v)))), (bTi B, .inl (cJ, 320, .inr (.inl (mTi v)))), (bGa B, .inl (cJ, 320, .inr (.inl (mGa v)))), (bOf B, .inl (cI, 320, .inl (mOf v))), (bNw B, .inl (cJ, 8, .inr (.inl (mNw v)))), (bCn B, .inl (cI, 16, .inl (mCn v))), (bDk B, .inl (cI, 4000, .inl (mDk v))), (bDu B, .inl (cI, 4000, .inl (mDu v))), (bDe B, .inl (cJ, 4000, .inr (.inl (mDe v)))), (bDt B, .inl (cJ, 4000, .inr (.inl (mDt v)))), (bDo B, .inl (cI, 4000, .inl (mDo v)))] s.heap [] := hw
  have iX4 : ∀ w ∈ wsX40, w ∈ wsX4_copy := by decide +kernel
  refine lv_aload_n F.1 F.2.1 dX4_copy_0 rfl (lv_at hl 0 rfl) ?_
  refine x_get F hw iX4 0 rfl rfl 2 (by decide) rfl (List.mem_of_getElem? (i := 1) rfl) rfl dX4_copy_1 ?_
  refine lv_iload_n F.1 F.2.1 dX4_copy_4 rfl (lv_at hl 2 rfl) ?_
  refine lv_aload_n F.1 F.2.1 dX4_copy_5 rfl (lv_at hl 0 rfl) ?_
  refine x_get F hw iX4 0 rfl rfl 2 (by decide) rfl (List.mem_of_getElem? (i := 1) rfl) rfl dX4_copy_6 ?_
  refine lv_iload_n F.1 F.2.1 dX4_copy_9 rfl (lv_at hl 1 rfl) ?_
  refine x_zaldN F hw 2 2 rfl rfl f rfl (by omega) (by decide) dX4_copy_10 ?_
  refine x_zastN F hw 2 2 rfl rfl t rfl (by omega) (by decide) (nar_z hz) dX4_copy_11 (fun H locs hw => ?_)
  have hw : xW G (xK cI cJ cZ cO) _ s.heap s [(bH B, .inr (4, [.int (mCode v), .ref (bW B), .ref (bIt B), .ref (bCk B), .ref (bNu B), .ref (bKe B), .ref (bTi B), .ref (bGa B), .ref (bOf B), .ref (bNw B), .ref (bCn B), .int (nI (mKp v)), .int (nI (mDn v)), .ref (bDk B), .ref (bDu B), .ref (bDe B), .ref (bDt B), .ref (bDo B)])), (bW B, .inl (cI, 4, .inl (fun j9 => nI (mW v j9)))), (bIt B, .inl (cZ, 320, .inl (upd (mIt v) t (mIt v f)))), (bCk B, .inl (cI, 320, .inl (mCk v))), (bNu B, .inl (cI, 320, .inl (mNu v))), (bKe B, .inl (cJ, 320, .inr (.inl (mKe v)))), (bTi B, .inl (cJ, 320, .inr (.inl (mTi v)))), (bGa B, .inl (cJ, 320, .inr (.inl (mGa v)))), (bOf B, .inl (cI, 320, .inl (mOf v))), (bNw B, .inl (cJ, 8, .inr (.inl (mNw v)))), (bCn B, .inl (cI, 16, .inl (mCn v))), (bDk B, .inl (cI, 4000, .inl (mDk v))), (bDu B, .inl (cI, 4000, .inl (mDu v))), (bDe B, .inl (cJ, 4000, .inr (.inl (mDe v)))), (bDt B, .inl (cJ, 4000, .inr (.inl (mDt v)))), (bDo B, .inl (cI, 4000, .inl (mDo v)))] H _ := hw
  refine lv_aload_n F.1 F.2.1 dX4_copy_12 rfl (lv_at hl 0 rfl) ?_
  refine x_get F hw iX4 0 rfl rfl 3 (by decide) rfl (List.mem_of_getElem? (i := 2) rfl) rfl dX4_copy_13 ?_
  refine lv_iload_n F.1 F.2.1 dX4_copy_16 rfl (lv_at hl 2 rfl) ?_
  refine lv_aload_n F.1 F.2.1 dX4_copy_17 rfl (lv_at hl 0 rfl) ?_
  refine x_get F hw iX4 0 rfl rfl 3 (by decide) rfl (List.mem_of_getElem? (i := 2) rfl) rfl dX4_copy_18 ?_
  refine lv_iload_n F.1 F.2.1 dX4_copy_21 rfl (lv_at hl 1 rfl) ?_
  refine x_ialdN F hw 3 0 rfl rfl f rfl (by omega) (by decide) dX4_copy_22 ?_
  refine x_iastN F hw 3 0 rfl rfl t rfl (by omega) (by decide) dX4_copy_23 (fun H locs hw => ?_)
  have hw : xW G (xK cI cJ cZ cO) _ s.heap s [(bH B, .inr (4, [.int (mCode v), .ref (bW B), .ref (bIt B), .ref (bCk B), .ref (bNu B), .ref (bKe B), .ref (bTi B), .ref (bGa B), .ref (bOf B), .ref (bNw B), .ref (bCn B), .int (nI (mKp v)), .int (nI (mDn v)), .ref (bDk B), .ref (bDu B), .ref (bDe B), .ref (bDt B), .ref (bDo B)])), (bW B, .inl (cI, 4, .inl (fun j9 => nI (mW v j9)))), (bIt B, .inl (cZ, 320, .inl (upd (mIt v) t (mIt v f)))), (bCk B, .inl (cI, 320, .inl (upd (mCk v) t (mCk v f)))), (bNu B, .inl (cI, 320, .inl (mNu v))), (bKe B, .inl (cJ, 320, .inr (.inl (mKe v)))), (bTi B, .inl (cJ, 320, .inr (.inl (mTi v)))), (bGa B, .inl (cJ, 320, .inr (.inl (mGa v)))), (bOf B, .inl (cI, 320, .inl (mOf v))), (bNw B, .inl (cJ, 8, .inr (.inl (mNw v)))), (bCn B, .inl (cI, 16, .inl (mCn v))), (bDk B, .inl (cI, 4000, .inl (mDk v))), (bDu B, .inl (cI, 4000, .inl (mDu v))), (bDe B, .inl (cJ, 4000, .inr (.inl (mDe v)))), (bDt B, .inl (cJ, 4000, .inr (.inl (mDt v)))), (bDo B, .inl (cI, 4000, .inl (mDo v)))] H _ := hw
  refine lv_aload_n F.1 F.2.1 dX4_copy_24 rfl (lv_at hl 0 rfl) ?_
  refine x_get F hw iX4 0 rfl rfl 4 (by decide) rfl (List.mem_of_getElem? (i := 3) rfl) rfl dX4_copy_25 ?_
  refine lv_iload_n F.1 F.2.1 dX4_copy_28 rfl (lv_at hl 2 rfl) ?_
  refine lv_aload_n F.1 F.2.1 dX4_copy_29 rfl (lv_at hl 0 rfl) ?_
  refine x_get F hw iX4 0 rfl rfl 4 (by decide) rfl (List.mem_of_getElem? (i := 3) rfl) rfl dX4_copy_30 ?_
  refine lv_iload_n F.1 F.2.1 dX4_copy_33 rfl (lv_at hl 1 rfl) ?_
  refine x_ialdN F hw 4 0 rfl rfl f rfl (by omega) (by decide) dX4_copy_34 ?_
  refine x_iastN F hw 4 0 rfl rfl t rfl (by omega) (by decide) dX4_copy_35 (fun H locs hw => ?_)
  have hw : xW G (xK cI cJ cZ cO) _ s.heap s [(bH B, .inr (4, [.int (mCode v), .ref (bW B), .ref (bIt B), .ref (bCk B), .ref (bNu B), .ref (bKe B), .ref (bTi B), .ref (bGa B), .ref (bOf B), .ref (bNw B), .ref (bCn B), .int (nI (mKp v)), .int (nI (mDn v)), .ref (bDk B), .ref (bDu B), .ref (bDe B), .ref (bDt B), .ref (bDo B)])), (bW B, .inl (cI, 4, .inl (fun j9 => nI (mW v j9)))), (bIt B, .inl (cZ, 320, .inl (upd (mIt v) t (mIt v f)))), (bCk B, .inl (cI, 320, .inl (upd (mCk v) t (mCk v f)))), (bNu B, .inl (cI, 320, .inl (upd (mNu v) t (mNu v f)))), (bKe B, .inl (cJ, 320, .inr (.inl (mKe v)))), (bTi B, .inl (cJ, 320, .inr (.inl (mTi v)))), (bGa B, .inl (cJ, 320, .inr (.inl (mGa v)))), (bOf B, .inl (cI, 320, .inl (mOf v))), (bNw B, .inl (cJ, 8, .inr (.inl (mNw v)))), (bCn B, .inl (cI, 16, .inl (mCn v))), (bDk B, .inl (cI, 4000, .inl (mDk v))), (bDu B, .inl (cI, 4000, .inl (mDu v))), (bDe B, .inl (cJ, 4000, .inr (.inl (mDe v)))), (bDt B, .inl (cJ, 4000, .inr (.inl (mDt v)))), (bDo B, .inl (cI, 4000, .inl (mDo v)))] H _ := hw
  refine lv_aload_n F.1 F.2.1 dX4_copy_36 rfl (lv_at hl 0 rfl) ?_
  refine x_get F hw iX4 0 rfl rfl 5 (by decide) rfl (List.mem_of_getElem? (i := 4) rfl) rfl dX4_copy_37 ?_
  refine lv_iload_n F.1 F.2.1 dX4_copy_40 rfl (lv_at hl 2 rfl) ?_
  refine lv_aload_n F.1 F.2.1 dX4_copy_41 rfl (lv_at hl 0 rfl) ?_
  refine x_get F hw iX4 0 rfl rfl 5 (by decide) rfl (List.mem_of_getElem? (i := 4) rfl) rfl dX4_copy_42 ?_
  refine lv_iload_n F.1 F.2.1 dX4_copy_45 rfl (lv_at hl 1 rfl) ?_
  refine x_laldN F hw 5 1 rfl rfl f rfl (by omega) (by decide) dX4_copy_46 ?_
  refine x_lastN F hw 5 1 rfl rfl t rfl (by omega) (by decide) dX4_copy_47 (fun H locs hw => ?_)
  have hw : xW G (xK cI cJ cZ cO) _ s.heap s [(bH B, .inr (4, [.int (mCode v), .ref (bW B), .ref (bIt B), .ref (bCk B), .ref (bNu B), .ref (bKe B), .ref (bTi B), .ref (bGa B), .ref (bOf B), .ref (bNw B), .ref (bCn B), .int (nI (mKp v)), .int (nI (mDn v)), .ref (bDk B), .ref (bDu B), .ref (bDe B), .ref (bDt B), .ref (bDo B)])), (bW B, .inl (cI, 4, .inl (fun j9 => nI (mW v j9)))), (bIt B, .inl (cZ, 320, .inl (upd (mIt v) t (mIt v f)))), (bCk B, .inl (cI, 320, .inl (upd (mCk v) t (mCk v f)))), (bNu B, .inl (cI, 320, .inl (upd (mNu v) t (mNu v f)))), (bKe B, .inl (cJ, 320, .inr (.inl (vp_updL (mKe v) t (mKe v f))))), (bTi B, .inl (cJ, 320, .inr (.inl (mTi v)))), (bGa B, .inl (cJ, 320, .inr (.inl (mGa v)))), (bOf B, .inl (cI, 320, .inl (mOf v))), (bNw B, .inl (cJ, 8, .inr (.inl (mNw v)))), (bCn B, .inl (cI, 16, .inl (mCn v))), (bDk B, .inl (cI, 4000, .inl (mDk v))), (bDu B, .inl (cI, 4000, .inl (mDu v))), (bDe B, .inl (cJ, 4000, .inr (.inl (mDe v)))), (bDt B, .inl (cJ, 4000, .inr (.inl (mDt v)))), (bDo B, .inl (cI, 4000, .inl (mDo v)))] H _ := hw
  refine lv_aload_n F.1 F.2.1 dX4_copy_48 rfl (lv_at hl 0 rfl) ?_
  refine x_get F hw iX4 0 rfl rfl 6 (by decide) rfl (List.mem_of_getElem? (i := 5) rfl) rfl dX4_copy_49 ?_
  refine lv_iload_n F.1 F.2.1 dX4_copy_52 rfl (lv_at hl 2 rfl) ?_
  refine lv_aload_n F.1 F.2.1 dX4_copy_53 rfl (lv_at hl 0 rfl) ?_
  refine x_get F hw iX4 0 rfl rfl 6 (by decide) rfl (List.mem_of_getElem? (i := 5) rfl) rfl dX4_copy_54 ?_
  refine lv_iload_n F.1 F.2.1 dX4_copy_57 rfl (lv_at hl 1 rfl) ?_
  refine x_laldN F hw 6 1 rfl rfl f rfl (by omega) (by decide) dX4_copy_58 ?_
  refine x_lastN F hw 6 1 rfl rfl t rfl (by omega) (by decide) dX4_copy_59 (fun H locs hw => ?_)
  have hw : xW G (xK cI cJ cZ cO) _ s.heap s [(bH B, .inr (4, [.int (mCode v), .ref (bW B), .ref (bIt B), .ref (bCk B), .ref (bNu B), .ref (bKe B), .ref (bTi B), .ref (bGa B), .ref (bOf B), .ref (bNw B), .ref (bCn B), .int (nI (mKp v)), .int (nI (mDn v)), .ref (bDk B), .ref (bDu B), .ref (bDe B), .ref (bDt B), .ref (bDo B)])), (bW B, .inl (cI, 4, .inl (fun j9 => nI (mW v j9)))), (bIt B, .inl (cZ, 320, .inl (upd (mIt v) t (mIt v f)))), (bCk B, .inl (cI, 320, .inl (upd (mCk v) t (mCk v f)))), (bNu B, .inl (cI, 320, .inl (upd (mNu v) t (mNu v f)))), (bKe B, .inl (cJ, 320, .inr (.inl (vp_updL (mKe v) t (mKe v f))))), (bTi B, .inl (cJ, 320, .inr (.inl (vp_updL (mTi v) t (mTi v f))))), (bGa B, .inl (cJ, 320, .inr (.inl (mGa v)))), (bOf B, .inl (cI, 320, .inl (mOf v))), (bNw B, .inl (cJ, 8, .inr (.inl (mNw v)))), (bCn B, .inl (cI, 16, .inl (mCn v))), (bDk B, .inl (cI, 4000, .inl (mDk v))), (bDu B, .inl (cI, 4000, .inl (mDu v))), (bDe B, .inl (cJ, 4000, .inr (.inl (mDe v)))), (bDt B, .inl (cJ, 4000, .inr (.inl (mDt v)))), (bDo B, .inl (cI, 4000, .inl (mDo v)))] H _ := hw
  refine lv_aload_n F.1 F.2.1 dX4_copy_60 rfl (lv_at hl 0 rfl) ?_
  refine x_get F hw iX4 0 rfl rfl 7 (by decide) rfl (List.mem_of_getElem? (i := 6) rfl) rfl dX4_copy_61 ?_
  refine lv_iload_n F.1 F.2.1 dX4_copy_64 rfl (lv_at hl 2 rfl) ?_
  refine lv_aload_n F.1 F.2.1 dX4_copy_65 rfl (lv_at hl 0 rfl) ?_
  refine x_get F hw iX4 0 rfl rfl 7 (by decide) rfl (List.mem_of_getElem? (i := 6) rfl) rfl dX4_copy_66 ?_
  refine lv_iload_n F.1 F.2.1 dX4_copy_69 rfl (lv_at hl 1 rfl) ?_
  refine x_laldN F hw 7 1 rfl rfl f rfl (by omega) (by decide) dX4_copy_70 ?_
  refine x_lastN F hw 7 1 rfl rfl t rfl (by omega) (by decide) dX4_copy_71 (fun H locs hw => ?_)
  have hw : xW G (xK cI cJ cZ cO) _ s.heap s [(bH B, .inr (4, [.int (mCode v), .ref (bW B), .ref (bIt B), .ref (bCk B), .ref (bNu B), .ref (bKe B), .ref (bTi B), .ref (bGa B), .ref (bOf B), .ref (bNw B), .ref (bCn B), .int (nI (mKp v)), .int (nI (mDn v)), .ref (bDk B), .ref (bDu B), .ref (bDe B), .ref (bDt B), .ref (bDo B)])), (bW B, .inl (cI, 4, .inl (fun j9 => nI (mW v j9)))), (bIt B, .inl (cZ, 320, .inl (upd (mIt v) t (mIt v f)))), (bCk B, .inl (cI, 320, .inl (upd (mCk v) t (mCk v f)))), (bNu B, .inl (cI, 320, .inl (upd (mNu v) t (mNu v f)))), (bKe B, .inl (cJ, 320, .inr (.inl (vp_updL (mKe v) t (mKe v f))))), (bTi B, .inl (cJ, 320, .inr (.inl (vp_updL (mTi v) t (mTi v f))))), (bGa B, .inl (cJ, 320, .inr (.inl (vp_updL (mGa v) t (mGa v f))))), (bOf B, .inl (cI, 320, .inl (mOf v))), (bNw B, .inl (cJ, 8, .inr (.inl (mNw v)))), (bCn B, .inl (cI, 16, .inl (mCn v))), (bDk B, .inl (cI, 4000, .inl (mDk v))), (bDu B, .inl (cI, 4000, .inl (mDu v))), (bDe B, .inl (cJ, 4000, .inr (.inl (mDe v)))), (bDt B, .inl (cJ, 4000, .inr (.inl (mDt v)))), (bDo B, .inl (cI, 4000, .inl (mDo v)))] H _ := hw
  refine lv_aload_n F.1 F.2.1 dX4_copy_72 rfl (lv_at hl 0 rfl) ?_
  refine x_get F hw iX4 0 rfl rfl 8 (by decide) rfl (List.mem_of_getElem? (i := 7) rfl) rfl dX4_copy_73 ?_
  refine lv_iload_n F.1 F.2.1 dX4_copy_76 rfl (lv_at hl 2 rfl) ?_
  refine lv_aload_n F.1 F.2.1 dX4_copy_77 rfl (lv_at hl 0 rfl) ?_
  refine x_get F hw iX4 0 rfl rfl 8 (by decide) rfl (List.mem_of_getElem? (i := 7) rfl) rfl dX4_copy_78 ?_
  refine lv_iload_n F.1 F.2.1 dX4_copy_81 rfl (lv_at hl 1 rfl) ?_
  refine x_ialdN F hw 8 0 rfl rfl f rfl (by omega) (by decide) dX4_copy_82 ?_
  refine x_iastN F hw 8 0 rfl rfl t rfl (by omega) (by decide) dX4_copy_83 (fun H locs hw => ?_)
  have hw : xW G (xK cI cJ cZ cO) _ s.heap s [(bH B, .inr (4, [.int (mCode v), .ref (bW B), .ref (bIt B), .ref (bCk B), .ref (bNu B), .ref (bKe B), .ref (bTi B), .ref (bGa B), .ref (bOf B), .ref (bNw B), .ref (bCn B), .int (nI (mKp v)), .int (nI (mDn v)), .ref (bDk B), .ref (bDu B), .ref (bDe B), .ref (bDt B), .ref (bDo B)])), (bW B, .inl (cI, 4, .inl (fun j9 => nI (mW v j9)))), (bIt B, .inl (cZ, 320, .inl (upd (mIt v) t (mIt v f)))), (bCk B, .inl (cI, 320, .inl (upd (mCk v) t (mCk v f)))), (bNu B, .inl (cI, 320, .inl (upd (mNu v) t (mNu v f)))), (bKe B, .inl (cJ, 320, .inr (.inl (vp_updL (mKe v) t (mKe v f))))), (bTi B, .inl (cJ, 320, .inr (.inl (vp_updL (mTi v) t (mTi v f))))), (bGa B, .inl (cJ, 320, .inr (.inl (vp_updL (mGa v) t (mGa v f))))), (bOf B, .inl (cI, 320, .inl (upd (mOf v) t (mOf v f)))), (bNw B, .inl (cJ, 8, .inr (.inl (mNw v)))), (bCn B, .inl (cI, 16, .inl (mCn v))), (bDk B, .inl (cI, 4000, .inl (mDk v))), (bDu B, .inl (cI, 4000, .inl (mDu v))), (bDe B, .inl (cJ, 4000, .inr (.inl (mDe v)))), (bDt B, .inl (cJ, 4000, .inr (.inl (mDt v)))), (bDo B, .inl (cI, 4000, .inl (mDo v)))] H _ := hw
  exact x_vret (f := fun u9 : MR => wMo cI cJ cZ B u9) (mCode v, (mW v), (upd (mIt v) t (mIt v f)), (upd (mCk v) t (mCk v f)), (upd (mNu v) t (mNu v f)), (vp_updL (mKe v) t (mKe v f)), (vp_updL (mTi v) t (mTi v f)), (vp_updL (mGa v) t (mGa v f)), (upd (mOf v) t (mOf v f)), (mNw v), (mCn v), mKp v, mDn v, (mDk v), (mDu v), (mDe v), (mDt v), (mDo v)) F hr hlk hw (rfl) dX4_copy_84

set_option maxHeartbeats 8000000 in
set_option maxRecDepth 100000 in
/-- take(i) -/
theorem c_X4_take (l : Launch) (G : va_G) (cI cJ cZ cO : ClassId) (sz : Nat) (B : MA) (v : MR) (i : Nat) (hz : ∀ j, mIt v j = 0 ∨ mIt v j = 1) (hw0 : mW v 0 ≤ 80) (hi : i < mW v 0) : Met l yX4_take wsX4_take ({ frames := 1, cells := 0, slots := 0, locals := 22 }) (xPc G (xK cI cJ cZ cO) sz [.ref (bH B), .int (nI i)] (wMo cI cJ cZ B v)) (va_Qv (fun u2 => u2 = mTake v i) (xB G (xK cI cJ cZ cO) (wMo cI cJ cZ B v) sz (fun u9 : MR => wMo cI cJ cZ B u9)) (va_A (wMo cI cJ cZ B v) sz)) 0 0 (va_A (wMo cI cJ cZ B v) sz) := by
  refine x_body (by decide) rfl (Nat.le_of_ble_eq_true rfl) ?_
  intro p e s m below meth c F hr hlk hnm hsz hw ls hl
  subst hsz
  have F : CallFix p m c cX4_take 2 s _ wsX4_take RX4 := F
  have hl : lv_has ls 2 [(0, .ref (bH B)), (1, .int (nI i))] := hl
  have hw : xW G (xK cI cJ cZ cO) _ s.heap s [(bH B, .inr (4, [.int (mCode v), .ref (bW B), .ref (bIt B), .ref (bCk B), .ref (bNu B), .ref (bKe B), .ref (bTi B), .ref (bGa B), .ref (bOf B), .ref (bNw B), .ref (bCn B), .int (nI (mKp v)), .int (nI (mDn v)), .ref (bDk B), .ref (bDu B), .ref (bDe B), .ref (bDt B), .ref (bDo B)])), (bW B, .inl (cI, 4, .inl (fun j9 => nI (mW v j9)))), (bIt B, .inl (cZ, 320, .inl (mIt v))), (bCk B, .inl (cI, 320, .inl (mCk v))), (bNu B, .inl (cI, 320, .inl (mNu v))), (bKe B, .inl (cJ, 320, .inr (.inl (mKe v)))), (bTi B, .inl (cJ, 320, .inr (.inl (mTi v)))), (bGa B, .inl (cJ, 320, .inr (.inl (mGa v)))), (bOf B, .inl (cI, 320, .inl (mOf v))), (bNw B, .inl (cJ, 8, .inr (.inl (mNw v)))), (bCn B, .inl (cI, 16, .inl (mCn v))), (bDk B, .inl (cI, 4000, .inl (mDk v))), (bDu B, .inl (cI, 4000, .inl (mDu v))), (bDe B, .inl (cJ, 4000, .inr (.inl (mDe v)))), (bDt B, .inl (cJ, 4000, .inr (.inl (mDt v)))), (bDo B, .inl (cI, 4000, .inl (mDo v)))] s.heap [] := hw
  have iX4 : ∀ w ∈ wsX40, w ∈ wsX4_take := by decide +kernel
  have he : mW (mSetW v 0 (mW v 0 - 1)) 0 = mW v 0 - 1 := va_up_self (mW v) 0 (mW v 0 - 1)
  refine lv_aload_n F.1 F.2.1 dX4_take_0 rfl (lv_at hl 0 rfl) ?_
  refine x_get F hw iX4 0 rfl rfl 1 (by decide) rfl (List.mem_of_getElem? (i := 1) rfl) rfl dX4_take_1 ?_
  refine lv_iconst (v := 0) F.1 F.2.1 dX4_take_4 (by decide) ?_
  refine lv_dup2_11 F.1 F.2.1 dX4_take_5 rfl rfl ?_
  refine x_ialdN F hw 1 0 rfl rfl 0 rfl (by omega) (by decide) dX4_take_6 ?_
  refine lv_iconst (v := 1) F.1 F.2.1 dX4_take_7 (by decide) ?_
  refine lv_isub F.1 F.2.1 dX4_take_8 ?_
  refine x_topi (v := nI ((mW v 0) - 1)) ((pk_sub (a := mW v 0) (b := 1) (by omega)).symm) ?_
  refine x_nastN F hw 1 0 rfl rfl 0 ((mW v 0) - 1) rfl rfl (by omega) (by decide) dX4_take_9 (fun H locs hw => ?_)
  have hw : xW G (xK cI cJ cZ cO) _ s.heap s [(bH B, .inr (4, [.int (mCode v), .ref (bW B), .ref (bIt B), .ref (bCk B), .ref (bNu B), .ref (bKe B), .ref (bTi B), .ref (bGa B), .ref (bOf B), .ref (bNw B), .ref (bCn B), .int (nI (mKp v)), .int (nI (mDn v)), .ref (bDk B), .ref (bDu B), .ref (bDe B), .ref (bDt B), .ref (bDo B)])), (bW B, .inl (cI, 4, .inl (fun j9 => nI (va_up (mW v) 0 ((mW v 0) - 1) j9)))), (bIt B, .inl (cZ, 320, .inl (mIt v))), (bCk B, .inl (cI, 320, .inl (mCk v))), (bNu B, .inl (cI, 320, .inl (mNu v))), (bKe B, .inl (cJ, 320, .inr (.inl (mKe v)))), (bTi B, .inl (cJ, 320, .inr (.inl (mTi v)))), (bGa B, .inl (cJ, 320, .inr (.inl (mGa v)))), (bOf B, .inl (cI, 320, .inl (mOf v))), (bNw B, .inl (cJ, 8, .inr (.inl (mNw v)))), (bCn B, .inl (cI, 16, .inl (mCn v))), (bDk B, .inl (cI, 4000, .inl (mDk v))), (bDu B, .inl (cI, 4000, .inl (mDu v))), (bDe B, .inl (cJ, 4000, .inr (.inl (mDe v)))), (bDt B, .inl (cJ, 4000, .inr (.inl (mDt v)))), (bDo B, .inl (cI, 4000, .inl (mDo v)))] H _ := hw
  have hw : xW G (xK cI cJ cZ cO) _ s.heap s [(bH B, .inr (4, [.int (mCode (mSetW v 0 (mW v 0 - 1))), .ref (bW B), .ref (bIt B), .ref (bCk B), .ref (bNu B), .ref (bKe B), .ref (bTi B), .ref (bGa B), .ref (bOf B), .ref (bNw B), .ref (bCn B), .int (nI (mKp (mSetW v 0 (mW v 0 - 1)))), .int (nI (mDn (mSetW v 0 (mW v 0 - 1)))), .ref (bDk B), .ref (bDu B), .ref (bDe B), .ref (bDt B), .ref (bDo B)])), (bW B, .inl (cI, 4, .inl (fun j9 => nI (mW (mSetW v 0 (mW v 0 - 1)) j9)))), (bIt B, .inl (cZ, 320, .inl (mIt (mSetW v 0 (mW v 0 - 1))))), (bCk B, .inl (cI, 320, .inl (mCk (mSetW v 0 (mW v 0 - 1))))), (bNu B, .inl (cI, 320, .inl (mNu (mSetW v 0 (mW v 0 - 1))))), (bKe B, .inl (cJ, 320, .inr (.inl (mKe (mSetW v 0 (mW v 0 - 1)))))), (bTi B, .inl (cJ, 320, .inr (.inl (mTi (mSetW v 0 (mW v 0 - 1)))))), (bGa B, .inl (cJ, 320, .inr (.inl (mGa (mSetW v 0 (mW v 0 - 1)))))), (bOf B, .inl (cI, 320, .inl (mOf (mSetW v 0 (mW v 0 - 1))))), (bNw B, .inl (cJ, 8, .inr (.inl (mNw (mSetW v 0 (mW v 0 - 1)))))), (bCn B, .inl (cI, 16, .inl (mCn (mSetW v 0 (mW v 0 - 1))))), (bDk B, .inl (cI, 4000, .inl (mDk (mSetW v 0 (mW v 0 - 1))))), (bDu B, .inl (cI, 4000, .inl (mDu (mSetW v 0 (mW v 0 - 1))))), (bDe B, .inl (cJ, 4000, .inr (.inl (mDe (mSetW v 0 (mW v 0 - 1)))))), (bDt B, .inl (cJ, 4000, .inr (.inl (mDt (mSetW v 0 (mW v 0 - 1)))))), (bDo B, .inl (cI, 4000, .inl (mDo (mSetW v 0 (mW v 0 - 1)))))] H _ := hw
  refine lv_aload_n F.1 F.2.1 dX4_take_10 rfl (lv_at hl 0 rfl) ?_
  refine lv_aload_n F.1 F.2.1 dX4_take_11 rfl (lv_at hl 0 rfl) ?_
  refine x_get F hw iX4 0 rfl rfl 1 (by decide) rfl (List.mem_of_getElem? (i := 1) rfl) rfl dX4_take_12 ?_
  refine lv_iconst (v := 0) F.1 F.2.1 dX4_take_15 (by decide) ?_
  refine x_ialdN F hw 1 0 rfl rfl 0 rfl (by omega) (by decide) dX4_take_16 ?_
  refine lv_iload_n F.1 F.2.1 dX4_take_17 rfl (lv_at hl 1 rfl) ?_
  refine x_wv (wr := []) (va_runV (As := [.int (nI (mW (mSetW v 0 (mW v 0 - 1)) 0)), .int (nI i)]) (rest := []) F (c_X4_copy l G cI cJ cZ cO (Array.size _) B (mSetW v 0 (mW v 0 - 1)) (mW (mSetW v 0 (mW v 0 - 1)) 0) i (hz _) (by omega) (by omega)) (cwV 2 F.2.2.2.2 gX4_take_X4_copy rfl rfl rfl (by decide +kernel) ⟨Nat.le_of_ble_eq_true rfl, Nat.le_of_ble_eq_true rfl⟩) (x_preVW hw [0, 1, 2, 3, 4, 5, 6, 7, 8, 9, 10, 11, 12, 13, 14, 15] rfl (by decide) 0 rfl rfl) rfl rfl hl.1 rfl (lv_room (Nat.le_of_ble_eq_true rfl)) dX4_take_18 ⟨Nat.le_of_ble_eq_true rfl, Nat.le_of_ble_eq_true rfl⟩) hw [0, 1, 2, 3, 4, 5, 6, 7, 8, 9, 10, 11, 12, 13, 14, 15] [] rfl rfl (by decide) (by decide) (fun u3 H locs hu3 hw => ?_)
  have hw : xW G (xK cI cJ cZ cO) _ s.heap s [(bH B, .inr (4, [.int (mCode u3), .ref (bW B), .ref (bIt B), .ref (bCk B), .ref (bNu B), .ref (bKe B), .ref (bTi B), .ref (bGa B), .ref (bOf B), .ref (bNw B), .ref (bCn B), .int (nI (mKp u3)), .int (nI (mDn u3)), .ref (bDk B), .ref (bDu B), .ref (bDe B), .ref (bDt B), .ref (bDo B)])), (bW B, .inl (cI, 4, .inl (fun j9 => nI (mW u3 j9)))), (bIt B, .inl (cZ, 320, .inl (mIt u3))), (bCk B, .inl (cI, 320, .inl (mCk u3))), (bNu B, .inl (cI, 320, .inl (mNu u3))), (bKe B, .inl (cJ, 320, .inr (.inl (mKe u3)))), (bTi B, .inl (cJ, 320, .inr (.inl (mTi u3)))), (bGa B, .inl (cJ, 320, .inr (.inl (mGa u3)))), (bOf B, .inl (cI, 320, .inl (mOf u3))), (bNw B, .inl (cJ, 8, .inr (.inl (mNw u3)))), (bCn B, .inl (cI, 16, .inl (mCn u3))), (bDk B, .inl (cI, 4000, .inl (mDk u3))), (bDu B, .inl (cI, 4000, .inl (mDu u3))), (bDe B, .inl (cJ, 4000, .inr (.inl (mDe u3)))), (bDt B, .inl (cJ, 4000, .inr (.inl (mDt u3)))), (bDo B, .inl (cI, 4000, .inl (mDo u3)))] H _ := hw
  subst hu3
  exact x_vret (f := fun u9 : MR => wMo cI cJ cZ B u9) (mTake v i) F hr hlk hw (rfl) dX4_take_21

set_option maxHeartbeats 8000000 in
set_option maxRecDepth 100000 in
/-- find(n) -/
theorem c_X4_find (l : Launch) (G : va_G) (cI cJ cZ cO : ClassId) (sz : Nat) (B : MA) (v : MR) (x : Int32) (hw0 : mW v 0 ≤ 80) : Met l yX4_find wsX4_find ({ frames := 0, cells := 0, slots := 0, locals := 0 }) (xPc G (xK cI cJ cZ cO) sz [.ref (bH B), .int x] (wMo cI cJ cZ B v)) (xQi (fun r => (∃ k, k < mW v 0 ∧ mIt v k ≠ 0 ∧ mNu v k = x ∧ r = nI k) ∨ ((∀ k, k < mW v 0 → mIt v k ≠ 0 → mNu v k ≠ x) ∧ r = -1))) 0 0 (fun _ => False) := by
  refine x_body (by decide) rfl (Nat.le_of_ble_eq_true rfl) ?_
  intro p e s m below meth c F hr hlk hnm hsz hw ls hl
  subst hsz
  have F : CallFix p m c cX4_find 3 s _ wsX4_find RX4 := F
  have hl : lv_has ls 3 [(0, .ref (bH B)), (1, .int x)] := hl
  have hw : xW G (xK cI cJ cZ cO) _ s.heap s [(bH B, .inr (4, [.int (mCode v), .ref (bW B), .ref (bIt B), .ref (bCk B), .ref (bNu B), .ref (bKe B), .ref (bTi B), .ref (bGa B), .ref (bOf B), .ref (bNw B), .ref (bCn B), .int (nI (mKp v)), .int (nI (mDn v)), .ref (bDk B), .ref (bDu B), .ref (bDe B), .ref (bDt B), .ref (bDo B)])), (bW B, .inl (cI, 4, .inl (fun j9 => nI (mW v j9)))), (bIt B, .inl (cZ, 320, .inl (mIt v))), (bCk B, .inl (cI, 320, .inl (mCk v))), (bNu B, .inl (cI, 320, .inl (mNu v))), (bKe B, .inl (cJ, 320, .inr (.inl (mKe v)))), (bTi B, .inl (cJ, 320, .inr (.inl (mTi v)))), (bGa B, .inl (cJ, 320, .inr (.inl (mGa v)))), (bOf B, .inl (cI, 320, .inl (mOf v))), (bNw B, .inl (cJ, 8, .inr (.inl (mNw v)))), (bCn B, .inl (cI, 16, .inl (mCn v))), (bDk B, .inl (cI, 4000, .inl (mDk v))), (bDu B, .inl (cI, 4000, .inl (mDu v))), (bDe B, .inl (cJ, 4000, .inr (.inl (mDe v)))), (bDt B, .inl (cJ, 4000, .inr (.inl (mDt v)))), (bDo B, .inl (cI, 4000, .inl (mDo v)))] s.heap [] := hw
  have iX4 : ∀ w ∈ wsX40, w ∈ wsX4_find := by decide +kernel
  refine lv_iconst (v := 0) F.1 F.2.1 dX4_find_0 (by decide) ?_
  refine lv_istore_n (lv' := [(2, .int 0), (0, .ref (bH B)), (1, .int x)]) F.1 F.2.1 dX4_find_1 rfl hl (by decide) rfl (fun ls hl => ?_)
  refine x_rec0 (α := Nat) (fun a9 => mW v 0 - a9) (fun a9 ls => lv_has ls 3 [(0, .ref (bH B)), (1, .int x), (2, .int (nI a9))] ∧ a9 ≤ mW v 0 ∧ ∀ k, k < a9 → mIt v k ≠ 0 → mNu v k ≠ x) ?_ (0) ⟨lv_sub hl [1, 2, 0] rfl, Nat.zero_le _, fun k hk => absurd hk (Nat.not_lt_zero k)⟩
  rintro i ls ⟨hl, hi, hno⟩ ih
  have hl : lv_has ls 3 [(0, .ref (bH B)), (1, .int x), (2, .int (nI i))] := hl
  refine lv_iload_n F.1 F.2.1 dX4_find_2 rfl (lv_at hl 2 rfl) ?_
  refine lv_aload_n F.1 F.2.1 dX4_find_3 rfl (lv_at hl 0 rfl) ?_
  refine x_get F hw iX4 0 rfl rfl 1 (by decide) rfl (List.mem_of_getElem? (i := 1) rfl) rfl dX4_find_4 ?_
  refine lv_iconst (v := 0) F.1 F.2.1 dX4_find_7 (by decide) ?_
  refine x_ialdN F hw 1 0 rfl rfl 0 rfl (by omega) (by decide) dX4_find_8 ?_
  refine lv_icmp_ge (tgt := 39) F.1 F.2.1 dX4_find_9 (by decide) (fun c9 => ?_) (fun c9 => ?_)
  · refine lv_iconst (v := (-1)) F.1 F.2.1 dX4_find_39 (by decide) ?_
    exact x_riret F hr hlk (Or.inr ⟨fun k hk => hno k (by have h9 := x_le (by omega) (by omega) c9; omega), rfl⟩) dX4_find_40
  · have hlt : i < mW v 0 := x_nle (by omega) (by omega) c9
    refine lv_aload_n F.1 F.2.1 dX4_find_12 rfl (lv_at hl 0 rfl) ?_
    refine x_get F hw iX4 0 rfl rfl 2 (by decide) rfl (List.mem_of_getElem? (i := 2) rfl) rfl dX4_find_13 ?_
    refine lv_iload_n F.1 F.2.1 dX4_find_16 rfl (lv_at hl 2 rfl) ?_
    refine x_zaldN F hw 2 2 rfl rfl i rfl (by omega) (by decide) dX4_find_17 ?_
    refine lv_if_eq (tgt := 33) F.1 F.2.1 dX4_find_18 (by decide) (fun c18 => ?_) (fun c18 => ?_)
    · refine lv_iinc (v := nI (i + 1)) (lv' := [(2, .int (nI (i + 1))), (0, .ref (bH B)), (1, .int x)]) F.1 F.2.1 dX4_find_33 hl (k := 2) rfl (by rw [show Int32.ofInt 1 = 1 from rfl]; exact nI_1 _) (by decide) rfl (fun ls hl => ?_)
      refine lv_goto (tgt := 2) F.1 F.2.1 dX4_find_36 (by decide) ?_
      exact ih (i + 1) _ (by omega) ⟨lv_sub hl [1, 2, 0] rfl, by omega, x_upto hno (fun h => absurd c18 h)⟩
    · refine lv_aload_n F.1 F.2.1 dX4_find_21 rfl (lv_at hl 0 rfl) ?_
      refine x_get F hw iX4 0 rfl rfl 4 (by decide) rfl (List.mem_of_getElem? (i := 3) rfl) rfl dX4_find_22 ?_
      refine lv_iload_n F.1 F.2.1 dX4_find_25 rfl (lv_at hl 2 rfl) ?_
      refine x_ialdN F hw 4 0 rfl rfl i rfl (by omega) (by decide) dX4_find_26 ?_
      refine lv_iload_n F.1 F.2.1 dX4_find_27 rfl (lv_at hl 1 rfl) ?_
      refine lv_icmp_ne (tgt := 33) F.1 F.2.1 dX4_find_28 (by decide) (fun c28 => ?_) (fun c28 => ?_)
      · refine lv_iinc (v := nI (i + 1)) (lv' := [(2, .int (nI (i + 1))), (0, .ref (bH B)), (1, .int x)]) F.1 F.2.1 dX4_find_33 hl (k := 2) rfl (by rw [show Int32.ofInt 1 = 1 from rfl]; exact nI_1 _) (by decide) rfl (fun ls hl => ?_)
        refine lv_goto (tgt := 2) F.1 F.2.1 dX4_find_36 (by decide) ?_
        exact ih (i + 1) _ (by omega) ⟨lv_sub hl [1, 2, 0] rfl, by omega, x_upto hno (fun _ => c28)⟩
      · refine lv_iload_n F.1 F.2.1 dX4_find_31 rfl (lv_at hl 2 rfl) ?_
        exact x_riret F hr hlk (Or.inl ⟨i, hlt, c18, c28, rfl⟩) dX4_find_32
