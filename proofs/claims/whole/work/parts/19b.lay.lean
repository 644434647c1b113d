set_option maxHeartbeats 8000000 in
set_option maxRecDepth 100000 in
/-- lay(from, to) -/
theorem c_X4_lay (l : Launch) (G : va_G) (cI cJ cZ cO : ClassId) (sz : Nat) (B : MA) (v : MR) (f t : Nat) (hz : ∀ j, mIt v j = 0 ∨ mIt v j = 1) (hf : f < 4) (ht : t < 4) (hne : f ≠ t) (hwf : mW v f ≤ 80) : Met l yX4_lay wsX4_lay ({ frames := 1, cells := 0, slots := 0, locals := 22 }) (xPc G (xK cI cJ cZ cO) sz [.ref (bH B), .int (nI f), .int (nI t)] (wMo cI cJ cZ B v)) (va_Qv (fun u2 => u2 = mLay v f t) (xB G (xK cI cJ cZ cO) (wMo cI cJ cZ B v) sz (fun u9 : MR => wMo cI cJ cZ B u9)) (va_A (wMo cI cJ cZ B v) sz)) 0 0 (va_A (wMo cI cJ cZ B v) sz) := by
  refine x_body (by decide) rfl (Nat.le_of_ble_eq_true rfl) ?_
  intro p e s m below meth c F hr hlk hnm hsz hw ls hl
  subst hsz
  have F : CallFix p m c cX4_lay 4 s _ wsX4_lay RX4 := F
  have hl : lv_has ls 4 [(0, .ref (bH B)), (1, .int (nI f)), (2, .int (nI t))] := hl
  have hw : xW G (xK cI cJ cZ cO) _ s.heap s [(bH B, .inr (4, [.int (mCode v), .ref (bW B), .ref (bIt B), .ref (bCk B), .ref (bNu B), .ref (bKe B), .ref (bTi B), .ref (bGa B), .ref (bOf B), .ref (bNw B), .ref (bCn B), .int (nI (mKp v)), .int (nI (mDn v)), .ref (bDk B), .ref (bDu B), .ref (bDe B), .ref (bDt B), .ref (bDo B)])), (bW B, .inl (cI, 4, .inl (fun j9 => nI (mW v j9)))), (bIt B, .inl (cZ, 320, .inl (mIt v))), (bCk B, .inl (cI, 320, .inl (mCk v))), (bNu B, .inl (cI, 320, .inl (mNu v))), (bKe B, .inl (cJ, 320, .inr (.inl (mKe v)))), (bTi B, .inl (cJ, 320, .inr (.inl (mTi v)))), (bGa B, .inl (cJ, 320, .inr (.inl (mGa v)))), (bOf B, .inl (cI, 320, .inl (mOf v))), (bNw B, .inl (cJ, 8, .inr (.inl (mNw v)))), (bCn B, .inl (cI, 16, .inl (mCn v))), (bDk B, .inl (cI, 4000, .inl (mDk v))), (bDu B, .inl (cI, 4000, .inl (mDu v))), (bDe B, .inl (cJ, 4000, .inr (.inl (mDe v)))), (bDt B, .inl (cJ, 4000, .inr (.inl (mDt v)))), (bDo B, .inl (cI, 4000, .inl (mDo v)))] s.heap [] := hw
  have iX4 : ∀ w ∈ wsX40, w ∈ wsX4_lay := by decide +kernel
  refine lv_aload_n F.1 F.2.1 dX4_lay_0 rfl (lv_at hl 0 rfl) ?_
  refine x_get F hw iX4 0 rfl rfl 1 (by decide) rfl (List.mem_of_getElem? (i := 1) rfl) rfl dX4_lay_1 ?_
  refine lv_iload_n F.1 F.2.1 dX4_lay_4 rfl (lv_at hl 2 rfl) ?_
  refine lv_aload_n F.1 F.2.1 dX4_lay_5 rfl (lv_at hl 0 rfl) ?_
  refine x_get F hw iX4 0 rfl rfl 1 (by decide) rfl (List.mem_of_getElem? (i := 1) rfl) rfl dX4_lay_6 ?_
  refine lv_iload_n F.1 F.2.1 dX4_lay_9 rfl (lv_at hl 1 rfl) ?_
  refine x_ialdN F hw 1 0 rfl rfl f rfl (by omega) (by decide) dX4_lay_10 ?_
  refine x_nastN F hw 1 0 rfl rfl t (mW v f) rfl rfl (by omega) (by decide) dX4_lay_11 (fun H locs hw => ?_)
  have hw : xW G (xK cI cJ cZ cO) _ s.heap s [(bH B, .inr (4, [.int (mCode v), .ref (bW B), .ref (bIt B), .ref (bCk B), .ref (bNu B), .ref (bKe B), .ref (bTi B), .ref (bGa B), .ref (bOf B), .ref (bNw B), .ref (bCn B), .int (nI (mKp v)), .int (nI (mDn v)), .ref (bDk B), .ref (bDu B), .ref (bDe B), .ref (bDt B), .ref (bDo B)])), (bW B, .inl (cI, 4, .inl (fun j9 => nI (va_up (mW v) t (mW v f) j9)))), (bIt B, .inl (cZ, 320, .inl (mIt v))), (bCk B, .inl (cI, 320, .inl (mCk v))), (bNu B, .inl (cI, 320, .inl (mNu v))), (bKe B, .inl (cJ, 320, .inr (.inl (mKe v)))), (bTi B, .inl (cJ, 320, .inr (.inl (mTi v)))), (bGa B, .inl (cJ, 320, .inr (.inl (mGa v)))), (bOf B, .inl (cI, 320, .inl (mOf v))), (bNw B, .inl (cJ, 8, .inr (.inl (mNw v)))), (bCn B, .inl (cI, 16, .inl (mCn v))), (bDk B, .inl (cI, 4000, .inl (mDk v))), (bDu B, .inl (cI, 4000, .inl (mDu v))), (bDe B, .inl (cJ, 4000, .inr (.inl (mDe v)))), (bDt B, .inl (cJ, 4000, .inr (.inl (mDt v)))), (bDo B, .inl (cI, 4000, .inl (mDo v)))] H _ := hw
  refine lv_iconst (v := 0) F.1 F.2.1 dX4_lay_12 (by decide) ?_
  refine lv_istore_n (lv' := [(3, .int 0), (0, .ref (bH B)), (1, .int (nI f)), (2, .int (nI t))]) F.1 F.2.1 dX4_lay_13 rfl hl (by decide) rfl (fun ls hl => ?_)
  refine x_rec (α := Nat × MR) (fun a9 => mW v f - a9.1) (fun a9 H locs ls => lv_has ls 4 [(0, .ref (bH B)), (1, .int (nI f)), (2, .int (nI t)), (3, .int (nI a9.1))] ∧ xW G (xK cI cJ cZ cO) _ s.heap s [(bH B, .inr (4, [.int (mCode a9.2), .ref (bW B), .ref (bIt B), .ref (bCk B), .ref (bNu B), .ref (bKe B), .ref (bTi B), .ref (bGa B), .ref (bOf B), .ref (bNw B), .ref (bCn B), .int (nI (mKp a9.2)), .int (nI (mDn a9.2)), .ref (bDk B), .ref (bDu B), .ref (bDe B), .ref (bDt B), .ref (bDo B)])), (bW B, .inl (cI, 4, .inl (fun j9 => nI (mW a9.2 j9)))), (bIt B, .inl (cZ, 320, .inl (mIt a9.2))), (bCk B, .inl (cI, 320, .inl (mCk a9.2))), (bNu B, .inl (cI, 320, .inl (mNu a9.2))), (bKe B, .inl (cJ, 320, .inr (.inl (mKe a9.2)))), (bTi B, .inl (cJ, 320, .inr (.inl (mTi a9.2)))), (bGa B, .inl (cJ, 320, .inr (.inl (mGa a9.2)))), (bOf B, .inl (cI, 320, .inl (mOf a9.2))), (bNw B, .inl (cJ, 8, .inr (.inl (mNw a9.2)))), (bCn B, .inl (cI, 16, .inl (mCn a9.2))), (bDk B, .inl (cI, 4000, .inl (mDk a9.2))), (bDu B, .inl (cI, 4000, .inl (mDu a9.2))), (bDe B, .inl (cJ, 4000, .inr (.inl (mDe a9.2)))), (bDt B, .inl (cJ, 4000, .inr (.inl (mDt a9.2)))), (bDo B, .inl (cI, 4000, .inl (mDo a9.2)))] H locs ∧ a9.1 ≤ mW v f ∧ a9.2 = mCps (mSetW v t (mW v f)) f t a9.1) ?_ ((0, (mSetW v t (mW v f)))) ⟨lv_sub hl [1, 2, 3, 0] rfl, hw, Nat.zero_le _, rfl⟩
  rintro ⟨i, z⟩ H locs ls ⟨hl, hw, hi, hz9⟩ ih
  try dsimp only at hi hz9
  have hwz : mW z f = mW v f := by rw [hz9, mCps_w]; exact va_up_ne (mW v) (mW v f) hne
  have hl : lv_has ls 4 [(0, .ref (bH B)), (1, .int (nI f)), (2, .int (nI t)), (3, .int (nI i))] := hl
  have hw : xW G (xK cI cJ cZ cO) _ s.heap s [(bH B, .inr (4, [.int (mCode z), .ref (bW B), .ref (bIt B), .ref (bCk B), .ref (bNu B), .ref (bKe B), .ref (bTi B), .ref (bGa B), .ref (bOf B), .ref (bNw B), .ref (bCn B), .int (nI (mKp z)), .int (nI (mDn z)), .ref (bDk B), .ref (bDu B), .ref (bDe B), .ref (bDt B), .ref (bDo B)])), (bW B, .inl (cI, 4, .inl (fun j9 => nI (mW z j9)))), (bIt B, .inl (cZ, 320, .inl (mIt z))), (bCk B, .inl (cI, 320, .inl (mCk z))), (bNu B, .inl (cI, 320, .inl (mNu z))), (bKe B, .inl (cJ, 320, .inr (.inl (mKe z)))), (bTi B, .inl (cJ, 320, .inr (.inl (mTi z)))), (bGa B, .inl (cJ, 320, .inr (.inl (mGa z)))), (bOf B, .inl (cI, 320, .inl (mOf z))), (bNw B, .inl (cJ, 8, .inr (.inl (mNw z)))), (bCn B, .inl (cI, 16, .inl (mCn z))), (bDk B, .inl (cI, 4000, .inl (mDk z))), (bDu B, .inl (cI, 4000, .inl (mDu z))), (bDe B, .inl (cJ, 4000, .inr (.inl (mDe z)))), (bDt B, .inl (cJ, 4000, .inr (.inl (mDt z)))), (bDo B, .inl (cI, 4000, .inl (mDo z)))] H _ := hw
  refine lv_iload_n F.1 F.2.1 dX4_lay_14 rfl (lv_at hl 3 rfl) ?_
  refine lv_aload_n F.1 F.2.1 dX4_lay_15 rfl (lv_at hl 0 rfl) ?_
  refine x_get F hw iX4 0 rfl rfl 1 (by decide) rfl (List.mem_of_getElem? (i := 1) rfl) rfl dX4_lay_16 ?_
  refine lv_iload_n F.1 F.2.1 dX4_lay_19 rfl (lv_at hl 1 rfl) ?_
  refine x_ialdN F hw 1 0 rfl rfl f rfl (by omega) (by decide) dX4_lay_20 ?_
  refine lv_icmp_ge (tgt := 46) F.1 F.2.1 dX4_lay_21 (by decide) (fun c21 => ?_) (fun c21 => ?_)
  · have hie : i = mW v f := by have h9 := x_le (a := mW z f) (by omega) (by omega) c21; omega
    refine lv_aload_n F.1 F.2.1 dX4_lay_46 rfl (lv_at hl 0 rfl) ?_
    refine x_get F hw iX4 0 rfl rfl 9 (by decide) rfl (List.mem_of_getElem? (i := 2) rfl) rfl dX4_lay_47 ?_
    refine lv_iconst (v := 2) F.1 F.2.1 dX4_lay_50 (by decide) ?_
    refine lv_iload_n F.1 F.2.1 dX4_lay_51 rfl (lv_at hl 2 rfl) ?_
    refine lv_imul F.1 F.2.1 dX4_lay_52 ?_
    refine x_topi (v := nI (2 * t)) ((pk_mul 2 t).symm) ?_
    refine lv_aload_n F.1 F.2.1 dX4_lay_53 rfl (lv_at hl 0 rfl) ?_
    refine x_get F hw iX4 0 rfl rfl 9 (by decide) rfl (List.mem_of_getElem? (i := 2) rfl) rfl dX4_lay_54 ?_
    refine lv_iconst (v := 2) F.1 F.2.1 dX4_lay_57 (by decide) ?_
    refine lv_iload_n F.1 F.2.1 dX4_lay_58 rfl (lv_at hl 1 rfl) ?_
    refine lv_imul F.1 F.2.1 dX4_lay_59 ?_
    refine x_topi (v := nI (2 * f)) ((pk_mul 2 f).symm) ?_
    refine x_laldN F hw 9 1 rfl rfl (2 * f) rfl (by omega) (by decide) dX4_lay_60 ?_
    refine x_lastN F hw 9 1 rfl rfl (2 * t) rfl (by omega) (by decide) dX4_lay_61 (fun H locs hw => ?_)
    have hw : xW G (xK cI cJ cZ cO) _ s.heap s [(bH B, .inr (4, [.int (mCode z), .ref (bW B), .ref (bIt B), .ref (bCk B), .ref (bNu B), .ref (bKe B), .ref (bTi B), .ref (bGa B), .ref (bOf B), .ref (bNw B), .ref (bCn B), .int (nI (mKp z)), .int (nI (mDn z)), .ref (bDk B), .ref (bDu B), .ref (bDe B), .ref (bDt B), .ref (bDo B)])), (bW B, .inl (cI, 4, .inl (fun j9 => nI (mW z j9)))), (bIt B, .inl (cZ, 320, .inl (mIt z))), (bCk B, .inl (cI, 320, .inl (mCk z))), (bNu B, .inl (cI, 320, .inl (mNu z))), (bKe B, .inl (cJ, 320, .inr (.inl (mKe z)))), (bTi B, .inl (cJ, 320, .inr (.inl (mTi z)))), (bGa B, .inl (cJ, 320, .inr (.inl (mGa z)))), (bOf B, .inl (cI, 320, .inl (mOf z))), (bNw B, .inl (cJ, 8, .inr (.inl (vp_updL (mNw z) (2 * t) (mNw z (2 * f)))))), (bCn B, .inl (cI, 16, .inl (mCn z))), (bDk B, .inl (cI, 4000, .inl (mDk z))), (bDu B, .inl (cI, 4000, .inl (mDu z))), (bDe B, .inl (cJ, 4000, .inr (.inl (mDe z)))), (bDt B, .inl (cJ, 4000, .inr (.inl (mDt z)))), (bDo B, .inl (cI, 4000, .inl (mDo z)))] H _ := hw
    refine lv_aload_n F.1 F.2.1 dX4_lay_62 rfl (lv_at hl 0 rfl) ?_
    refine x_get F hw iX4 0 rfl rfl 9 (by decide) rfl (List.mem_of_getElem? (i := 2) rfl) rfl dX4_lay_63 ?_
    refine lv_iconst (v := 2) F.1 F.2.1 dX4_lay_66 (by decide) ?_
    refine lv_iload_n F.1 F.2.1 dX4_lay_67 rfl (lv_at hl 2 rfl) ?_
    refine lv_imul F.1 F.2.1 dX4_lay_68 ?_
    refine x_topi (v := nI (2 * t)) ((pk_mul 2 t).symm) ?_
    refine lv_iconst (v := 1) F.1 F.2.1 dX4_lay_69 (by decide) ?_
    refine lv_iadd F.1 F.2.1 dX4_lay_70 ?_
    refine x_topi (v := nI ((2 * t) + 1)) ((nI_add (2 * t) 1).symm) ?_
    refine lv_aload_n F.1 F.2.1 dX4_lay_71 rfl (lv_at hl 0 rfl) ?_
    refine x_get F hw iX4 0 rfl rfl 9 (by decide) rfl (List.mem_of_getElem? (i := 2) rfl) rfl dX4_lay_72 ?_
    refine lv_iconst (v := 2) F.1 F.2.1 dX4_lay_75 (by decide) ?_
    refine lv_iload_n F.1 F.2.1 dX4_lay_76 rfl (lv_at hl 1 rfl) ?_
    refine lv_imul F.1 F.2.1 dX4_lay_77 ?_
    refine x_topi (v := nI (2 * f)) ((pk_mul 2 f).symm) ?_
    refine lv_iconst (v := 1) F.1 F.2.1 dX4_lay_78 (by decide) ?_
    refine lv_iadd F.1 F.2.1 dX4_lay_79 ?_
    refine x_topi (v := nI ((2 * f) + 1)) ((nI_add (2 * f) 1).symm) ?_
    refine x_laldN F hw 9 1 rfl rfl ((2 * f) + 1) rfl (by omega) (by decide) dX4_lay_80 ?_
    refine x_lastN F hw 9 1 rfl rfl ((2 * t) + 1) rfl (by omega) (by decide) dX4_lay_81 (fun H locs hw => ?_)
    have hw : xW G (xK cI cJ cZ cO) _ s.heap s [(bH B, .inr (4, [.int (mCode z), .ref (bW B), .ref (bIt B), .ref (bCk B), .ref (bNu B), .ref (bKe B), .ref (bTi B), .ref (bGa B), .ref (bOf B), .ref (bNw B), .ref (bCn B), .int (nI (mKp z)), .int (nI (mDn z)), .ref (bDk B), .ref (bDu B), .ref (bDe B), .ref (bDt B), .ref (bDo B)])), (bW B, .inl (cI, 4, .inl (fun j9 => nI (mW z j9)))), (bIt B, .inl (cZ, 320, .inl (mIt z))), (bCk B, .inl (cI, 320, .inl (mCk z))), (bNu B, .inl (cI, 320, .inl (mNu z))), (bKe B, .inl (cJ, 320, .inr (.inl (mKe z)))), (bTi B, .inl (cJ, 320, .inr (.inl (mTi z)))), (bGa B, .inl (cJ, 320, .inr (.inl (mGa z)))), (bOf B, .inl (cI, 320, .inl (mOf z))), (bNw B, .inl (cJ, 8, .inr (.inl (vp_updL (vp_updL (mNw z) (2 * t) (mNw z (2 * f))) ((2 * t) + 1) (vp_updL (mNw z) (2 * t) (mNw z (2 * f)) ((2 * f) + 1)))))), (bCn B, .inl (cI, 16, .inl (mCn z))), (bDk B, .inl (cI, 4000, .inl (mDk z))), (bDu B, .inl (cI, 4000, .inl (mDu z))), (bDe B, .inl (cJ, 4000, .inr (.inl (mDe z)))), (bDt B, .inl (cJ, 4000, .inr (.inl (mDt z)))), (bDo B, .inl (cI, 4000, .inl (mDo z)))] H _ := hw
    refine lv_iconst (v := 0) F.1 F.2.1 dX4_lay_82 (by decide) ?_
    refine lv_istore_n (lv' := [(3, .int 0), (0, .ref (bH B)), (1, .int (nI f)), (2, .int (nI t))]) F.1 F.2.1 dX4_lay_83 rfl hl (by decide) rfl (fun ls hl => ?_)
    refine x_rec (α := Nat × MR) (fun a9 => 4 - a9.1) (fun a9 H locs ls => lv_has ls 4 [(0, .ref (bH B)), (1, .int (nI f)), (2, .int (nI t)), (3, .int (nI a9.1))] ∧ xW G (xK cI cJ cZ cO) _ s.heap s [(bH B, .inr (4, [.int (mCode a9.2), .ref (bW B), .ref (bIt B), .ref (bCk B), .ref (bNu B), .ref (bKe B), .ref (bTi B), .ref (bGa B), .ref (bOf B), .ref (bNw B), .ref (bCn B), .int (nI (mKp a9.2)), .int (nI (mDn a9.2)), .ref (bDk B), .ref (bDu B), .ref (bDe B), .ref (bDt B), .ref (bDo B)])), (bW B, .inl (cI, 4, .inl (fun j9 => nI (mW a9.2 j9)))), (bIt B, .inl (cZ, 320, .inl (mIt a9.2))), (bCk B, .inl (cI, 320, .inl (mCk a9.2))), (bNu B, .inl (cI, 320, .inl (mNu a9.2))), (bKe B, .inl (cJ, 320, .inr (.inl (mKe a9.2)))), (bTi B, .inl (cJ, 320, .inr (.inl (mTi a9.2)))), (bGa B, .inl (cJ, 320, .inr (.inl (mGa a9.2)))), (bOf B, .inl (cI, 320, .inl (mOf a9.2))), (bNw B, .inl (cJ, 8, .inr (.inl (mNw a9.2)))), (bCn B, .inl (cI, 16, .inl (mCn a9.2))), (bDk B, .inl (cI, 4000, .inl (mDk a9.2))), (bDu B, .inl (cI, 4000, .inl (mDu a9.2))), (bDe B, .inl (cJ, 4000, .inr (.inl (mDe a9.2)))), (bDt B, .inl (cJ, 4000, .inr (.inl (mDt a9.2)))), (bDo B, .inl (cI, 4000, .inl (mDo a9.2)))] H locs ∧ a9.1 ≤ 4 ∧ a9.2 = mCnts (mNows z f t) f t a9.1) ?_ ((0, mNows z f t)) ⟨lv_sub hl [1, 2, 3, 0] rfl, hw, Nat.zero_le _, rfl⟩
    rintro ⟨k, y⟩ H locs ls ⟨hl, hw, hk, hy9⟩ ih
    try dsimp only at hk hy9
    have hl : lv_has ls 4 [(0, .ref (bH B)), (1, .int (nI f)), (2, .int (nI t)), (3, .int (nI k))] := hl
    have hw : xW G (xK cI cJ cZ cO) _ s.heap s [(bH B, .inr (4, [.int (mCode y), .ref (bW B), .ref (bIt B), .ref (bCk B), .ref (bNu B), .ref (bKe B), .ref (bTi B), .ref (bGa B), .ref (bOf B), .ref (bNw B), .ref (bCn B), .int (nI (mKp y)), .int (nI (mDn y)), .ref (bDk B), .ref (bDu B), .ref (bDe B), .ref (bDt B), .ref (bDo B)])), (bW B, .inl (cI, 4, .inl (fun j9 => nI (mW y j9)))), (bIt B, .inl (cZ, 320, .inl (mIt y))), (bCk B, .inl (cI, 320, .inl (mCk y))), (bNu B, .inl (cI, 320, .inl (mNu y))), (bKe B, .inl (cJ, 320, .inr (.inl (mKe y)))), (bTi B, .inl (cJ, 320, .inr (.inl (mTi y)))), (bGa B, .inl (cJ, 320, .inr (.inl (mGa y)))), (bOf B, .inl (cI, 320, .inl (mOf y))), (bNw B, .inl (cJ, 8, .inr (.inl (mNw y)))), (bCn B, .inl (cI, 16, .inl (mCn y))), (bDk B, .inl (cI, 4000, .inl (mDk y))), (bDu B, .inl (cI, 4000, .inl (mDu y))), (bDe B, .inl (cJ, 4000, .inr (.inl (mDe y)))), (bDt B, .inl (cJ, 4000, .inr (.inl (mDt y)))), (bDo B, .inl (cI, 4000, .inl (mDo y)))] H _ := hw
    refine lv_iload_n F.1 F.2.1 dX4_lay_84 rfl (lv_at hl 3 rfl) ?_
    refine lv_iconst (v := 4) F.1 F.2.1 dX4_lay_85 (by decide) ?_
    refine lv_icmp_ge (tgt := 115) F.1 F.2.1 dX4_lay_86 (by decide) (fun c86 => ?_) (fun c86 => ?_)
    · exact x_vret (f := fun u9 : MR => wMo cI cJ cZ B u9) y F hr hlk hw (by have h9 := x_le (a := 4) (by omega) (by omega) c86; rw [hy9, hz9, hie, show k = 4 by omega]; rfl) dX4_lay_115
    · have hk4 : k < 4 := x_nle (a := 4) (by omega) (by omega) c86
      refine lv_aload_n F.1 F.2.1 dX4_lay_89 rfl (lv_at hl 0 rfl) ?_
      refine x_get F hw iX4 0 rfl rfl 10 (by decide) rfl (List.mem_of_getElem? (i := 3) rfl) rfl dX4_lay_90 ?_
      refine lv_iconst (v := 4) F.1 F.2.1 dX4_lay_93 (by decide) ?_
      refine lv_iload_n F.1 F.2.1 dX4_lay_94 rfl (lv_at hl 2 rfl) ?_
      refine lv_imul F.1 F.2.1 dX4_lay_95 ?_
      refine x_topi (v := nI (4 * t)) ((pk_mul 4 t).symm) ?_
      refine lv_iload_n F.1 F.2.1 dX4_lay_96 rfl (lv_at hl 3 rfl) ?_
      refine lv_iadd F.1 F.2.1 dX4_lay_97 ?_
      refine x_topi (v := nI ((4 * t) + k)) ((nI_add (4 * t) k).symm) ?_
      refine lv_aload_n F.1 F.2.1 dX4_lay_98 rfl (lv_at hl 0 rfl) ?_
      refine x_get F hw iX4 0 rfl rfl 10 (by decide) rfl (List.mem_of_getElem? (i := 3) rfl) rfl dX4_lay_99 ?_
      refine lv_iconst (v := 4) F.1 F.2.1 dX4_lay_102 (by decide) ?_
      refine lv_iload_n F.1 F.2.1 dX4_lay_103 rfl (lv_at hl 1 rfl) ?_
      refine lv_imul F.1 F.2.1 dX4_lay_104 ?_
      refine x_topi (v := nI (4 * f)) ((pk_mul 4 f).symm) ?_
      refine lv_iload_n F.1 F.2.1 dX4_lay_105 rfl (lv_at hl 3 rfl) ?_
      refine lv_iadd F.1 F.2.1 dX4_lay_106 ?_
      refine x_topi (v := nI ((4 * f) + k)) ((nI_add (4 * f) k).symm) ?_
      refine x_ialdN F hw 10 0 rfl rfl ((4 * f) + k) rfl (by omega) (by decide) dX4_lay_107 ?_
      refine x_iastN F hw 10 0 rfl rfl ((4 * t) + k) rfl (by omega) (by decide) dX4_lay_108 (fun H locs hw => ?_)
      have hw : xW G (xK cI cJ cZ cO) _ s.heap s [(bH B, .inr (4, [.int (mCode y), .ref (bW B), .ref (bIt B), .ref (bCk B), .ref (bNu B), .ref (bKe B), .ref (bTi B), .ref (bGa B), .ref (bOf B), .ref (bNw B), .ref (bCn B), .int (nI (mKp y)), .int (nI (mDn y)), .ref (bDk B), .ref (bDu B), .ref (bDe B), .ref (bDt B), .ref (bDo B)])), (bW B, .inl (cI, 4, .inl (fun j9 => nI (mW y j9)))), (bIt B, .inl (cZ, 320, .inl (mIt y))), (bCk B, .inl (cI, 320, .inl (mCk y))), (bNu B, .inl (cI, 320, .inl (mNu y))), (bKe B, .inl (cJ, 320, .inr (.inl (mKe y)))), (bTi B, .inl (cJ, 320, .inr (.inl (mTi y)))), (bGa B, .inl (cJ, 320, .inr (.inl (mGa y)))), (bOf B, .inl (cI, 320, .inl (mOf y))), (bNw B, .inl (cJ, 8, .inr (.inl (mNw y)))), (bCn B, .inl (cI, 16, .inl (upd (mCn y) ((4 * t) + k) (mCn y ((4 * f) + k))))), (bDk B, .inl (cI, 4000, .inl (mDk y))), (bDu B, .inl (cI, 4000, .inl (mDu y))), (bDe B, .inl (cJ, 4000, .inr (.inl (mDe y)))), (bDt B, .inl (cJ, 4000, .inr (.inl (mDt y)))), (bDo B, .inl (cI, 4000, .inl (mDo y)))] H _ := hw
      refine lv_iinc (v := nI (k + 1)) (lv' := [(3, .int (nI (k + 1))), (0, .ref (bH B)), (1, .int (nI f)), (2, .int (nI t))]) F.1 F.2.1 dX4_lay_109 hl (k := 3) rfl (by rw [show Int32.ofInt 1 = 1 from rfl]; exact nI_1 _) (by decide) rfl (fun ls hl => ?_)
      refine lv_goto (tgt := 84) F.1 F.2.1 dX4_lay_112 (by decide) ?_
      exact ih ((k + 1, mSetCn y (4 * t + k) (mCn y (4 * f + k)))) _ _ _ (by simp only []; omega) ⟨lv_sub hl [1, 2, 3, 0] rfl, hw, by omega, by simp only []; rw [hy9]; rfl⟩
  · have hlt : i < mW v f := by have h9 := x_nle (a := mW z f) (by omega) (by omega) c21; omega
    refine lv_aload_n F.1 F.2.1 dX4_lay_24 rfl (lv_at hl 0 rfl) ?_
    refine lv_bipush (v := 80) F.1 F.2.1 dX4_lay_25 (by decide) ?_
    refine lv_iload_n F.1 F.2.1 dX4_lay_27 rfl (lv_at hl 1 rfl) ?_
    refine lv_imul F.1 F.2.1 dX4_lay_28 ?_
    refine x_topi (v := nI (80 * f)) ((pk_mul 80 f).symm) ?_
    refine lv_iload_n F.1 F.2.1 dX4_lay_29 rfl (lv_at hl 3 rfl) ?_
    refine lv_iadd F.1 F.2.1 dX4_lay_30 ?_
    refine x_topi (v := nI ((80 * f) + i)) ((nI_add (80 * f) i).symm) ?_
    refine lv_bipush (v := 80) F.1 F.2.1 dX4_lay_31 (by decide) ?_
    refine lv_iload_n F.1 F.2.1 dX4_lay_33 rfl (lv_at hl 2 rfl) ?_
    refine lv_imul F.1 F.2.1 dX4_lay_34 ?_
    refine x_topi (v := nI (80 * t)) ((pk_mul 80 t).symm) ?_
    refine lv_iload_n F.1 F.2.1 dX4_lay_35 rfl (lv_at hl 3 rfl) ?_
    refine lv_iadd F.1 F.2.1 dX4_lay_36 ?_
    refine x_topi (v := nI ((80 * t) + i)) ((nI_add (80 * t) i).symm) ?_
    refine x_wv (wr := []) (va_runV (As := [.int (nI ((80 * f) + i)), .int (nI ((80 * t) + i))]) (rest := []) F (c_X4_copy l G cI cJ cZ cO (Array.size H) B z (80 * f + i) (80 * t + i) (by rw [hz9]; exact mCps_z (v := (mSetW v t (mW v f))) hz i _) (by omega) (by omega)) (cwV 2 F.2.2.2.2 gX4_lay_X4_copy rfl rfl rfl (by decide +kernel) ⟨Nat.le_of_ble_eq_true rfl, Nat.le_of_ble_eq_true rfl⟩) (x_preVW hw [0, 1, 2, 3, 4, 5, 6, 7, 8, 9, 10, 11, 12, 13, 14, 15] rfl (by decide) 0 rfl rfl) rfl rfl hl.1 rfl (lv_room (Nat.le_of_ble_eq_true rfl)) dX4_lay_37 ⟨Nat.le_of_ble_eq_true rfl, Nat.le_of_ble_eq_true rfl⟩) hw [0, 1, 2, 3, 4, 5, 6, 7, 8, 9, 10, 11, 12, 13, 14, 15] [] rfl rfl (by decide) (by decide) (fun u3 H locs hu3 hw => ?_)
    have hw : xW G (xK cI cJ cZ cO) _ s.heap s [(bH B, .inr (4, [.int (mCode u3), .ref (bW B), .ref (bIt B), .ref (bCk B), .ref (bNu B), .ref (bKe B), .ref (bTi B), .ref (bGa B), .ref (bOf B), .ref (bNw B), .ref (bCn B), .int (nI (mKp u3)), .int (nI (mDn u3)), .ref (bDk B), .ref (bDu B), .ref (bDe B), .ref (bDt B), .ref (bDo B)])), (bW B, .inl (cI, 4, .inl (fun j9 => nI (mW u3 j9)))), (bIt B, .inl (cZ, 320, .inl (mIt u3))), (bCk B, .inl (cI, 320, .inl (mCk u3))), (bNu B, .inl (cI, 320, .inl (mNu u3))), (bKe B, .inl (cJ, 320, .inr (.inl (mKe u3)))), (bTi B, .inl (cJ, 320, .inr (.inl (mTi u3)))), (bGa B, .inl (cJ, 320, .inr (.inl (mGa u3)))), (bOf B, .inl (cI, 320, .inl (mOf u3))), (bNw B, .inl (cJ, 8, .inr (.inl (mNw u3)))), (bCn B, .inl (cI, 16, .inl (mCn u3))), (bDk B, .inl (cI, 4000, .inl (mDk u3))), (bDu B, .inl (cI, 4000, .inl (mDu u3))), (bDe B, .inl (cJ, 4000, .inr (.inl (mDe u3)))), (bDt B, .inl (cJ, 4000, .inr (.inl (mDt u3)))), (bDo B, .inl (cI, 4000, .inl (mDo u3)))] H _ := hw
    subst hu3
    refine lv_iinc (v := nI (i + 1)) (lv' := [(3, .int (nI (i + 1))), (0, .ref (bH B)), (1, .int (nI f)), (2, .int (nI t))]) F.1 F.2.1 dX4_lay_40 hl (k := 3) rfl (by rw [show Int32.ofInt 1 = 1 from rfl]; exact nI_1 _) (by decide) rfl (fun ls hl => ?_)
    refine lv_goto (tgt := 14) F.1 F.2.1 dX4_lay_43 (by decide) ?_
    exact ih ((i + 1, mCopy z (80 * f + i) (80 * t + i))) _ _ _ (by simp only []; omega) ⟨lv_sub hl [1, 2, 3, 0] rfl, hw, by omega, by simp only []; rw [hz9]; rfl⟩
