set_option maxHeartbeats 8000000 in
set_option maxRecDepth 100000 in
/-- pass(c, t) -/
theorem c_X4_pass (l : Launch) (G : va_G) (cI cJ cZ cO : ClassId) (sz : Nat) (B : MA) (v : MR) (x : Int32) (t : Int64) (N : Nat) (hz : ∀ j, mIt v j = 0 ∨ mIt v j = 1) (hw0 : mW v 0 ≤ 80) (hN : N ≤ 4000) (hend : gClk x → mEnds x t N (mStart (mSetC v 0) x t)) : Met l yX4_pass wsX4_pass ({ frames := 2, cells := 0, slots := 0, locals := 49 }) (xPc G (xK cI cJ cZ cO) sz [.ref (bH B), .int x, .long t] (wMo cI cJ cZ B v)) (va_Qi (fun r u2 => (¬ (gClk x ∧ gTim t ∧ mNw v x.toNatClampNeg ≤ t) ∧ u2 = mSetC v 1) ∨ ((gClk x ∧ gTim t ∧ mNw v x.toNatClampNeg ≤ t) ∧ u2 = mRun x t N (mStart (mSetC v 0) x t) ∧ r = nI (mDn u2))) (xB G (xK cI cJ cZ cO) (wMo cI cJ cZ B v) sz (fun u9 : MR => wMo cI cJ cZ B u9)) (va_A (wMo cI cJ cZ B v) sz)) 0 0 (va_A (wMo cI cJ cZ B v) sz) := by
  refine x_body (by decide) rfl (Nat.le_of_ble_eq_true rfl) ?_
  intro p e s m below meth c F hr hlk hnm hsz hw ls hl
  subst hsz
  have F : CallFix p m c cX4_pass 5 s _ wsX4_pass RX4 := F
  have hl : lv_has ls 5 [(0, .ref (bH B)), (1, .int x), (2, .long t)] := hl
  have hw : xW G (xK cI cJ cZ cO) _ s.heap s [(bH B, .inr (4, [.int (mCode v), .ref (bW B), .ref (bIt B), .ref (bCk B), .ref (bNu B), .ref (bKe B), .ref (bTi B), .ref (bGa B), .ref (bOf B), .ref (bNw B), .ref (bCn B), .int (nI (mKp v)), .int (nI (mDn v)), .ref (bDk B), .ref (bDu B), .ref (bDe B), .ref (bDt B), .ref (bDo B)])), (bW B, .inl (cI, 4, .inl (fun j9 => nI (mW v j9)))), (bIt B, .inl (cZ, 320, .inl (mIt v))), (bCk B, .inl (cI, 320, .inl (mCk v))), (bNu B, .inl (cI, 320, .inl (mNu v))), (bKe B, .inl (cJ, 320, .inr (.inl (mKe v)))), (bTi B, .inl (cJ, 320, .inr (.inl (mTi v)))), (bGa B, .inl (cJ, 320, .inr (.inl (mGa v)))), (bOf B, .inl (cI, 320, .inl (mOf v))), (bNw B, .inl (cJ, 8, .inr (.inl (mNw v)))), (bCn B, .inl (cI, 16, .inl (mCn v))), (bDk B, .inl (cI, 4000, .inl (mDk v))), (bDu B, .inl (cI, 4000, .inl (mDu v))), (bDe B, .inl (cJ, 4000, .inr (.inl (mDe v)))), (bDt B, .inl (cJ, 4000, .inr (.inl (mDt v)))), (bDo B, .inl (cI, 4000, .inl (mDo v)))] s.heap [] := hw
  have iX4 : ∀ w ∈ wsX40, w ∈ wsX4_pass := by decide +kernel
  refine lv_aload_n F.1 F.2.1 dX4_pass_0 rfl (lv_at hl 0 rfl) ?_
  refine lv_iload_n F.1 F.2.1 dX4_pass_1 rfl (lv_at hl 1 rfl) ?_
  refine lv_i2l (v := x.toInt64) F.1 F.2.1 dX4_pass_2 (rfl) ?_
  refine lv_lconst (v := 0) F.1 F.2.1 dX4_pass_3 (by decide) ?_
  refine lv_lconst (v := 1) F.1 F.2.1 dX4_pass_4 (by decide) ?_
  refine x_ri (va_runS (As := [.long x.toInt64, .long 0, .long 1]) (rest := [.ref (bH B)]) F (c_X4_isIn l G cI cJ cZ cO (Array.size _) x.toInt64 0 1) (va_cwS 3 F.2.2.2.2 gX4_pass_X4_isIn rfl rfl rfl (by decide +kernel) ⟨Nat.le_of_ble_eq_true rfl, Nat.le_of_ble_eq_true rfl⟩) (x_preSW hw [] rfl (by decide)) rfl rfl hl.1 rfl (lv_room (Nat.le_of_ble_eq_true rfl)) dX4_pass_5 ⟨Nat.le_of_ble_eq_true rfl, Nat.le_of_ble_eq_true rfl⟩) (fun r5 hr5 => ?_)
  refine lv_if_eq (tgt := 33) F.1 F.2.1 dX4_pass_8 (by decide) (fun c8 => ?_) (fun c8 => ?_)
  · refine lv_iconst (v := 1) F.1 F.2.1 dX4_pass_33 (by decide) ?_
    refine lv_goto (tgt := 38) F.1 F.2.1 dX4_pass_34 (by decide) ?_
    refine x_wi (wr := []) (va_runV (As := [.int 1]) (rest := []) F (c_X4_isGood l G cI cJ cZ cO (Array.size _) B v 1) (cwV 1 F.2.2.2.2 gX4_pass_X4_isGood rfl rfl rfl (by decide +kernel) ⟨Nat.le_of_ble_eq_true rfl, Nat.le_of_ble_eq_true rfl⟩) (x_preVW hw [0, 1, 2, 3, 4, 5, 6, 7, 8, 9, 10, 11, 12, 13, 14, 15] rfl (by decide) 0 rfl rfl) rfl rfl hl.1 rfl (lv_room (Nat.le_of_ble_eq_true rfl)) dX4_pass_38 ⟨Nat.le_of_ble_eq_true rfl, Nat.le_of_ble_eq_true rfl⟩) hw [0, 1, 2, 3, 4, 5, 6, 7, 8, 9, 10, 11, 12, 13, 14, 15] [] rfl rfl (by decide) (by decide) (fun r9 u8 H locs hu9 hw => ?_)
    have hw : xW G (xK cI cJ cZ cO) _ s.heap s [(bH B, .inr (4, [.int (mCode u8), .ref (bW B), .ref (bIt B), .ref (bCk B), .ref (bNu B), .ref (bKe B), .ref (bTi B), .ref (bGa B), .ref (bOf B), .ref (bNw B), .ref (bCn B), .int (nI (mKp u8)), .int (nI (mDn u8)), .ref (bDk B), .ref (bDu B), .ref (bDe B), .ref (bDt B), .ref (bDo B)])), (bW B, .inl (cI, 4, .inl (fun j9 => nI (mW u8 j9)))), (bIt B, .inl (cZ, 320, .inl (mIt u8))), (bCk B, .inl (cI, 320, .inl (mCk u8))), (bNu B, .inl (cI, 320, .inl (mNu u8))), (bKe B, .inl (cJ, 320, .inr (.inl (mKe u8)))), (bTi B, .inl (cJ, 320, .inr (.inl (mTi u8)))), (bGa B, .inl (cJ, 320, .inr (.inl (mGa u8)))), (bOf B, .inl (cI, 320, .inl (mOf u8))), (bNw B, .inl (cJ, 8, .inr (.inl (mNw u8)))), (bCn B, .inl (cI, 16, .inl (mCn u8))), (bDk B, .inl (cI, 4000, .inl (mDk u8))), (bDu B, .inl (cI, 4000, .inl (mDu u8))), (bDe B, .inl (cJ, 4000, .inr (.inl (mDe u8)))), (bDt B, .inl (cJ, 4000, .inr (.inl (mDt u8)))), (bDo B, .inl (cI, 4000, .inl (mDo u8)))] H _ := hw
    obtain ⟨hu9, hr9⟩ := hu9
    subst hu9
    have hr9 := hr9.trans (if_neg (by decide))
    subst hr9
    refine lv_if_ne (tgt := 46) F.1 F.2.1 dX4_pass_41 (by decide) (fun c41 => ?_) (fun c41 => ?_)
    · exact (c41 (by decide)).elim
    refine lv_iconst (v := 0) F.1 F.2.1 dX4_pass_44 (by decide) ?_
    exact x_iret (f := fun u9 : MR => wMo cI cJ cZ B u9) (mCode (mSetC v 1), (mW (mSetC v 1)), (mIt (mSetC v 1)), (mCk (mSetC v 1)), (mNu (mSetC v 1)), (mKe (mSetC v 1)), (mTi (mSetC v 1)), (mGa (mSetC v 1)), (mOf (mSetC v 1)), (mNw (mSetC v 1)), (mCn (mSetC v 1)), mKp (mSetC v 1), mDn (mSetC v 1), (mDk (mSetC v 1)), (mDu (mSetC v 1)), (mDe (mSetC v 1)), (mDt (mSetC v 1)), (mDo (mSetC v 1))) F hr hlk hw (Or.inl ⟨fun h => if_z hr5 c8 h.1, rfl⟩) dX4_pass_45
  · refine lv_lload_n F.1 F.2.1 dX4_pass_11 rfl (lv_at hl 2 rfl) ?_
    refine lv_lconst (v := 0) F.1 F.2.1 dX4_pass_12 (by decide) ?_
    refine lv_ldc2 (v := 1000000000000) F.1 F.2.1 F.2.2.2.1 (F.2.2.2.2 _ (List.mem_of_getElem? (i := 1) rfl)) dX4_pass_13 ?_
    refine x_ri (va_runS (As := [.long t, .long 0, .long 1000000000000]) (rest := [.ref (bH B)]) F (c_X4_isIn l G cI cJ cZ cO (Array.size _) t 0 1000000000000) (va_cwS 3 F.2.2.2.2 gX4_pass_X4_isIn rfl rfl rfl (by decide +kernel) ⟨Nat.le_of_ble_eq_true rfl, Nat.le_of_ble_eq_true rfl⟩) (x_preSW hw [] rfl (by decide)) rfl rfl hl.1 rfl (lv_room (Nat.le_of_ble_eq_true rfl)) dX4_pass_16 ⟨Nat.le_of_ble_eq_true rfl, Nat.le_of_ble_eq_true rfl⟩) (fun r16 hr16 => ?_)
    refine lv_if_eq (tgt := 33) F.1 F.2.1 dX4_pass_19 (by decide) (fun c19 => ?_) (fun c19 => ?_)
    · refine lv_iconst (v := 1) F.1 F.2.1 dX4_pass_33 (by decide) ?_
      refine lv_goto (tgt := 38) F.1 F.2.1 dX4_pass_34 (by decide) ?_
      refine x_wi (wr := []) (va_runV (As := [.int 1]) (rest := []) F (c_X4_isGood l G cI cJ cZ cO (Array.size _) B v 1) (cwV 1 F.2.2.2.2 gX4_pass_X4_isGood rfl rfl rfl (by decide +kernel) ⟨Nat.le_of_ble_eq_true rfl, Nat.le_of_ble_eq_true rfl⟩) (x_preVW hw [0, 1, 2, 3, 4, 5, 6, 7, 8, 9, 10, 11, 12, 13, 14, 15] rfl (by decide) 0 rfl rfl) rfl rfl hl.1 rfl (lv_room (Nat.le_of_ble_eq_true rfl)) dX4_pass_38 ⟨Nat.le_of_ble_eq_true rfl, Nat.le_of_ble_eq_true rfl⟩) hw [0, 1, 2, 3, 4, 5, 6, 7, 8, 9, 10, 11, 12, 13, 14, 15] [] rfl rfl (by decide) (by decide) (fun r9 u8 H locs hu9 hw => ?_)
      have hw : xW G (xK cI cJ cZ cO) _ s.heap s [(bH B, .inr (4, [.int (mCode u8), .ref (bW B), .ref (bIt B), .ref (bCk B), .ref (bNu B), .ref (bKe B), .ref (bTi B), .ref (bGa B), .ref (bOf B), .ref (bNw B), .ref (bCn B), .int (nI (mKp u8)), .int (nI (mDn u8)), .ref (bDk B), .ref (bDu B), .ref (bDe B), .ref (bDt B), .ref (bDo B)])), (bW B, .inl (cI, 4, .inl (fun j9 => nI (mW u8 j9)))), (bIt B, .inl (cZ, 320, .inl (mIt u8))), (bCk B, .inl (cI, 320, .inl (mCk u8))), (bNu B, .inl (cI, 320, .inl (mNu u8))), (bKe B, .inl (cJ, 320, .inr (.inl (mKe u8)))), (bTi B, .inl (cJ, 320, .inr (.inl (mTi u8)))), (bGa B, .inl (cJ, 320, .inr (.inl (mGa u8)))), (bOf B, .inl (cI, 320, .inl (mOf u8))), (bNw B, .inl (cJ, 8, .inr (.inl (mNw u8)))), (bCn B, .inl (cI, 16, .inl (mCn u8))), (bDk B, .inl (cI, 4000, .inl (mDk u8))), (bDu B, .inl (cI, 4000, .inl (mDu u8))), (bDe B, .inl (cJ, 4000, .inr (.inl (mDe u8)))), (bDt B, .inl (cJ, 4000, .inr (.inl (mDt u8)))), (bDo B, .inl (cI, 4000, .inl (mDo u8)))] H _ := hw
      obtain ⟨hu9, hr9⟩ := hu9
      subst hu9
      have hr9 := hr9.trans (if_neg (by decide))
      subst hr9
      refine lv_if_ne (tgt := 46) F.1 F.2.1 dX4_pass_41 (by decide) (fun c41 => ?_) (fun c41 => ?_)
      · exact (c41 (by decide)).elim
      refine lv_iconst (v := 0) F.1 F.2.1 dX4_pass_44 (by decide) ?_
      exact x_iret (f := fun u9 : MR => wMo cI cJ cZ B u9) (mCode (mSetC v 1), (mW (mSetC v 1)), (mIt (mSetC v 1)), (mCk (mSetC v 1)), (mNu (mSetC v 1)), (mKe (mSetC v 1)), (mTi (mSetC v 1)), (mGa (mSetC v 1)), (mOf (mSetC v 1)), (mNw (mSetC v 1)), (mCn (mSetC v 1)), mKp (mSetC v 1), mDn (mSetC v 1), (mDk (mSetC v 1)), (mDu (mSetC v 1)), (mDe (mSetC v 1)), (mDt (mSetC v 1)), (mDo (mSetC v 1))) F hr hlk hw (Or.inl ⟨fun h => if_z hr16 c19 h.2.1, rfl⟩) dX4_pass_45
    · refine lv_lload_n F.1 F.2.1 dX4_pass_22 rfl (lv_at hl 2 rfl) ?_
      refine lv_aload_n F.1 F.2.1 dX4_pass_23 rfl (lv_at hl 0 rfl) ?_
      refine x_get F hw iX4 0 rfl rfl 9 (by decide) rfl (List.mem_of_getElem? (i := 2) rfl) rfl dX4_pass_24 ?_
      refine lv_iload_n F.1 F.2.1 dX4_pass_27 rfl (lv_at hl 1 rfl) ?_
      refine x_lald F hw 9 1 rfl rfl (clk_in (if_nz hr5 c8)) dX4_pass_28 ?_
      refine x_l_ge (tgt := 37) F dX4_pass_29 dX4_pass_30 (by decide) (fun c29 => ?_) (fun c29 => ?_)
      · refine lv_iconst (v := 0) F.1 F.2.1 dX4_pass_37 (by decide) ?_
        refine x_wi (wr := []) (va_runV (As := [.int 0]) (rest := []) F (c_X4_isGood l G cI cJ cZ cO (Array.size _) B v 0) (cwV 1 F.2.2.2.2 gX4_pass_X4_isGood rfl rfl rfl (by decide +kernel) ⟨Nat.le_of_ble_eq_true rfl, Nat.le_of_ble_eq_true rfl⟩) (x_preVW hw [0, 1, 2, 3, 4, 5, 6, 7, 8, 9, 10, 11, 12, 13, 14, 15] rfl (by decide) 0 rfl rfl) rfl rfl hl.1 rfl (lv_room (Nat.le_of_ble_eq_true rfl)) dX4_pass_38 ⟨Nat.le_of_ble_eq_true rfl, Nat.le_of_ble_eq_true rfl⟩) hw [0, 1, 2, 3, 4, 5, 6, 7, 8, 9, 10, 11, 12, 13, 14, 15] [] rfl rfl (by decide) (by decide) (fun r9 u8 H locs hu9 hw => ?_)
        have hw : xW G (xK cI cJ cZ cO) _ s.heap s [(bH B, .inr (4, [.int (mCode u8), .ref (bW B), .ref (bIt B), .ref (bCk B), .ref (bNu B), .ref (bKe B), .ref (bTi B), .ref (bGa B), .ref (bOf B), .ref (bNw B), .ref (bCn B), .int (nI (mKp u8)), .int (nI (mDn u8)), .ref (bDk B), .ref (bDu B), .ref (bDe B), .ref (bDt B), .ref (bDo B)])), (bW B, .inl (cI, 4, .inl (fun j9 => nI (mW u8 j9)))), (bIt B, .inl (cZ, 320, .inl (mIt u8))), (bCk B, .inl (cI, 320, .inl (mCk u8))), (bNu B, .inl (cI, 320, .inl (mNu u8))), (bKe B, .inl (cJ, 320, .inr (.inl (mKe u8)))), (bTi B, .inl (cJ, 320, .inr (.inl (mTi u8)))), (bGa B, .inl (cJ, 320, .inr (.inl (mGa u8)))), (bOf B, .inl (cI, 320, .inl (mOf u8))), (bNw B, .inl (cJ, 8, .inr (.inl (mNw u8)))), (bCn B, .inl (cI, 16, .inl (mCn u8))), (bDk B, .inl (cI, 4000, .inl (mDk u8))), (bDu B, .inl (cI, 4000, .inl (mDu u8))), (bDe B, .inl (cJ, 4000, .inr (.inl (mDe u8)))), (bDt B, .inl (cJ, 4000, .inr (.inl (mDt u8)))), (bDo B, .inl (cI, 4000, .inl (mDo u8)))] H _ := hw
        obtain ⟨hu9, hr9⟩ := hu9
        subst hu9
        have hr9 := hr9.trans (if_pos rfl)
        subst hr9
        refine lv_if_ne (tgt := 46) F.1 F.2.1 dX4_pass_41 (by decide) (fun c41 => ?_) (fun c41 => ?_)
        rotate_left
        · exact absurd c41 (by decide)
        refine lv_aload_n F.1 F.2.1 dX4_pass_46 rfl (lv_at hl 0 rfl) ?_
        refine x_get F hw iX4 0 rfl rfl 9 (by decide) rfl (List.mem_of_getElem? (i := 2) rfl) rfl dX4_pass_47 ?_
        refine lv_iload_n F.1 F.2.1 dX4_pass_50 rfl (lv_at hl 1 rfl) ?_
        refine lv_lload_n F.1 F.2.1 dX4_pass_51 rfl (lv_at hl 2 rfl) ?_
        refine x_last F hw 9 1 rfl rfl (clk_in (if_nz hr5 c8)) dX4_pass_52 (fun H locs hw => ?_)
        have hw : xW G (xK cI cJ cZ cO) _ s.heap s [(bH B, .inr (4, [.int (mCode (mSetC v 0)), .ref (bW B), .ref (bIt B), .ref (bCk B), .ref (bNu B), .ref (bKe B), .ref (bTi B), .ref (bGa B), .ref (bOf B), .ref (bNw B), .ref (bCn B), .int (nI (mKp (mSetC v 0))), .int (nI (mDn (mSetC v 0))), .ref (bDk B), .ref (bDu B), .ref (bDe B), .ref (bDt B), .ref (bDo B)])), (bW B, .inl (cI, 4, .inl (fun j9 => nI (mW (mSetC v 0) j9)))), (bIt B, .inl (cZ, 320, .inl (mIt (mSetC v 0)))), (bCk B, .inl (cI, 320, .inl (mCk (mSetC v 0)))), (bNu B, .inl (cI, 320, .inl (mNu (mSetC v 0)))), (bKe B, .inl (cJ, 320, .inr (.inl (mKe (mSetC v 0))))), (bTi B, .inl (cJ, 320, .inr (.inl (mTi (mSetC v 0))))), (bGa B, .inl (cJ, 320, .inr (.inl (mGa (mSetC v 0))))), (bOf B, .inl (cI, 320, .inl (mOf (mSetC v 0)))), (bNw B, .inl (cJ, 8, .inr (.inl (vp_updL (mNw (mSetC v 0)) x.toNatClampNeg t)))), (bCn B, .inl (cI, 16, .inl (mCn (mSetC v 0)))), (bDk B, .inl (cI, 4000, .inl (mDk (mSetC v 0)))), (bDu B, .inl (cI, 4000, .inl (mDu (mSetC v 0)))), (bDe B, .inl (cJ, 4000, .inr (.inl (mDe (mSetC v 0))))), (bDt B, .inl (cJ, 4000, .inr (.inl (mDt (mSetC v 0))))), (bDo B, .inl (cI, 4000, .inl (mDo (mSetC v 0))))] H _ := hw
        refine lv_aload_n F.1 F.2.1 dX4_pass_53 rfl (lv_at hl 0 rfl) ?_
        refine lv_iconst (v := 0) F.1 F.2.1 dX4_pass_54 (by decide) ?_
        refine x_put F hw iX4 tyX4 tyX4_ok nmX4 0 rfl rfl 12 (by decide) rfl (List.mem_of_getElem? (i := 3) rfl) (rfl) (rfl) (Nat.le_of_ble_eq_true rfl) dX4_pass_55 (fun H locs hw => ?_)
        have hw : xW G (xK cI cJ cZ cO) _ s.heap s [(bH B, .inr (4, [.int (mCode (mSetC v 0)), .ref (bW B), .ref (bIt B), .ref (bCk B), .ref (bNu B), .ref (bKe B), .ref (bTi B), .ref (bGa B), .ref (bOf B), .ref (bNw B), .ref (bCn B), .int (nI (mKp (mSetC v 0))), .int 0, .ref (bDk B), .ref (bDu B), .ref (bDe B), .ref (bDt B), .ref (bDo B)])), (bW B, .inl (cI, 4, .inl (fun j9 => nI (mW (mSetC v 0) j9)))), (bIt B, .inl (cZ, 320, .inl (mIt (mSetC v 0)))), (bCk B, .inl (cI, 320, .inl (mCk (mSetC v 0)))), (bNu B, .inl (cI, 320, .inl (mNu (mSetC v 0)))), (bKe B, .inl (cJ, 320, .inr (.inl (mKe (mSetC v 0))))), (bTi B, .inl (cJ, 320, .inr (.inl (mTi (mSetC v 0))))), (bGa B, .inl (cJ, 320, .inr (.inl (mGa (mSetC v 0))))), (bOf B, .inl (cI, 320, .inl (mOf (mSetC v 0)))), (bNw B, .inl (cJ, 8, .inr (.inl (vp_updL (mNw (mSetC v 0)) x.toNatClampNeg t)))), (bCn B, .inl (cI, 16, .inl (mCn (mSetC v 0)))), (bDk B, .inl (cI, 4000, .inl (mDk (mSetC v 0)))), (bDu B, .inl (cI, 4000, .inl (mDu (mSetC v 0)))), (bDe B, .inl (cJ, 4000, .inr (.inl (mDe (mSetC v 0))))), (bDt B, .inl (cJ, 4000, .inr (.inl (mDt (mSetC v 0))))), (bDo B, .inl (cI, 4000, .inl (mDo (mSetC v 0))))] H _ := hw
        have hw : xW G (xK cI cJ cZ cO) _ s.heap s [(bH B, .inr (4, [.int (mCode (mStart (mSetC v 0) x t)), .ref (bW B), .ref (bIt B), .ref (bCk B), .ref (bNu B), .ref (bKe B), .ref (bTi B), .ref (bGa B), .ref (bOf B), .ref (bNw B), .ref (bCn B), .int (nI (mKp (mStart (mSetC v 0) x t))), .int (nI (mDn (mStart (mSetC v 0) x t))), .ref (bDk B), .ref (bDu B), .ref (bDe B), .ref (bDt B), .ref (bDo B)])), (bW B, .inl (cI, 4, .inl (fun j9 => nI (mW (mStart (mSetC v 0) x t) j9)))), (bIt B, .inl (cZ, 320, .inl (mIt (mStart (mSetC v 0) x t)))), (bCk B, .inl (cI, 320, .inl (mCk (mStart (mSetC v 0) x t)))), (bNu B, .inl (cI, 320, .inl (mNu (mStart (mSetC v 0) x t)))), (bKe B, .inl (cJ, 320, .inr (.inl (mKe (mStart (mSetC v 0) x t))))), (bTi B, .inl (cJ, 320, .inr (.inl (mTi (mStart (mSetC v 0) x t))))), (bGa B, .inl (cJ, 320, .inr (.inl (mGa (mStart (mSetC v 0) x t))))), (bOf B, .inl (cI, 320, .inl (mOf (mStart (mSetC v 0) x t)))), (bNw B, .inl (cJ, 8, .inr (.inl (mNw (mStart (mSetC v 0) x t))))), (bCn B, .inl (cI, 16, .inl (mCn (mStart (mSetC v 0) x t)))), (bDk B, .inl (cI, 4000, .inl (mDk (mStart (mSetC v 0) x t)))), (bDu B, .inl (cI, 4000, .inl (mDu (mStart (mSetC v 0) x t)))), (bDe B, .inl (cJ, 4000, .inr (.inl (mDe (mStart (mSetC v 0) x t))))), (bDt B, .inl (cJ, 4000, .inr (.inl (mDt (mStart (mSetC v 0) x t))))), (bDo B, .inl (cI, 4000, .inl (mDo (mStart (mSetC v 0) x t))))] H _ := hw
        refine lv_aload_n F.1 F.2.1 dX4_pass_58 rfl (lv_at hl 0 rfl) ?_
        refine lv_iload_n F.1 F.2.1 dX4_pass_59 rfl (lv_at hl 1 rfl) ?_
        refine lv_iconst (v := 0) F.1 F.2.1 dX4_pass_60 (by decide) ?_
        refine lv_lload_n F.1 F.2.1 dX4_pass_61 rfl (lv_at hl 2 rfl) ?_
        refine x_ri (va_runV (As := [.int x, .int 0, .long t]) (rest := []) F (c_X4_leastOf l G cI cJ cZ cO (Array.size H) B (mStart (mSetC v 0) x t) x 0 t hw0) (cwV 3 F.2.2.2.2 gX4_pass_X4_leastOf rfl rfl rfl (by decide +kernel) ⟨Nat.le_of_ble_eq_true rfl, Nat.le_of_ble_eq_true rfl⟩) (x_preVW hw [0, 1, 2, 3, 4, 5, 6, 7, 8, 9, 10, 11, 12, 13, 14, 15] rfl (by decide) 0 rfl rfl) rfl rfl hl.1 rfl (lv_room (Nat.le_of_ble_eq_true rfl)) dX4_pass_62 ⟨Nat.le_of_ble_eq_true rfl, Nat.le_of_ble_eq_true rfl⟩) (fun r62 hr62 => ?_)
        subst hr62
        refine lv_istore (lv' := [(4, .int (bI (mLeast (mStart (mSetC v 0) x t) x 0 t (mW (mStart (mSetC v 0) x t) 0)))), (0, .ref (bH B)), (1, .int x), (2, .long t)]) F.1 F.2.1 dX4_pass_65 hl (by decide) rfl (fun ls hl => ?_)
        refine x_rec (α := Nat × MR) (fun a9 => N - a9.1) (fun a9 H locs ls => lv_has ls 5 [(0, .ref (bH B)), (1, .int x), (2, .long t), (4, .int (bI (mLeast a9.2 x 0 t (mW a9.2 0))))] ∧ xW G (xK cI cJ cZ cO) _ s.heap s [(bH B, .inr (4, [.int (mCode a9.2), .ref (bW B), .ref (bIt B), .ref (bCk B), .ref (bNu B), .ref (bKe B), .ref (bTi B), .ref (bGa B), .ref (bOf B), .ref (bNw B), .ref (bCn B), .int (nI (mKp a9.2)), .int (nI (mDn a9.2)), .ref (bDk B), .ref (bDu B), .ref (bDe B), .ref (bDt B), .ref (bDo B)])), (bW B, .inl (cI, 4, .inl (fun j9 => nI (mW a9.2 j9)))), (bIt B, .inl (cZ, 320, .inl (mIt a9.2))), (bCk B, .inl (cI, 320, .inl (mCk a9.2))), (bNu B, .inl (cI, 320, .inl (mNu a9.2))), (bKe B, .inl (cJ, 320, .inr (.inl (mKe a9.2)))), (bTi B, .inl (cJ, 320, .inr (.inl (mTi a9.2)))), (bGa B, .inl (cJ, 320, .inr (.inl (mGa a9.2)))), (bOf B, .inl (cI, 320, .inl (mOf a9.2))), (bNw B, .inl (cJ, 8, .inr (.inl (mNw a9.2)))), (bCn B, .inl (cI, 16, .inl (mCn a9.2))), (bDk B, .inl (cI, 4000, .inl (mDk a9.2))), (bDu B, .inl (cI, 4000, .inl (mDu a9.2))), (bDe B, .inl (cJ, 4000, .inr (.inl (mDe a9.2)))), (bDt B, .inl (cJ, 4000, .inr (.inl (mDt a9.2)))), (bDo B, .inl (cI, 4000, .inl (mDo a9.2)))] H locs ∧ a9.1 ≤ N ∧ mW a9.2 0 ≤ 80 ∧ mDn a9.2 = a9.1 ∧ (∀ j9, mIt a9.2 j9 = 0 ∨ mIt a9.2 j9 = 1) ∧ mRun x t N (mStart (mSetC v 0) x t) = mRun x t (N - a9.1) a9.2) ?_ ((0, (mStart (mSetC v 0) x t))) ⟨lv_sub hl [1, 2, 3, 0] rfl, hw, Nat.zero_le _, hw0, rfl, hz, rfl⟩
        rintro ⟨j, z⟩ H locs ls ⟨hl, hw, hj, hwz, hdz, hzz, hrun⟩ ih
        try dsimp only at hj hwz hdz hzz hrun
        have hl : lv_has ls 5 [(0, .ref (bH B)), (1, .int x), (2, .long t), (4, .int (bI (mLeast z x 0 t (mW z 0))))] := hl
        have hw : xW G (xK cI cJ cZ cO) _ s.heap s [(bH B, .inr (4, [.int (mCode z), .ref (bW B), .ref (bIt B), .ref (bCk B), .ref (bNu B), .ref (bKe B), .ref (bTi B), .ref (bGa B), .ref (bOf B), .ref (bNw B), .ref (bCn B), .int (nI (mKp z)), .int (nI (mDn z)), .ref (bDk B), .ref (bDu B), .ref (bDe B), .ref (bDt B), .ref (bDo B)])), (bW B, .inl (cI, 4, .inl (fun j9 => nI (mW z j9)))), (bIt B, .inl (cZ, 320, .inl (mIt z))), (bCk B, .inl (cI, 320, .inl (mCk z))), (bNu B, .inl (cI, 320, .inl (mNu z))), (bKe B, .inl (cJ, 320, .inr (.inl (mKe z)))), (bTi B, .inl (cJ, 320, .inr (.inl (mTi z)))), (bGa B, .inl (cJ, 320, .inr (.inl (mGa z)))), (bOf B, .inl (cI, 320, .inl (mOf z))), (bNw B, .inl (cJ, 8, .inr (.inl (mNw z)))), (bCn B, .inl (cI, 16, .inl (mCn z))), (bDk B, .inl (cI, 4000, .inl (mDk z))), (bDu B, .inl (cI, 4000, .inl (mDu z))), (bDe B, .inl (cJ, 4000, .inr (.inl (mDe z)))), (bDt B, .inl (cJ, 4000, .inr (.inl (mDt z)))), (bDo B, .inl (cI, 4000, .inl (mDo z)))] H _ := hw
        refine lv_iload F.1 F.2.1 dX4_pass_67 (lv_at hl 3 rfl) ?_
        refine lv_if_lt (tgt := 262) F.1 F.2.1 dX4_pass_69 (by decide) (fun c69 => ?_) (fun c69 => ?_)
        · have hzn := bI_none c69 (fun k hk => by have h9 := mLeast_lt hk; omega)
          have hrz : mRun x t N (mStart (mSetC v 0) x t) = z := by rw [hrun]; exact mRun_end hzn
          refine lv_aload_n F.1 F.2.1 dX4_pass_262 rfl (lv_at hl 0 rfl) ?_
          refine x_get F hw iX4 0 rfl rfl 12 (by decide) rfl (List.mem_of_getElem? (i := 3) rfl) rfl dX4_pass_263 ?_
          exact x_iret (f := fun u9 : MR => wMo cI cJ cZ B u9) z F hr hlk hw (Or.inr ⟨⟨if_nz hr5 c8, if_nz hr16 c19, c29⟩, hrz.symm, rfl⟩) dX4_pass_266
        · obtain ⟨i, hio⟩ := bI_some c69
          have hil := mLeast_lt hio
          have hl := hl
          rw [hio] at hl
          have hl : lv_has ls 5 [(0, .ref (bH B)), (1, .int x), (2, .long t), (4, .int (nI i))] := hl
          have hjn : j < N := by
            rcases Nat.lt_or_ge j N with q | q
            · exact q
            · exfalso
              have h8 := hend (if_nz hr5 c8)
              unfold mEnds at h8
              rw [hrun, show N - j = 0 by omega] at h8
              exact absurd (hio.symm.trans h8) (by simp)
          refine lv_aload_n F.1 F.2.1 dX4_pass_72 rfl (lv_at hl 0 rfl) ?_
          refine x_get F hw iX4 0 rfl rfl 13 (by decide) rfl (List.mem_of_getElem? (i := 4) rfl) rfl dX4_pass_73 ?_
          refine lv_aload_n F.1 F.2.1 dX4_pass_76 rfl (lv_at hl 0 rfl) ?_
          refine x_get F hw iX4 0 rfl rfl 12 (by decide) rfl (List.mem_of_getElem? (i := 3) rfl) rfl dX4_pass_77 ?_
          refine lv_aload_n F.1 F.2.1 dX4_pass_80 rfl (lv_at hl 0 rfl) ?_
          refine x_get F hw iX4 0 rfl rfl 2 (by decide) rfl (List.mem_of_getElem? (i := 5) rfl) rfl dX4_pass_81 ?_
          refine lv_iload F.1 F.2.1 dX4_pass_84 (lv_at hl 3 rfl) ?_
          refine x_zaldN F hw 2 2 rfl rfl i rfl (by omega) (by decide) dX4_pass_86 ?_
          refine lv_if_eq (tgt := 94) F.1 F.2.1 dX4_pass_87 (by decide) (fun c87 => ?_) (fun c87 => ?_)
          · refine lv_iconst (v := 0) F.1 F.2.1 dX4_pass_94 (by decide) ?_
            refine x_iastN F hw 11 0 rfl rfl (mDn z) rfl (by omega) (by decide) dX4_pass_95 (fun H locs hw => ?_)
            have hw : xW G (xK cI cJ cZ cO) _ s.heap s [(bH B, .inr (4, [.int (mCode z), .ref (bW B), .ref (bIt B), .ref (bCk B), .ref (bNu B), .ref (bKe B), .ref (bTi B), .ref (bGa B), .ref (bOf B), .ref (bNw B), .ref (bCn B), .int (nI (mKp z)), .int (nI (mDn z)), .ref (bDk B), .ref (bDu B), .ref (bDe B), .ref (bDt B), .ref (bDo B)])), (bW B, .inl (cI, 4, .inl (fun j9 => nI (mW z j9)))), (bIt B, .inl (cZ, 320, .inl (mIt z))), (bCk B, .inl (cI, 320, .inl (mCk z))), (bNu B, .inl (cI, 320, .inl (mNu z))), (bKe B, .inl (cJ, 320, .inr (.inl (mKe z)))), (bTi B, .inl (cJ, 320, .inr (.inl (mTi z)))), (bGa B, .inl (cJ, 320, .inr (.inl (mGa z)))), (bOf B, .inl (cI, 320, .inl (mOf z))), (bNw B, .inl (cJ, 8, .inr (.inl (mNw z)))), (bCn B, .inl (cI, 16, .inl (mCn z))), (bDk B, .inl (cI, 4000, .inl (upd (mDk z) (mDn z) 0))), (bDu B, .inl (cI, 4000, .inl (mDu z))), (bDe B, .inl (cJ, 4000, .inr (.inl (mDe z)))), (bDt B, .inl (cJ, 4000, .inr (.inl (mDt z)))), (bDo B, .inl (cI, 4000, .inl (mDo z)))] H _ := hw
            refine lv_aload_n F.1 F.2.1 dX4_pass_96 rfl (lv_at hl 0 rfl) ?_
            refine x_get F hw iX4 0 rfl rfl 14 (by decide) rfl (List.mem_of_getElem? (i := 6) rfl) rfl dX4_pass_97 ?_
            refine lv_aload_n F.1 F.2.1 dX4_pass_100 rfl (lv_at hl 0 rfl) ?_
            refine x_get F hw iX4 0 rfl rfl 12 (by decide) rfl (List.mem_of_getElem? (i := 3) rfl) rfl dX4_pass_101 ?_
            refine lv_aload_n F.1 F.2.1 dX4_pass_104 rfl (lv_at hl 0 rfl) ?_
            refine x_get F hw iX4 0 rfl rfl 4 (by decide) rfl (List.mem_of_getElem? (i := 7) rfl) rfl dX4_pass_105 ?_
            refine lv_iload F.1 F.2.1 dX4_pass_108 (lv_at hl 3 rfl) ?_
            refine x_ialdN F hw 4 0 rfl rfl i rfl (by omega) (by decide) dX4_pass_110 ?_
            refine x_iastN F hw 12 0 rfl rfl (mDn z) rfl (by omega) (by decide) dX4_pass_111 (fun H locs hw => ?_)
            have hw : xW G (xK cI cJ cZ cO) _ s.heap s [(bH B, .inr (4, [.int (mCode z), .ref (bW B), .ref (bIt B), .ref (bCk B), .ref (bNu B), .ref (bKe B), .ref (bTi B), .ref (bGa B), .ref (bOf B), .ref (bNw B), .ref (bCn B), .int (nI (mKp z)), .int (nI (mDn z)), .ref (bDk B), .ref (bDu B), .ref (bDe B), .ref (bDt B), .ref (bDo B)])), (bW B, .inl (cI, 4, .inl (fun j9 => nI (mW z j9)))), (bIt B, .inl (cZ, 320, .inl (mIt z))), (bCk B, .inl (cI, 320, .inl (mCk z))), (bNu B, .inl (cI, 320, .inl (mNu z))), (bKe B, .inl (cJ, 320, .inr (.inl (mKe z)))), (bTi B, .inl (cJ, 320, .inr (.inl (mTi z)))), (bGa B, .inl (cJ, 320, .inr (.inl (mGa z)))), (bOf B, .inl (cI, 320, .inl (mOf z))), (bNw B, .inl (cJ, 8, .inr (.inl (mNw z)))), (bCn B, .inl (cI, 16, .inl (mCn z))), (bDk B, .inl (cI, 4000, .inl (upd (mDk z) (mDn z) 0))), (bDu B, .inl (cI, 4000, .inl (upd (mDu z) (mDn z) (mNu z i)))), (bDe B, .inl (cJ, 4000, .inr (.inl (mDe z)))), (bDt B, .inl (cJ, 4000, .inr (.inl (mDt z)))), (bDo B, .inl (cI, 4000, .inl (mDo z)))] H _ := hw
            refine lv_aload_n F.1 F.2.1 dX4_pass_112 rfl (lv_at hl 0 rfl) ?_
            refine x_get F hw iX4 0 rfl rfl 15 (by decide) rfl (List.mem_of_getElem? (i := 8) rfl) rfl dX4_pass_113 ?_
            refine lv_aload_n F.1 F.2.1 dX4_pass_116 rfl (lv_at hl 0 rfl) ?_
            refine x_get F hw iX4 0 rfl rfl 12 (by decide) rfl (List.mem_of_getElem? (i := 3) rfl) rfl dX4_pass_117 ?_
            refine lv_aload_n F.1 F.2.1 dX4_pass_120 rfl (lv_at hl 0 rfl) ?_
            refine x_get F hw iX4 0 rfl rfl 5 (by decide) rfl (List.mem_of_getElem? (i := 9) rfl) rfl dX4_pass_121 ?_
            refine lv_iload F.1 F.2.1 dX4_pass_124 (lv_at hl 3 rfl) ?_
            refine x_laldN F hw 5 1 rfl rfl i rfl (by omega) (by decide) dX4_pass_126 ?_
            refine x_lastN F hw 13 1 rfl rfl (mDn z) rfl (by omega) (by decide) dX4_pass_127 (fun H locs hw => ?_)
            have hw : xW G (xK cI cJ cZ cO) _ s.heap s [(bH B, .inr (4, [.int (mCode z), .ref (bW B), .ref (bIt B), .ref (bCk B), .ref (bNu B), .ref (bKe B), .ref (bTi B), .ref (bGa B), .ref (bOf B), .ref (bNw B), .ref (bCn B), .int (nI (mKp z)), .int (nI (mDn z)), .ref (bDk B), .ref (bDu B), .ref (bDe B), .ref (bDt B), .ref (bDo B)])), (bW B, .inl (cI, 4, .inl (fun j9 => nI (mW z j9)))), (bIt B, .inl (cZ, 320, .inl (mIt z))), (bCk B, .inl (cI, 320, .inl (mCk z))), (bNu B, .inl (cI, 320, .inl (mNu z))), (bKe B, .inl (cJ, 320, .inr (.inl (mKe z)))), (bTi B, .inl (cJ, 320, .inr (.inl (mTi z)))), (bGa B, .inl (cJ, 320, .inr (.inl (mGa z)))), (bOf B, .inl (cI, 320, .inl (mOf z))), (bNw B, .inl (cJ, 8, .inr (.inl (mNw z)))), (bCn B, .inl (cI, 16, .inl (mCn z))), (bDk B, .inl (cI, 4000, .inl (upd (mDk z) (mDn z) 0))), (bDu B, .inl (cI, 4000, .inl (upd (mDu z) (mDn z) (mNu z i)))), (bDe B, .inl (cJ, 4000, .inr (.inl (vp_updL (mDe z) (mDn z) (mKe z i))))), (bDt B, .inl (cJ, 4000, .inr (.inl (mDt z)))), (bDo B, .inl (cI, 4000, .inl (mDo z)))] H _ := hw
            refine lv_aload_n F.1 F.2.1 dX4_pass_128 rfl (lv_at hl 0 rfl) ?_
            refine x_get F hw iX4 0 rfl rfl 16 (by decide) rfl (List.mem_of_getElem? (i := 10) rfl) rfl dX4_pass_129 ?_
            refine lv_aload_n F.1 F.2.1 dX4_pass_132 rfl (lv_at hl 0 rfl) ?_
            refine x_get F hw iX4 0 rfl rfl 12 (by decide) rfl (List.mem_of_getElem? (i := 3) rfl) rfl dX4_pass_133 ?_
            refine lv_aload_n F.1 F.2.1 dX4_pass_136 rfl (lv_at hl 0 rfl) ?_
            refine x_get F hw iX4 0 rfl rfl 6 (by decide) rfl (List.mem_of_getElem? (i := 11) rfl) rfl dX4_pass_137 ?_
            refine lv_iload F.1 F.2.1 dX4_pass_140 (lv_at hl 3 rfl) ?_
            refine x_laldN F hw 6 1 rfl rfl i rfl (by omega) (by decide) dX4_pass_142 ?_
            refine x_lastN F hw 14 1 rfl rfl (mDn z) rfl (by omega) (by decide) dX4_pass_143 (fun H locs hw => ?_)
            have hw : xW G (xK cI cJ cZ cO) _ s.heap s [(bH B, .inr (4, [.int (mCode z), .ref (bW B), .ref (bIt B), .ref (bCk B), .ref (bNu B), .ref (bKe B), .ref (bTi B), .ref (bGa B), .ref (bOf B), .ref (bNw B), .ref (bCn B), .int (nI (mKp z)), .int (nI (mDn z)), .ref (bDk B), .ref (bDu B), .ref (bDe B), .ref (bDt B), .ref (bDo B)])), (bW B, .inl (cI, 4, .inl (fun j9 => nI (mW z j9)))), (bIt B, .inl (cZ, 320, .inl (mIt z))), (bCk B, .inl (cI, 320, .inl (mCk z))), (bNu B, .inl (cI, 320, .inl (mNu z))), (bKe B, .inl (cJ, 320, .inr (.inl (mKe z)))), (bTi B, .inl (cJ, 320, .inr (.inl (mTi z)))), (bGa B, .inl (cJ, 320, .inr (.inl (mGa z)))), (bOf B, .inl (cI, 320, .inl (mOf z))), (bNw B, .inl (cJ, 8, .inr (.inl (mNw z)))), (bCn B, .inl (cI, 16, .inl (mCn z))), (bDk B, .inl (cI, 4000, .inl (upd (mDk z) (mDn z) 0))), (bDu B, .inl (cI, 4000, .inl (upd (mDu z) (mDn z) (mNu z i)))), (bDe B, .inl (cJ, 4000, .inr (.inl (vp_updL (mDe z) (mDn z) (mKe z i))))), (bDt B, .inl (cJ, 4000, .inr (.inl (vp_updL (mDt z) (mDn z) (mTi z i))))), (bDo B, .inl (cI, 4000, .inl (mDo z)))] H _ := hw
            refine lv_aload_n F.1 F.2.1 dX4_pass_144 rfl (lv_at hl 0 rfl) ?_
            refine x_get F hw iX4 0 rfl rfl 17 (by decide) rfl (List.mem_of_getElem? (i := 12) rfl) rfl dX4_pass_145 ?_
            refine lv_aload_n F.1 F.2.1 dX4_pass_148 rfl (lv_at hl 0 rfl) ?_
            refine x_get F hw iX4 0 rfl rfl 12 (by decide) rfl (List.mem_of_getElem? (i := 3) rfl) rfl dX4_pass_149 ?_
            refine lv_aload_n F.1 F.2.1 dX4_pass_152 rfl (lv_at hl 0 rfl) ?_
            refine x_get F hw iX4 0 rfl rfl 8 (by decide) rfl (List.mem_of_getElem? (i := 13) rfl) rfl dX4_pass_153 ?_
            refine lv_iload F.1 F.2.1 dX4_pass_156 (lv_at hl 3 rfl) ?_
            refine x_ialdN F hw 8 0 rfl rfl i rfl (by omega) (by decide) dX4_pass_158 ?_
            refine x_iastN F hw 15 0 rfl rfl (mDn z) rfl (by omega) (by decide) dX4_pass_159 (fun H locs hw => ?_)
            have hw : xW G (xK cI cJ cZ cO) _ s.heap s [(bH B, .inr (4, [.int (mCode z), .ref (bW B), .ref (bIt B), .ref (bCk B), .ref (bNu B), .ref (bKe B), .ref (bTi B), .ref (bGa B), .ref (bOf B), .ref (bNw B), .ref (bCn B), .int (nI (mKp z)), .int (nI (mDn z)), .ref (bDk B), .ref (bDu B), .ref (bDe B), .ref (bDt B), .ref (bDo B)])), (bW B, .inl (cI, 4, .inl (fun j9 => nI (mW z j9)))), (bIt B, .inl (cZ, 320, .inl (mIt z))), (bCk B, .inl (cI, 320, .inl (mCk z))), (bNu B, .inl (cI, 320, .inl (mNu z))), (bKe B, .inl (cJ, 320, .inr (.inl (mKe z)))), (bTi B, .inl (cJ, 320, .inr (.inl (mTi z)))), (bGa B, .inl (cJ, 320, .inr (.inl (mGa z)))), (bOf B, .inl (cI, 320, .inl (mOf z))), (bNw B, .inl (cJ, 8, .inr (.inl (mNw z)))), (bCn B, .inl (cI, 16, .inl (mCn z))), (bDk B, .inl (cI, 4000, .inl (upd (mDk z) (mDn z) 0))), (bDu B, .inl (cI, 4000, .inl (upd (mDu z) (mDn z) (mNu z i)))), (bDe B, .inl (cJ, 4000, .inr (.inl (vp_updL (mDe z) (mDn z) (mKe z i))))), (bDt B, .inl (cJ, 4000, .inr (.inl (vp_updL (mDt z) (mDn z) (mTi z i))))), (bDo B, .inl (cI, 4000, .inl (upd (mDo z) (mDn z) (mOf z i))))] H _ := hw
            refine lv_aload_n F.1 F.2.1 dX4_pass_160 rfl (lv_at hl 0 rfl) ?_
            refine lv_dup F.1 F.2.1 dX4_pass_161 rfl ?_
            refine x_get F hw iX4 0 rfl rfl 12 (by decide) rfl (List.mem_of_getElem? (i := 3) rfl) rfl dX4_pass_162 ?_
            refine lv_iconst (v := 1) F.1 F.2.1 dX4_pass_165 (by decide) ?_
            refine lv_iadd F.1 F.2.1 dX4_pass_166 ?_
            refine x_topi (v := nI ((mDn z) + 1)) ((nI_add (mDn z) 1).symm) ?_
            refine x_put F hw iX4 tyX4 tyX4_ok nmX4 0 rfl rfl 12 (by decide) rfl (List.mem_of_getElem? (i := 3) rfl) (rfl) (rfl) (Nat.le_of_ble_eq_true rfl) dX4_pass_167 (fun H locs hw => ?_)
            have hw : xW G (xK cI cJ cZ cO) _ s.heap s [(bH B, .inr (4, [.int (mCode z), .ref (bW B), .ref (bIt B), .ref (bCk B), .ref (bNu B), .ref (bKe B), .ref (bTi B), .ref (bGa B), .ref (bOf B), .ref (bNw B), .ref (bCn B), .int (nI (mKp z)), .int (nI ((mDn z) + 1)), .ref (bDk B), .ref (bDu B), .ref (bDe B), .ref (bDt B), .ref (bDo B)])), (bW B, .inl (cI, 4, .inl (fun j9 => nI (mW z j9)))), (bIt B, .inl (cZ, 320, .inl (mIt z))), (bCk B, .inl (cI, 320, .inl (mCk z))), (bNu B, .inl (cI, 320, .inl (mNu z))), (bKe B, .inl (cJ, 320, .inr (.inl (mKe z)))), (bTi B, .inl (cJ, 320, .inr (.inl (mTi z)))), (bGa B, .inl (cJ, 320, .inr (.inl (mGa z)))), (bOf B, .inl (cI, 320, .inl (mOf z))), (bNw B, .inl (cJ, 8, .inr (.inl (mNw z)))), (bCn B, .inl (cI, 16, .inl (mCn z))), (bDk B, .inl (cI, 4000, .inl (upd (mDk z) (mDn z) 0))), (bDu B, .inl (cI, 4000, .inl (upd (mDu z) (mDn z) (mNu z i)))), (bDe B, .inl (cJ, 4000, .inr (.inl (vp_updL (mDe z) (mDn z) (mKe z i))))), (bDt B, .inl (cJ, 4000, .inr (.inl (vp_updL (mDt z) (mDn z) (mTi z i))))), (bDo B, .inl (cI, 4000, .inl (upd (mDo z) (mDn z) (mOf z i))))] H _ := hw
            refine lv_aload_n F.1 F.2.1 dX4_pass_170 rfl (lv_at hl 0 rfl) ?_
            refine x_get F hw iX4 0 rfl rfl 2 (by decide) rfl (List.mem_of_getElem? (i := 5) rfl) rfl dX4_pass_171 ?_
            refine lv_iload F.1 F.2.1 dX4_pass_174 (lv_at hl 3 rfl) ?_
            refine x_zaldN F hw 2 2 rfl rfl i rfl (by omega) (by decide) dX4_pass_176 ?_
            refine lv_if_eq (tgt := 244) F.1 F.2.1 dX4_pass_177 (by decide) (fun c177 => ?_) (fun c177 => ?_)
            · refine lv_aload_n F.1 F.2.1 dX4_pass_244 rfl (lv_at hl 0 rfl) ?_
              refine lv_iload F.1 F.2.1 dX4_pass_245 (lv_at hl 3 rfl) ?_
              refine x_wv (wr := []) (va_runV (As := [.int (nI i)]) (rest := []) F (c_X4_take l G cI cJ cZ cO (Array.size H) B (mCode z, (mW z), (mIt z), (mCk z), (mNu z), (mKe z), (mTi z), (mGa z), (mOf z), (mNw z), (mCn z), mKp z, (mDn z) + 1, (upd (mDk z) (mDn z) 0), (upd (mDu z) (mDn z) (mNu z i)), (vp_updL (mDe z) (mDn z) (mKe z i)), (vp_updL (mDt z) (mDn z) (mTi z i)), (upd (mDo z) (mDn z) (mOf z i))) i hzz hwz hil) (cwV 1 F.2.2.2.2 gX4_pass_X4_take rfl rfl rfl (by decide +kernel) ⟨Nat.le_of_ble_eq_true rfl, Nat.le_of_ble_eq_true rfl⟩) (x_preVW hw [0, 1, 2, 3, 4, 5, 6, 7, 8, 9, 10, 11, 12, 13, 14, 15] rfl (by decide) 0 rfl rfl) rfl rfl hl.1 rfl (lv_room (Nat.le_of_ble_eq_true rfl)) dX4_pass_247 ⟨Nat.le_of_ble_eq_true rfl, Nat.le_of_ble_eq_true rfl⟩) hw [0, 1, 2, 3, 4, 5, 6, 7, 8, 9, 10, 11, 12, 13, 14, 15] [] rfl rfl (by decide) (by decide) (fun u5 H locs hu5 hw => ?_)
              have hw : xW G (xK cI cJ cZ cO) _ s.heap s [(bH B, .inr (4, [.int (mCode u5), .ref (bW B), .ref (bIt B), .ref (bCk B), .ref (bNu B), .ref (bKe B), .ref (bTi B), .ref (bGa B), .ref (bOf B), .ref (bNw B), .ref (bCn B), .int (nI (mKp u5)), .int (nI (mDn u5)), .ref (bDk B), .ref (bDu B), .ref (bDe B), .ref (bDt B), .ref (bDo B)])), (bW B, .inl (cI, 4, .inl (fun j9 => nI (mW u5 j9)))), (bIt B, .inl (cZ, 320, .inl (mIt u5))), (bCk B, .inl (cI, 320, .inl (mCk u5))), (bNu B, .inl (cI, 320, .inl (mNu u5))), (bKe B, .inl (cJ, 320, .inr (.inl (mKe u5)))), (bTi B, .inl (cJ, 320, .inr (.inl (mTi u5)))), (bGa B, .inl (cJ, 320, .inr (.inl (mGa u5)))), (bOf B, .inl (cI, 320, .inl (mOf u5))), (bNw B, .inl (cJ, 8, .inr (.inl (mNw u5)))), (bCn B, .inl (cI, 16, .inl (mCn u5))), (bDk B, .inl (cI, 4000, .inl (mDk u5))), (bDu B, .inl (cI, 4000, .inl (mDu u5))), (bDe B, .inl (cJ, 4000, .inr (.inl (mDe u5)))), (bDt B, .inl (cJ, 4000, .inr (.inl (mDt u5)))), (bDo B, .inl (cI, 4000, .inl (mDo u5)))] H _ := hw
              have hu5 : u5 = mTake (mCode z, (mW z), (mIt z), (mCk z), (mNu z), (mKe z), (mTi z), (mGa z), (mOf z), (mNw z), (mCn z), mKp z, (mDn z) + 1, (upd (mDk z) (mDn z) 0), (upd (mDu z) (mDn z) (mNu z i)), (vp_updL (mDe z) (mDn z) (mKe z i)), (vp_updL (mDt z) (mDn z) (mTi z i)), (upd (mDo z) (mDn z) (mOf z i))) i := hu5
              obtain ⟨y, hy⟩ : ∃ y, y = mStep z i := ⟨_, rfl⟩
              have hst : u5 = y := by
                rw [hy, hu5]; unfold mStep
                rw [if_pos (Or.inl c177)]; unfold mLog
                rw [if_pos c87] <;> rfl
              have hw9 : xW G (xK cI cJ cZ cO) _ s.heap s (wMo cI cJ cZ B u5) H _ := hw
              rw [hst] at hw9
              have hwy : mW y 0 ≤ 80 := by rw [hy]; exact Nat.le_trans (mStep_w z i) hwz
              have hdy : mDn y = j + 1 := by rw [hy, mStep_d, hdz]
              have hzy : ∀ j9, mIt y j9 = 0 ∨ mIt y j9 = 1 := by rw [hy]; exact mStep_z hzz
              have hw : xW G (xK cI cJ cZ cO) _ s.heap s [(bH B, .inr (4, [.int (mCode y), .ref (bW B), .ref (bIt B), .ref (bCk B), .ref (bNu B), .ref (bKe B), .ref (bTi B), .ref (bGa B), .ref (bOf B), .ref (bNw B), .ref (bCn B), .int (nI (mKp y)), .int (nI (mDn y)), .ref (bDk B), .ref (bDu B), .ref (bDe B), .ref (bDt B), .ref (bDo B)])), (bW B, .inl (cI, 4, .inl (fun j9 => nI (mW y j9)))), (bIt B, .inl (cZ, 320, .inl (mIt y))), (bCk B, .inl (cI, 320, .inl (mCk y))), (bNu B, .inl (cI, 320, .inl (mNu y))), (bKe B, .inl (cJ, 320, .inr (.inl (mKe y)))), (bTi B, .inl (cJ, 320, .inr (.inl (mTi y)))), (bGa B, .inl (cJ, 320, .inr (.inl (mGa y)))), (bOf B, .inl (cI, 320, .inl (mOf y))), (bNw B, .inl (cJ, 8, .inr (.inl (mNw y)))), (bCn B, .inl (cI, 16, .inl (mCn y))), (bDk B, .inl (cI, 4000, .inl (mDk y))), (bDu B, .inl (cI, 4000, .inl (mDu y))), (bDe B, .inl (cJ, 4000, .inr (.inl (mDe y)))), (bDt B, .inl (cJ, 4000, .inr (.inl (mDt y)))), (bDo B, .inl (cI, 4000, .inl (mDo y)))] H _ := hw9
              refine lv_aload_n F.1 F.2.1 dX4_pass_250 rfl (lv_at hl 0 rfl) ?_
              refine lv_iload_n F.1 F.2.1 dX4_pass_251 rfl (lv_at hl 1 rfl) ?_
              refine lv_iconst (v := 0) F.1 F.2.1 dX4_pass_252 (by decide) ?_
              refine lv_lload_n F.1 F.2.1 dX4_pass_253 rfl (lv_at hl 2 rfl) ?_
              refine x_ri (va_runV (As := [.int x, .int 0, .long t]) (rest := []) F (c_X4_leastOf l G cI cJ cZ cO (Array.size H) B y x 0 t hwy) (cwV 3 F.2.2.2.2 gX4_pass_X4_leastOf rfl rfl rfl (by decide +kernel) ⟨Nat.le_of_ble_eq_true rfl, Nat.le_of_ble_eq_true rfl⟩) (x_preVW hw [0, 1, 2, 3, 4, 5, 6, 7, 8, 9, 10, 11, 12, 13, 14, 15] rfl (by decide) 0 rfl rfl) rfl rfl hl.1 rfl (lv_room (Nat.le_of_ble_eq_true rfl)) dX4_pass_254 ⟨Nat.le_of_ble_eq_true rfl, Nat.le_of_ble_eq_true rfl⟩) (fun r254 hr254 => ?_)
              subst hr254
              refine lv_istore (lv' := [(4, .int (bI (mLeast y x 0 t (mW y 0)))), (0, .ref (bH B)), (1, .int x), (2, .long t)]) F.1 F.2.1 dX4_pass_257 hl (by decide) rfl (fun ls hl => ?_)
              refine lv_goto (tgt := 67) F.1 F.2.1 dX4_pass_259 (by decide) ?_
              exact ih ((j + 1, y)) _ _ _ (by simp only []; omega) ⟨lv_sub hl [1, 2, 3, 0] rfl, hw, by omega, hwy, hdy, hzy, by simp only []; rw [hrun, show N - j = (N - (j + 1)) + 1 by omega, mRun_go hio, hy]⟩
            · refine lv_aload_n F.1 F.2.1 dX4_pass_180 rfl (lv_at hl 0 rfl) ?_
              refine x_get F hw iX4 0 rfl rfl 8 (by decide) rfl (List.mem_of_getElem? (i := 13) rfl) rfl dX4_pass_181 ?_
              refine lv_iload F.1 F.2.1 dX4_pass_184 (lv_at hl 3 rfl) ?_
              refine x_ialdN F hw 8 0 rfl rfl i rfl (by omega) (by decide) dX4_pass_186 ?_
              refine lv_if_le (tgt := 244) F.1 F.2.1 dX4_pass_187 (by decide) (fun c187 => ?_) (fun c187 => ?_)
              · refine lv_aload_n F.1 F.2.1 dX4_pass_244 rfl (lv_at hl 0 rfl) ?_
                refine lv_iload F.1 F.2.1 dX4_pass_245 (lv_at hl 3 rfl) ?_
                refine x_wv (wr := []) (va_runV (As := [.int (nI i)]) (rest := []) F (c_X4_take l G cI cJ cZ cO (Array.size H) B (mCode z, (mW z), (mIt z), (mCk z), (mNu z), (mKe z), (mTi z), (mGa z), (mOf z), (mNw z), (mCn z), mKp z, (mDn z) + 1, (upd (mDk z) (mDn z) 0), (upd (mDu z) (mDn z) (mNu z i)), (vp_updL (mDe z) (mDn z) (mKe z i)), (vp_updL (mDt z) (mDn z) (mTi z i)), (upd (mDo z) (mDn z) (mOf z i))) i hzz hwz hil) (cwV 1 F.2.2.2.2 gX4_pass_X4_take rfl rfl rfl (by decide +kernel) ⟨Nat.le_of_ble_eq_true rfl, Nat.le_of_ble_eq_true rfl⟩) (x_preVW hw [0, 1, 2, 3, 4, 5, 6, 7, 8, 9, 10, 11, 12, 13, 14, 15] rfl (by decide) 0 rfl rfl) rfl rfl hl.1 rfl (lv_room (Nat.le_of_ble_eq_true rfl)) dX4_pass_247 ⟨Nat.le_of_ble_eq_true rfl, Nat.le_of_ble_eq_true rfl⟩) hw [0, 1, 2, 3, 4, 5, 6, 7, 8, 9, 10, 11, 12, 13, 14, 15] [] rfl rfl (by decide) (by decide) (fun u5 H locs hu5 hw => ?_)
                have hw : xW G (xK cI cJ cZ cO) _ s.heap s [(bH B, .inr (4, [.int (mCode u5), .ref (bW B), .ref (bIt B), .ref (bCk B), .ref (bNu B), .ref (bKe B), .ref (bTi B), .ref (bGa B), .ref (bOf B), .ref (bNw B), .ref (bCn B), .int (nI (mKp u5)), .int (nI (mDn u5)), .ref (bDk B), .ref (bDu B), .ref (bDe B), .ref (bDt B), .ref (bDo B)])), (bW B, .inl (cI, 4, .inl (fun j9 => nI (mW u5 j9)))), (bIt B, .inl (cZ, 320, .inl (mIt u5))), (bCk B, .inl (cI, 320, .inl (mCk u5))), (bNu B, .inl (cI, 320, .inl (mNu u5))), (bKe B, .inl (cJ, 320, .inr (.inl (mKe u5)))), (bTi B, .inl (cJ, 320, .inr (.inl (mTi u5)))), (bGa B, .inl (cJ, 320, .inr (.inl (mGa u5)))), (bOf B, .inl (cI, 320, .inl (mOf u5))), (bNw B, .inl (cJ, 8, .inr (.inl (mNw u5)))), (bCn B, .inl (cI, 16, .inl (mCn u5))), (bDk B, .inl (cI, 4000, .inl (mDk u5))), (bDu B, .inl (cI, 4000, .inl (mDu u5))), (bDe B, .inl (cJ, 4000, .inr (.inl (mDe u5)))), (bDt B, .inl (cJ, 4000, .inr (.inl (mDt u5)))), (bDo B, .inl (cI, 4000, .inl (mDo u5)))] H _ := hw
                have hu5 : u5 = mTake (mCode z, (mW z), (mIt z), (mCk z), (mNu z), (mKe z), (mTi z), (mGa z), (mOf z), (mNw z), (mCn z), mKp z, (mDn z) + 1, (upd (mDk z) (mDn z) 0), (upd (mDu z) (mDn z) (mNu z i)), (vp_updL (mDe z) (mDn z) (mKe z i)), (vp_updL (mDt z) (mDn z) (mTi z i)), (upd (mDo z) (mDn z) (mOf z i))) i := hu5
                obtain ⟨y, hy⟩ : ∃ y, y = mStep z i := ⟨_, rfl⟩
                have hst : u5 = y := by
                  rw [hy, hu5]; unfold mStep
                  rw [if_pos (Or.inr c187)]; unfold mLog
                  rw [if_pos c87] <;> rfl
                have hw9 : xW G (xK cI cJ cZ cO) _ s.heap s (wMo cI cJ cZ B u5) H _ := hw
                rw [hst] at hw9
                have hwy : mW y 0 ≤ 80 := by rw [hy]; exact Nat.le_trans (mStep_w z i) hwz
                have hdy : mDn y = j + 1 := by rw [hy, mStep_d, hdz]
                have hzy : ∀ j9, mIt y j9 = 0 ∨ mIt y j9 = 1 := by rw [hy]; exact mStep_z hzz
                have hw : xW G (xK cI cJ cZ cO) _ s.heap s [(bH B, .inr (4, [.int (mCode y), .ref (bW B), .ref (bIt B), .ref (bCk B), .ref (bNu B), .ref (bKe B), .ref (bTi B), .ref (bGa B), .ref (bOf B), .ref (bNw B), .ref (bCn B), .int (nI (mKp y)), .int (nI (mDn y)), .ref (bDk B), .ref (bDu B), .ref (bDe B), .ref (bDt B), .ref (bDo B)])), (bW B, .inl (cI, 4, .inl (fun j9 => nI (mW y j9)))), (bIt B, .inl (cZ, 320, .inl (mIt y))), (bCk B, .inl (cI, 320, .inl (mCk y))), (bNu B, .inl (cI, 320, .inl (mNu y))), (bKe B, .inl (cJ, 320, .inr (.inl (mKe y)))), (bTi B, .inl (cJ, 320, .inr (.inl (mTi y)))), (bGa B, .inl (cJ, 320, .inr (.inl (mGa y)))), (bOf B, .inl (cI, 320, .inl (mOf y))), (bNw B, .inl (cJ, 8, .inr (.inl (mNw y)))), (bCn B, .inl (cI, 16, .inl (mCn y))), (bDk B, .inl (cI, 4000, .inl (mDk y))), (bDu B, .inl (cI, 4000, .inl (mDu y))), (bDe B, .inl (cJ, 4000, .inr (.inl (mDe y)))), (bDt B, .inl (cJ, 4000, .inr (.inl (mDt y)))), (bDo B, .inl (cI, 4000, .inl (mDo y)))] H _ := hw9
                refine lv_aload_n F.1 F.2.1 dX4_pass_250 rfl (lv_at hl 0 rfl) ?_
                refine lv_iload_n F.1 F.2.1 dX4_pass_251 rfl (lv_at hl 1 rfl) ?_
                refine lv_iconst (v := 0) F.1 F.2.1 dX4_pass_252 (by decide) ?_
                refine lv_lload_n F.1 F.2.1 dX4_pass_253 rfl (lv_at hl 2 rfl) ?_
                refine x_ri (va_runV (As := [.int x, .int 0, .long t]) (rest := []) F (c_X4_leastOf l G cI cJ cZ cO (Array.size H) B y x 0 t hwy) (cwV 3 F.2.2.2.2 gX4_pass_X4_leastOf rfl rfl rfl (by decide +kernel) ⟨Nat.le_of_ble_eq_true rfl, Nat.le_of_ble_eq_true rfl⟩) (x_preVW hw [0, 1, 2, 3, 4, 5, 6, 7, 8, 9, 10, 11, 12, 13, 14, 15] rfl (by decide) 0 rfl rfl) rfl rfl hl.1 rfl (lv_room (Nat.le_of_ble_eq_true rfl)) dX4_pass_254 ⟨Nat.le_of_ble_eq_true rfl, Nat.le_of_ble_eq_true rfl⟩) (fun r254 hr254 => ?_)
                subst hr254
                refine lv_istore (lv' := [(4, .int (bI (mLeast y x 0 t (mW y 0)))), (0, .ref (bH B)), (1, .int x), (2, .long t)]) F.1 F.2.1 dX4_pass_257 hl (by decide) rfl (fun ls hl => ?_)
                refine lv_goto (tgt := 67) F.1 F.2.1 dX4_pass_259 (by decide) ?_
                exact ih ((j + 1, y)) _ _ _ (by simp only []; omega) ⟨lv_sub hl [1, 2, 3, 0] rfl, hw, by omega, hwy, hdy, hzy, by simp only []; rw [hrun, show N - j = (N - (j + 1)) + 1 by omega, mRun_go hio, hy]⟩
              · refine lv_aload_n F.1 F.2.1 dX4_pass_190 rfl (lv_at hl 0 rfl) ?_
                refine x_get F hw iX4 0 rfl rfl 4 (by decide) rfl (List.mem_of_getElem? (i := 7) rfl) rfl dX4_pass_191 ?_
                refine lv_iload F.1 F.2.1 dX4_pass_194 (lv_at hl 3 rfl) ?_
                refine lv_aload_n F.1 F.2.1 dX4_pass_196 rfl (lv_at hl 0 rfl) ?_
                refine x_get F hw iX4 0 rfl rfl 10 (by decide) rfl (List.mem_of_getElem? (i := 14) rfl) rfl dX4_pass_197 ?_
                refine lv_iconst (v := 0) F.1 F.2.1 dX4_pass_200 (by decide) ?_
                refine x_ialdN F hw 10 0 rfl rfl 0 rfl (by omega) (by decide) dX4_pass_201 ?_
                refine x_iastN F hw 4 0 rfl rfl i rfl (by omega) (by decide) dX4_pass_202 (fun H locs hw => ?_)
                have hw : xW G (xK cI cJ cZ cO) _ s.heap s [(bH B, .inr (4, [.int (mCode z), .ref (bW B), .ref (bIt B), .ref (bCk B), .ref (bNu B), .ref (bKe B), .ref (bTi B), .ref (bGa B), .ref (bOf B), .ref (bNw B), .ref (bCn B), .int (nI (mKp z)), .int (nI ((mDn z) + 1)), .ref (bDk B), .ref (bDu B), .ref (bDe B), .ref (bDt B), .ref (bDo B)])), (bW B, .inl (cI, 4, .inl (fun j9 => nI (mW z j9)))), (bIt B, .inl (cZ, 320, .inl (mIt z))), (bCk B, .inl (cI, 320, .inl (mCk z))), (bNu B, .inl (cI, 320, .inl (upd (mNu z) i (mCn z 0)))), (bKe B, .inl (cJ, 320, .inr (.inl (mKe z)))), (bTi B, .inl (cJ, 320, .inr (.inl (mTi z)))), (bGa B, .inl (cJ, 320, .inr (.inl (mGa z)))), (bOf B, .inl (cI, 320, .inl (mOf z))), (bNw B, .inl (cJ, 8, .inr (.inl (mNw z)))), (bCn B, .inl (cI, 16, .inl (mCn z))), (bDk B, .inl (cI, 4000, .inl (upd (mDk z) (mDn z) 0))), (bDu B, .inl (cI, 4000, .inl (upd (mDu z) (mDn z) (mNu z i)))), (bDe B, .inl (cJ, 4000, .inr (.inl (vp_updL (mDe z) (mDn z) (mKe z i))))), (bDt B, .inl (cJ, 4000, .inr (.inl (vp_updL (mDt z) (mDn z) (mTi z i))))), (bDo B, .inl (cI, 4000, .inl (upd (mDo z) (mDn z) (mOf z i))))] H _ := hw
                refine lv_aload_n F.1 F.2.1 dX4_pass_203 rfl (lv_at hl 0 rfl) ?_
                refine x_get F hw iX4 0 rfl rfl 10 (by decide) rfl (List.mem_of_getElem? (i := 14) rfl) rfl dX4_pass_204 ?_
                refine lv_iconst (v := 0) F.1 F.2.1 dX4_pass_207 (by decide) ?_
                refine lv_dup2_11 F.1 F.2.1 dX4_pass_208 rfl rfl ?_
                refine x_ialdN F hw 10 0 rfl rfl 0 rfl (by omega) (by decide) dX4_pass_209 ?_
                refine lv_iconst (v := 1) F.1 F.2.1 dX4_pass_210 (by decide) ?_
                refine lv_iadd F.1 F.2.1 dX4_pass_211 ?_
                refine x_iastN F hw 10 0 rfl rfl 0 rfl (by omega) (by decide) dX4_pass_212 (fun H locs hw => ?_)
                have hw : xW G (xK cI cJ cZ cO) _ s.heap s [(bH B, .inr (4, [.int (mCode z), .ref (bW B), .ref (bIt B), .ref (bCk B), .ref (bNu B), .ref (bKe B), .ref (bTi B), .ref (bGa B), .ref (bOf B), .ref (bNw B), .ref (bCn B), .int (nI (mKp z)), .int (nI ((mDn z) + 1)), .ref (bDk B), .ref (bDu B), .ref (bDe B), .ref (bDt B), .ref (bDo B)])), (bW B, .inl (cI, 4, .inl (fun j9 => nI (mW z j9)))), (bIt B, .inl (cZ, 320, .inl (mIt z))), (bCk B, .inl (cI, 320, .inl (mCk z))), (bNu B, .inl (cI, 320, .inl (upd (mNu z) i (mCn z 0)))), (bKe B, .inl (cJ, 320, .inr (.inl (mKe z)))), (bTi B, .inl (cJ, 320, .inr (.inl (mTi z)))), (bGa B, .inl (cJ, 320, .inr (.inl (mGa z)))), (bOf B, .inl (cI, 320, .inl (mOf z))), (bNw B, .inl (cJ, 8, .inr (.inl (mNw z)))), (bCn B, .inl (cI, 16, .inl (upd (mCn z) 0 ((mCn z 0) + 1)))), (bDk B, .inl (cI, 4000, .inl (upd (mDk z) (mDn z) 0))), (bDu B, .inl (cI, 4000, .inl (upd (mDu z) (mDn z) (mNu z i)))), (bDe B, .inl (cJ, 4000, .inr (.inl (vp_updL (mDe z) (mDn z) (mKe z i))))), (bDt B, .inl (cJ, 4000, .inr (.inl (vp_updL (mDt z) (mDn z) (mTi z i))))), (bDo B, .inl (cI, 4000, .inl (upd (mDo z) (mDn z) (mOf z i))))] H _ := hw
                refine lv_aload_n F.1 F.2.1 dX4_pass_213 rfl (lv_at hl 0 rfl) ?_
                refine x_get F hw iX4 0 rfl rfl 6 (by decide) rfl (List.mem_of_getElem? (i := 11) rfl) rfl dX4_pass_214 ?_
                refine lv_iload F.1 F.2.1 dX4_pass_217 (lv_at hl 3 rfl) ?_
                refine lv_dup2_11 F.1 F.2.1 dX4_pass_219 rfl rfl ?_
                refine x_laldN F hw 6 1 rfl rfl i rfl (by omega) (by decide) dX4_pass_220 ?_
                refine lv_aload_n F.1 F.2.1 dX4_pass_221 rfl (lv_at hl 0 rfl) ?_
                refine x_get F hw iX4 0 rfl rfl 7 (by decide) rfl (List.mem_of_getElem? (i := 15) rfl) rfl dX4_pass_222 ?_
                refine lv_iload F.1 F.2.1 dX4_pass_225 (lv_at hl 3 rfl) ?_
                refine x_laldN F hw 7 1 rfl rfl i rfl (by omega) (by decide) dX4_pass_227 ?_
                refine lv_ladd F.1 F.2.1 dX4_pass_228 ?_
                refine x_lastN F hw 6 1 rfl rfl i rfl (by omega) (by decide) dX4_pass_229 (fun H locs hw => ?_)
                have hw : xW G (xK cI cJ cZ cO) _ s.heap s [(bH B, .inr (4, [.int (mCode z), .ref (bW B), .ref (bIt B), .ref (bCk B), .ref (bNu B), .ref (bKe B), .ref (bTi B), .ref (bGa B), .ref (bOf B), .ref (bNw B), .ref (bCn B), .int (nI (mKp z)), .int (nI ((mDn z) + 1)), .ref (bDk B), .ref (bDu B), .ref (bDe B), .ref (bDt B), .ref (bDo B)])), (bW B, .inl (cI, 4, .inl (fun j9 => nI (mW z j9)))), (bIt B, .inl (cZ, 320, .inl (mIt z))), (bCk B, .inl (cI, 320, .inl (mCk z))), (bNu B, .inl (cI, 320, .inl (upd (mNu z) i (mCn z 0)))), (bKe B, .inl (cJ, 320, .inr (.inl (mKe z)))), (bTi B, .inl (cJ, 320, .inr (.inl (vp_updL (mTi z) i ((mTi z i) + (mGa z i)))))), (bGa B, .inl (cJ, 320, .inr (.inl (mGa z)))), (bOf B, .inl (cI, 320, .inl (mOf z))), (bNw B, .inl (cJ, 8, .inr (.inl (mNw z)))), (bCn B, .inl (cI, 16, .inl (upd (mCn z) 0 ((mCn z 0) + 1)))), (bDk B, .inl (cI, 4000, .inl (upd (mDk z) (mDn z) 0))), (bDu B, .inl (cI, 4000, .inl (upd (mDu z) (mDn z) (mNu z i)))), (bDe B, .inl (cJ, 4000, .inr (.inl (vp_updL (mDe z) (mDn z) (mKe z i))))), (bDt B, .inl (cJ, 4000, .inr (.inl (vp_updL (mDt z) (mDn z) (mTi z i))))), (bDo B, .inl (cI, 4000, .inl (upd (mDo z) (mDn z) (mOf z i))))] H _ := hw
                refine lv_aload_n F.1 F.2.1 dX4_pass_230 rfl (lv_at hl 0 rfl) ?_
                refine x_get F hw iX4 0 rfl rfl 8 (by decide) rfl (List.mem_of_getElem? (i := 13) rfl) rfl dX4_pass_231 ?_
                refine lv_iload F.1 F.2.1 dX4_pass_234 (lv_at hl 3 rfl) ?_
                refine lv_dup2_11 F.1 F.2.1 dX4_pass_236 rfl rfl ?_
                refine x_ialdN F hw 8 0 rfl rfl i rfl (by omega) (by decide) dX4_pass_237 ?_
                refine lv_iconst (v := 1) F.1 F.2.1 dX4_pass_238 (by decide) ?_
                refine lv_isub F.1 F.2.1 dX4_pass_239 ?_
                refine x_iastN F hw 8 0 rfl rfl i rfl (by omega) (by decide) dX4_pass_240 (fun H locs hw => ?_)
                have hw : xW G (xK cI cJ cZ cO) _ s.heap s [(bH B, .inr (4, [.int (mCode z), .ref (bW B), .ref (bIt B), .ref (bCk B), .ref (bNu B), .ref (bKe B), .ref (bTi B), .ref (bGa B), .ref (bOf B), .ref (bNw B), .ref (bCn B), .int (nI (mKp z)), .int (nI ((mDn z) + 1)), .ref (bDk B), .ref (bDu B), .ref (bDe B), .ref (bDt B), .ref (bDo B)])), (bW B, .inl (cI, 4, .inl (fun j9 => nI (mW z j9)))), (bIt B, .inl (cZ, 320, .inl (mIt z))), (bCk B, .inl (cI, 320, .inl (mCk z))), (bNu B, .inl (cI, 320, .inl (upd (mNu z) i (mCn z 0)))), (bKe B, .inl (cJ, 320, .inr (.inl (mKe z)))), (bTi B, .inl (cJ, 320, .inr (.inl (vp_updL (mTi z) i ((mTi z i) + (mGa z i)))))), (bGa B, .inl (cJ, 320, .inr (.inl (mGa z)))), (bOf B, .inl (cI, 320, .inl (upd (mOf z) i ((mOf z i) - 1)))), (bNw B, .inl (cJ, 8, .inr (.inl (mNw z)))), (bCn B, .inl (cI, 16, .inl (upd (mCn z) 0 ((mCn z 0) + 1)))), (bDk B, .inl (cI, 4000, .inl (upd (mDk z) (mDn z) 0))), (bDu B, .inl (cI, 4000, .inl (upd (mDu z) (mDn z) (mNu z i)))), (bDe B, .inl (cJ, 4000, .inr (.inl (vp_updL (mDe z) (mDn z) (mKe z i))))), (bDt B, .inl (cJ, 4000, .inr (.inl (vp_updL (mDt z) (mDn z) (mTi z i))))), (bDo B, .inl (cI, 4000, .inl (upd (mDo z) (mDn z) (mOf z i))))] H _ := hw
                refine lv_goto (tgt := 250) F.1 F.2.1 dX4_pass_241 (by decide) ?_
                obtain ⟨y, hy⟩ : ∃ y, y = mStep z i := ⟨_, rfl⟩
                have hst : (mCode z, (mW z), (mIt z), (mCk z), (upd (mNu z) i (mCn z 0)), (mKe z), (vp_updL (mTi z) i ((mTi z i) + (mGa z i))), (mGa z), (upd (mOf z) i ((mOf z i) - 1)), (mNw z), (upd (mCn z) 0 ((mCn z 0) + 1)), mKp z, (mDn z) + 1, (upd (mDk z) (mDn z) 0), (upd (mDu z) (mDn z) (mNu z i)), (vp_updL (mDe z) (mDn z) (mKe z i)), (vp_updL (mDt z) (mDn z) (mTi z i)), (upd (mDo z) (mDn z) (mOf z i))) = y := by
                  rw [hy]; unfold mStep
                  rw [if_neg (fun q => q.elim c177 c187)]; unfold mLog
                  rw [if_pos c87] <;> rfl
                have hw9 : xW G (xK cI cJ cZ cO) _ s.heap s (wMo cI cJ cZ B (mCode z, (mW z), (mIt z), (mCk z), (upd (mNu z) i (mCn z 0)), (mKe z), (vp_updL (mTi z) i ((mTi z i) + (mGa z i))), (mGa z), (upd (mOf z) i ((mOf z i) - 1)), (mNw z), (upd (mCn z) 0 ((mCn z 0) + 1)), mKp z, (mDn z) + 1, (upd (mDk z) (mDn z) 0), (upd (mDu z) (mDn z) (mNu z i)), (vp_updL (mDe z) (mDn z) (mKe z i)), (vp_updL (mDt z) (mDn z) (mTi z i)), (upd (mDo z) (mDn z) (mOf z i)))) H _ := hw
                rw [hst] at hw9
                have hwy : mW y 0 ≤ 80 := by rw [hy]; exact Nat.le_trans (mStep_w z i) hwz
                have hdy : mDn y = j + 1 := by rw [hy, mStep_d, hdz]
                have hzy : ∀ j9, mIt y j9 = 0 ∨ mIt y j9 = 1 := by rw [hy]; exact mStep_z hzz
                have hw : xW G (xK cI cJ cZ cO) _ s.heap s [(bH B, .inr (4, [.int (mCode y), .ref (bW B), .ref (bIt B), .ref (bCk B), .ref (bNu B), .ref (bKe B), .ref (bTi B), .ref (bGa B), .ref (bOf B), .ref (bNw B), .ref (bCn B), .int (nI (mKp y)), .int (nI (mDn y)), .ref (bDk B), .ref (bDu B), .ref (bDe B), .ref (bDt B), .ref (bDo B)])), (bW B, .inl (cI, 4, .inl (fun j9 => nI (mW y j9)))), (bIt B, .inl (cZ, 320, .inl (mIt y))), (bCk B, .inl (cI, 320, .inl (mCk y))), (bNu B, .inl (cI, 320, .inl (mNu y))), (bKe B, .inl (cJ, 320, .inr (.inl (mKe y)))), (bTi B, .inl (cJ, 320, .inr (.inl (mTi y)))), (bGa B, .inl (cJ, 320, .inr (.inl (mGa y)))), (bOf B, .inl (cI, 320, .inl (mOf y))), (bNw B, .inl (cJ, 8, .inr (.inl (mNw y)))), (bCn B, .inl (cI, 16, .inl (mCn y))), (bDk B, .inl (cI, 4000, .inl (mDk y))), (bDu B, .inl (cI, 4000, .inl (mDu y))), (bDe B, .inl (cJ, 4000, .inr (.inl (mDe y)))), (bDt B, .inl (cJ, 4000, .inr (.inl (mDt y)))), (bDo B, .inl (cI, 4000, .inl (mDo y)))] H _ := hw9
                refine lv_aload_n F.1 F.2.1 dX4_pass_250 rfl (lv_at hl 0 rfl) ?_
                refine lv_iload_n F.1 F.2.1 dX4_pass_251 rfl (lv_at hl 1 rfl) ?_
                refine lv_iconst (v := 0) F.1 F.2.1 dX4_pass_252 (by decide) ?_
                refine lv_lload_n F.1 F.2.1 dX4_pass_253 rfl (lv_at hl 2 rfl) ?_
                refine x_ri (va_runV (As := [.int x, .int 0, .long t]) (rest := []) F (c_X4_leastOf l G cI cJ cZ cO (Array.size H) B y x 0 t hwy) (cwV 3 F.2.2.2.2 gX4_pass_X4_leastOf rfl rfl rfl (by decide +kernel) ⟨Nat.le_of_ble_eq_true rfl, Nat.le_of_ble_eq_true rfl⟩) (x_preVW hw [0, 1, 2, 3, 4, 5, 6, 7, 8, 9, 10, 11, 12, 13, 14, 15] rfl (by decide) 0 rfl rfl) rfl rfl hl.1 rfl (lv_room (Nat.le_of_ble_eq_true rfl)) dX4_pass_254 ⟨Nat.le_of_ble_eq_true rfl, Nat.le_of_ble_eq_true rfl⟩) (fun r254 hr254 => ?_)
                subst hr254
                refine lv_istore (lv' := [(4, .int (bI (mLeast y x 0 t (mW y 0)))), (0, .ref (bH B)), (1, .int x), (2, .long t)]) F.1 F.2.1 dX4_pass_257 hl (by decide) rfl (fun ls hl => ?_)
                refine lv_goto (tgt := 67) F.1 F.2.1 dX4_pass_259 (by decide) ?_
                exact ih ((j + 1, y)) _ _ _ (by simp only []; omega) ⟨lv_sub hl [1, 2, 3, 0] rfl, hw, by omega, hwy, hdy, hzy, by simp only []; rw [hrun, show N - j = (N - (j + 1)) + 1 by omega, mRun_go hio, hy]⟩
          · refine lv_iconst (v := 1) F.1 F.2.1 dX4_pass_90 (by decide) ?_
            refine lv_goto (tgt := 95) F.1 F.2.1 dX4_pass_91 (by decide) ?_
            refine x_iastN F hw 11 0 rfl rfl (mDn z) rfl (by omega) (by decide) dX4_pass_95 (fun H locs hw => ?_)
            have hw : xW G (xK cI cJ cZ cO) _ s.heap s [(bH B, .inr (4, [.int (mCode z), .ref (bW B), .ref (bIt B), .ref (bCk B), .ref (bNu B), .ref (bKe B), .ref (bTi B), .ref (bGa B), .ref (bOf B), .ref (bNw B), .ref (bCn B), .int (nI (mKp z)), .int (nI (mDn z)), .ref (bDk B), .ref (bDu B), .ref (bDe B), .ref (bDt B), .ref (bDo B)])), (bW B, .inl (cI, 4, .inl (fun j9 => nI (mW z j9)))), (bIt B, .inl (cZ, 320, .inl (mIt z))), (bCk B, .inl (cI, 320, .inl (mCk z))), (bNu B, .inl (cI, 320, .inl (mNu z))), (bKe B, .inl (cJ, 320, .inr (.inl (mKe z)))), (bTi B, .inl (cJ, 320, .inr (.inl (mTi z)))), (bGa B, .inl (cJ, 320, .inr (.inl (mGa z)))), (bOf B, .inl (cI, 320, .inl (mOf z))), (bNw B, .inl (cJ, 8, .inr (.inl (mNw z)))), (bCn B, .inl (cI, 16, .inl (mCn z))), (bDk B, .inl (cI, 4000, .inl (upd (mDk z) (mDn z) 1))), (bDu B, .inl (cI, 4000, .inl (mDu z))), (bDe B, .inl (cJ, 4000, .inr (.inl (mDe z)))), (bDt B, .inl (cJ, 4000, .inr (.inl (mDt z)))), (bDo B, .inl (cI, 4000, .inl (mDo z)))] H _ := hw
            refine lv_aload_n F.1 F.2.1 dX4_pass_96 rfl (lv_at hl 0 rfl) ?_
            refine x_get F hw iX4 0 rfl rfl 14 (by decide) rfl (List.mem_of_getElem? (i := 6) rfl) rfl dX4_pass_97 ?_
            refine lv_aload_n F.1 F.2.1 dX4_pass_100 rfl (lv_at hl 0 rfl) ?_
            refine x_get F hw iX4 0 rfl rfl 12 (by decide) rfl (List.mem_of_getElem? (i := 3) rfl) rfl dX4_pass_101 ?_
            refine lv_aload_n F.1 F.2.1 dX4_pass_104 rfl (lv_at hl 0 rfl) ?_
            refine x_get F hw iX4 0 rfl rfl 4 (by decide) rfl (List.mem_of_getElem? (i := 7) rfl) rfl dX4_pass_105 ?_
            refine lv_iload F.1 F.2.1 dX4_pass_108 (lv_at hl 3 rfl) ?_
            refine x_ialdN F hw 4 0 rfl rfl i rfl (by omega) (by decide) dX4_pass_110 ?_
            refine x_iastN F hw 12 0 rfl rfl (mDn z) rfl (by omega) (by decide) dX4_pass_111 (fun H locs hw => ?_)
            have hw : xW G (xK cI cJ cZ cO) _ s.heap s [(bH B, .inr (4, [.int (mCode z), .ref (bW B), .ref (bIt B), .ref (bCk B), .ref (bNu B), .ref (bKe B), .ref (bTi B), .ref (bGa B), .ref (bOf B), .ref (bNw B), .ref (bCn B), .int (nI (mKp z)), .int (nI (mDn z)), .ref (bDk B), .ref (bDu B), .ref (bDe B), .ref (bDt B), .ref (bDo B)])), (bW B, .inl (cI, 4, .inl (fun j9 => nI (mW z j9)))), (bIt B, .inl (cZ, 320, .inl (mIt z))), (bCk B, .inl (cI, 320, .inl (mCk z))), (bNu B, .inl (cI, 320, .inl (mNu z))), (bKe B, .inl (cJ, 320, .inr (.inl (mKe z)))), (bTi B, .inl (cJ, 320, .inr (.inl (mTi z)))), (bGa B, .inl (cJ, 320, .inr (.inl (mGa z)))), (bOf B, .inl (cI, 320, .inl (mOf z))), (bNw B, .inl (cJ, 8, .inr (.inl (mNw z)))), (bCn B, .inl (cI, 16, .inl (mCn z))), (bDk B, .inl (cI, 4000, .inl (upd (mDk z) (mDn z) 1))), (bDu B, .inl (cI, 4000, .inl (upd (mDu z) (mDn z) (mNu z i)))), (bDe B, .inl (cJ, 4000, .inr (.inl (mDe z)))), (bDt B, .inl (cJ, 4000, .inr (.inl (mDt z)))), (bDo B, .inl (cI, 4000, .inl (mDo z)))] H _ := hw
            refine lv_aload_n F.1 F.2.1 dX4_pass_112 rfl (lv_at hl 0 rfl) ?_
            refine x_get F hw iX4 0 rfl rfl 15 (by decide) rfl (List.mem_of_getElem? (i := 8) rfl) rfl dX4_pass_113 ?_
            refine lv_aload_n F.1 F.2.1 dX4_pass_116 rfl (lv_at hl 0 rfl) ?_
            refine x_get F hw iX4 0 rfl rfl 12 (by decide) rfl (List.mem_of_getElem? (i := 3) rfl) rfl dX4_pass_117 ?_
            refine lv_aload_n F.1 F.2.1 dX4_pass_120 rfl (lv_at hl 0 rfl) ?_
            refine x_get F hw iX4 0 rfl rfl 5 (by decide) rfl (List.mem_of_getElem? (i := 9) rfl) rfl dX4_pass_121 ?_
            refine lv_iload F.1 F.2.1 dX4_pass_124 (lv_at hl 3 rfl) ?_
            refine x_laldN F hw 5 1 rfl rfl i rfl (by omega) (by decide) dX4_pass_126 ?_
            refine x_lastN F hw 13 1 rfl rfl (mDn z) rfl (by omega) (by decide) dX4_pass_127 (fun H locs hw => ?_)
            have hw : xW G (xK cI cJ cZ cO) _ s.heap s [(bH B, .inr (4, [.int (mCode z), .ref (bW B), .ref (bIt B), .ref (bCk B), .ref (bNu B), .ref (bKe B), .ref (bTi B), .ref (bGa B), .ref (bOf B), .ref (bNw B), .ref (bCn B), .int (nI (mKp z)), .int (nI (mDn z)), .ref (bDk B), .ref (bDu B), .ref (bDe B), .ref (bDt B), .ref (bDo B)])), (bW B, .inl (cI, 4, .inl (fun j9 => nI (mW z j9)))), (bIt B, .inl (cZ, 320, .inl (mIt z))), (bCk B, .inl (cI, 320, .inl (mCk z))), (bNu B, .inl (cI, 320, .inl (mNu z))), (bKe B, .inl (cJ, 320, .inr (.inl (mKe z)))), (bTi B, .inl (cJ, 320, .inr (.inl (mTi z)))), (bGa B, .inl (cJ, 320, .inr (.inl (mGa z)))), (bOf B, .inl (cI, 320, .inl (mOf z))), (bNw B, .inl (cJ, 8, .inr (.inl (mNw z)))), (bCn B, .inl (cI, 16, .inl (mCn z))), (bDk B, .inl (cI, 4000, .inl (upd (mDk z) (mDn z) 1))), (bDu B, .inl (cI, 4000, .inl (upd (mDu z) (mDn z) (mNu z i)))), (bDe B, .inl (cJ, 4000, .inr (.inl (vp_updL (mDe z) (mDn z) (mKe z i))))), (bDt B, .inl (cJ, 4000, .inr (.inl (mDt z)))), (bDo B, .inl (cI, 4000, .inl (mDo z)))] H _ := hw
            refine lv_aload_n F.1 F.2.1 dX4_pass_128 rfl (lv_at hl 0 rfl) ?_
            refine x_get F hw iX4 0 rfl rfl 16 (by decide) rfl (List.mem_of_getElem? (i := 10) rfl) rfl dX4_pass_129 ?_
            refine lv_aload_n F.1 F.2.1 dX4_pass_132 rfl (lv_at hl 0 rfl) ?_
            refine x_get F hw iX4 0 rfl rfl 12 (by decide) rfl (List.mem_of_getElem? (i := 3) rfl) rfl dX4_pass_133 ?_
            refine lv_aload_n F.1 F.2.1 dX4_pass_136 rfl (lv_at hl 0 rfl) ?_
            refine x_get F hw iX4 0 rfl rfl 6 (by decide) rfl (List.mem_of_getElem? (i := 11) rfl) rfl dX4_pass_137 ?_
            refine lv_iload F.1 F.2.1 dX4_pass_140 (lv_at hl 3 rfl) ?_
            refine x_laldN F hw 6 1 rfl rfl i rfl (by omega) (by decide) dX4_pass_142 ?_
            refine x_lastN F hw 14 1 rfl rfl (mDn z) rfl (by omega) (by decide) dX4_pass_143 (fun H locs hw => ?_)
            have hw : xW G (xK cI cJ cZ cO) _ s.heap s [(bH B, .inr (4, [.int (mCode z), .ref (bW B), .ref (bIt B), .ref (bCk B), .ref (bNu B), .ref (bKe B), .ref (bTi B), .ref (bGa B), .ref (bOf B), .ref (bNw B), .ref (bCn B), .int (nI (mKp z)), .int (nI (mDn z)), .ref (bDk B), .ref (bDu B), .ref (bDe B), .ref (bDt B), .ref (bDo B)])), (bW B, .inl (cI, 4, .inl (fun j9 => nI (mW z j9)))), (bIt B, .inl (cZ, 320, .inl (mIt z))), (bCk B, .inl (cI, 320, .inl (mCk z))), (bNu B, .inl (cI, 320, .inl (mNu z))), (bKe B, .inl (cJ, 320, .inr (.inl (mKe z)))), (bTi B, .inl (cJ, 320, .inr (.inl (mTi z)))), (bGa B, .inl (cJ, 320, .inr (.inl (mGa z)))), (bOf B, .inl (cI, 320, .inl (mOf z))), (bNw B, .inl (cJ, 8, .inr (.inl (mNw z)))), (bCn B, .inl (cI, 16, .inl (mCn z))), (bDk B, .inl (cI, 4000, .inl (upd (mDk z) (mDn z) 1))), (bDu B, .inl (cI, 4000, .inl (upd (mDu z) (mDn z) (mNu z i)))), (bDe B, .inl (cJ, 4000, .inr (.inl (vp_updL (mDe z) (mDn z) (mKe z i))))), (bDt B, .inl (cJ, 4000, .inr (.inl (vp_updL (mDt z) (mDn z) (mTi z i))))), (bDo B, .inl (cI, 4000, .inl (mDo z)))] H _ := hw
            refine lv_aload_n F.1 F.2.1 dX4_pass_144 rfl (lv_at hl 0 rfl) ?_
            refine x_get F hw iX4 0 rfl rfl 17 (by decide) rfl (List.mem_of_getElem? (i := 12) rfl) rfl dX4_pass_145 ?_
            refine lv_aload_n F.1 F.2.1 dX4_pass_148 rfl (lv_at hl 0 rfl) ?_
            refine x_get F hw iX4 0 rfl rfl 12 (by decide) rfl (List.mem_of_getElem? (i := 3) rfl) rfl dX4_pass_149 ?_
            refine lv_aload_n F.1 F.2.1 dX4_pass_152 rfl (lv_at hl 0 rfl) ?_
            refine x_get F hw iX4 0 rfl rfl 8 (by decide) rfl (List.mem_of_getElem? (i := 13) rfl) rfl dX4_pass_153 ?_
            refine lv_iload F.1 F.2.1 dX4_pass_156 (lv_at hl 3 rfl) ?_
            refine x_ialdN F hw 8 0 rfl rfl i rfl (by omega) (by decide) dX4_pass_158 ?_
            refine x_iastN F hw 15 0 rfl rfl (mDn z) rfl (by omega) (by decide) dX4_pass_159 (fun H locs hw => ?_)
            have hw : xW G (xK cI cJ cZ cO) _ s.heap s [(bH B, .inr (4, [.int (mCode z), .ref (bW B), .ref (bIt B), .ref (bCk B), .ref (bNu B), .ref (bKe B), .ref (bTi B), .ref (bGa B), .ref (bOf B), .ref (bNw B), .ref (bCn B), .int (nI (mKp z)), .int (nI (mDn z)), .ref (bDk B), .ref (bDu B), .ref (bDe B), .ref (bDt B), .ref (bDo B)])), (bW B, .inl (cI, 4, .inl (fun j9 => nI (mW z j9)))), (bIt B, .inl (cZ, 320, .inl (mIt z))), (bCk B, .inl (cI, 320, .inl (mCk z))), (bNu B, .inl (cI, 320, .inl (mNu z))), (bKe B, .inl (cJ, 320, .inr (.inl (mKe z)))), (bTi B, .inl (cJ, 320, .inr (.inl (mTi z)))), (bGa B, .inl (cJ, 320, .inr (.inl (mGa z)))), (bOf B, .inl (cI, 320, .inl (mOf z))), (bNw B, .inl (cJ, 8, .inr (.inl (mNw z)))), (bCn B, .inl (cI, 16, .inl (mCn z))), (bDk B, .inl (cI, 4000, .inl (upd (mDk z) (mDn z) 1))), (bDu B, .inl (cI, 4000, .inl (upd (mDu z) (mDn z) (mNu z i)))), (bDe B, .inl (cJ, 4000, .inr (.inl (vp_updL (mDe z) (mDn z) (mKe z i))))), (bDt B, .inl (cJ, 4000, .inr (.inl (vp_updL (mDt z) (mDn z) (mTi z i))))), (bDo B, .inl (cI, 4000, .inl (upd (mDo z) (mDn z) (mOf z i))))] H _ := hw
            refine lv_aload_n F.1 F.2.1 dX4_pass_160 rfl (lv_at hl 0 rfl) ?_
            refine lv_dup F.1 F.2.1 dX4_pass_161 rfl ?_
            refine x_get F hw iX4 0 rfl rfl 12 (by decide) rfl (List.mem_of_getElem? (i := 3) rfl) rfl dX4_pass_162 ?_
            refine lv_iconst (v := 1) F.1 F.2.1 dX4_pass_165 (by decide) ?_
            refine lv_iadd F.1 F.2.1 dX4_pass_166 ?_
            refine x_topi (v := nI ((mDn z) + 1)) ((nI_add (mDn z) 1).symm) ?_
            refine x_put F hw iX4 tyX4 tyX4_ok nmX4 0 rfl rfl 12 (by decide) rfl (List.mem_of_getElem? (i := 3) rfl) (rfl) (rfl) (Nat.le_of_ble_eq_true rfl) dX4_pass_167 (fun H locs hw => ?_)
            have hw : xW G (xK cI cJ cZ cO) _ s.heap s [(bH B, .inr (4, [.int (mCode z), .ref (bW B), .ref (bIt B), .ref (bCk B), .ref (bNu B), .ref (bKe B), .ref (bTi B), .ref (bGa B), .ref (bOf B), .ref (bNw B), .ref (bCn B), .int (nI (mKp z)), .int (nI ((mDn z) + 1)), .ref (bDk B), .ref (bDu B), .ref (bDe B), .ref (bDt B), .ref (bDo B)])), (bW B, .inl (cI, 4, .inl (fun j9 => nI (mW z j9)))), (bIt B, .inl (cZ, 320, .inl (mIt z))), (bCk B, .inl (cI, 320, .inl (mCk z))), (bNu B, .inl (cI, 320, .inl (mNu z))), (bKe B, .inl (cJ, 320, .inr (.inl (mKe z)))), (bTi B, .inl (cJ, 320, .inr (.inl (mTi z)))), (bGa B, .inl (cJ, 320, .inr (.inl (mGa z)))), (bOf B, .inl (cI, 320, .inl (mOf z))), (bNw B, .inl (cJ, 8, .inr (.inl (mNw z)))), (bCn B, .inl (cI, 16, .inl (mCn z))), (bDk B, .inl (cI, 4000, .inl (upd (mDk z) (mDn z) 1))), (bDu B, .inl (cI, 4000, .inl (upd (mDu z) (mDn z) (mNu z i)))), (bDe B, .inl (cJ, 4000, .inr (.inl (vp_updL (mDe z) (mDn z) (mKe z i))))), (bDt B, .inl (cJ, 4000, .inr (.inl (vp_updL (mDt z) (mDn z) (mTi z i))))), (bDo B, .inl (cI, 4000, .inl (upd (mDo z) (mDn z) (mOf z i))))] H _ := hw
            refine lv_aload_n F.1 F.2.1 dX4_pass_170 rfl (lv_at hl 0 rfl) ?_
            refine x_get F hw iX4 0 rfl rfl 2 (by decide) rfl (List.mem_of_getElem? (i := 5) rfl) rfl dX4_pass_171 ?_
            refine lv_iload F.1 F.2.1 dX4_pass_174 (lv_at hl 3 rfl) ?_
            refine x_zaldN F hw 2 2 rfl rfl i rfl (by omega) (by decide) dX4_pass_176 ?_
            refine lv_if_eq (tgt := 244) F.1 F.2.1 dX4_pass_177 (by decide) (fun c177 => ?_) (fun c177 => ?_)
            · refine lv_aload_n F.1 F.2.1 dX4_pass_244 rfl (lv_at hl 0 rfl) ?_
              refine lv_iload F.1 F.2.1 dX4_pass_245 (lv_at hl 3 rfl) ?_
              refine x_wv (wr := []) (va_runV (As := [.int (nI i)]) (rest := []) F (c_X4_take l G cI cJ cZ cO (Array.size H) B (mCode z, (mW z), (mIt z), (mCk z), (mNu z), (mKe z), (mTi z), (mGa z), (mOf z), (mNw z), (mCn z), mKp z, (mDn z) + 1, (upd (mDk z) (mDn z) 1), (upd (mDu z) (mDn z) (mNu z i)), (vp_updL (mDe z) (mDn z) (mKe z i)), (vp_updL (mDt z) (mDn z) (mTi z i)), (upd (mDo z) (mDn z) (mOf z i))) i hzz hwz hil) (cwV 1 F.2.2.2.2 gX4_pass_X4_take rfl rfl rfl (by decide +kernel) ⟨Nat.le_of_ble_eq_true rfl, Nat.le_of_ble_eq_true rfl⟩) (x_preVW hw [0, 1, 2, 3, 4, 5, 6, 7, 8, 9, 10, 11, 12, 13, 14, 15] rfl (by decide) 0 rfl rfl) rfl rfl hl.1 rfl (lv_room (Nat.le_of_ble_eq_true rfl)) dX4_pass_247 ⟨Nat.le_of_ble_eq_true rfl, Nat.le_of_ble_eq_true rfl⟩) hw [0, 1, 2, 3, 4, 5, 6, 7, 8, 9, 10, 11, 12, 13, 14, 15] [] rfl rfl (by decide) (by decide) (fun u5 H locs hu5 hw => ?_)
              have hw : xW G (xK cI cJ cZ cO) _ s.heap s [(bH B, .inr (4, [.int (mCode u5), .ref (bW B), .ref (bIt B), .ref (bCk B), .ref (bNu B), .ref (bKe B), .ref (bTi B), .ref (bGa B), .ref (bOf B), .ref (bNw B), .ref (bCn B), .int (nI (mKp u5)), .int (nI (mDn u5)), .ref (bDk B), .ref (bDu B), .ref (bDe B), .ref (bDt B), .ref (bDo B)])), (bW B, .inl (cI, 4, .inl (fun j9 => nI (mW u5 j9)))), (bIt B, .inl (cZ, 320, .inl (mIt u5))), (bCk B, .inl (cI, 320, .inl (mCk u5))), (bNu B, .inl (cI, 320, .inl (mNu u5))), (bKe B, .inl (cJ, 320, .inr (.inl (mKe u5)))), (bTi B, .inl (cJ, 320, .inr (.inl (mTi u5)))), (bGa B, .inl (cJ, 320, .inr (.inl (mGa u5)))), (bOf B, .inl (cI, 320, .inl (mOf u5))), (bNw B, .inl (cJ, 8, .inr (.inl (mNw u5)))), (bCn B, .inl (cI, 16, .inl (mCn u5))), (bDk B, .inl (cI, 4000, .inl (mDk u5))), (bDu B, .inl (cI, 4000, .inl (mDu u5))), (bDe B, .inl (cJ, 4000, .inr (.inl (mDe u5)))), (bDt B, .inl (cJ, 4000, .inr (.inl (mDt u5)))), (bDo B, .inl (cI, 4000, .inl (mDo u5)))] H _ := hw
              have hu5 : u5 = mTake (mCode z, (mW z), (mIt z), (mCk z), (mNu z), (mKe z), (mTi z), (mGa z), (mOf z), (mNw z), (mCn z), mKp z, (mDn z) + 1, (upd (mDk z) (mDn z) 1), (upd (mDu z) (mDn z) (mNu z i)), (vp_updL (mDe z) (mDn z) (mKe z i)), (vp_updL (mDt z) (mDn z) (mTi z i)), (upd (mDo z) (mDn z) (mOf z i))) i := hu5
              obtain ⟨y, hy⟩ : ∃ y, y = mStep z i := ⟨_, rfl⟩
              have hst : u5 = y := by
                rw [hy, hu5]; unfold mStep
                rw [if_pos (Or.inl c177)]; unfold mLog
                rw [if_neg c87] <;> rfl
              have hw9 : xW G (xK cI cJ cZ cO) _ s.heap s (wMo cI cJ cZ B u5) H _ := hw
              rw [hst] at hw9
              have hwy : mW y 0 ≤ 80 := by rw [hy]; exact Nat.le_trans (mStep_w z i) hwz
              have hdy : mDn y = j + 1 := by rw [hy, mStep_d, hdz]
              have hzy : ∀ j9, mIt y j9 = 0 ∨ mIt y j9 = 1 := by rw [hy]; exact mStep_z hzz
              have hw : xW G (xK cI cJ cZ cO) _ s.heap s [(bH B, .inr (4, [.int (mCode y), .ref (bW B), .ref (bIt B), .ref (bCk B), .ref (bNu B), .ref (bKe B), .ref (bTi B), .ref (bGa B), .ref (bOf B), .ref (bNw B), .ref (bCn B), .int (nI (mKp y)), .int (nI (mDn y)), .ref (bDk B), .ref (bDu B), .ref (bDe B), .ref (bDt B), .ref (bDo B)])), (bW B, .inl (cI, 4, .inl (fun j9 => nI (mW y j9)))), (bIt B, .inl (cZ, 320, .inl (mIt y))), (bCk B, .inl (cI, 320, .inl (mCk y))), (bNu B, .inl (cI, 320, .inl (mNu y))), (bKe B, .inl (cJ, 320, .inr (.inl (mKe y)))), (bTi B, .inl (cJ, 320, .inr (.inl (mTi y)))), (bGa B, .inl (cJ, 320, .inr (.inl (mGa y)))), (bOf B, .inl (cI, 320, .inl (mOf y))), (bNw B, .inl (cJ, 8, .inr (.inl (mNw y)))), (bCn B, .inl (cI, 16, .inl (mCn y))), (bDk B, .inl (cI, 4000, .inl (mDk y))), (bDu B, .inl (cI, 4000, .inl (mDu y))), (bDe B, .inl (cJ, 4000, .inr (.inl (mDe y)))), (bDt B, .inl (cJ, 4000, .inr (.inl (mDt y)))), (bDo B, .inl (cI, 4000, .inl (mDo y)))] H _ := hw9
              refine lv_aload_n F.1 F.2.1 dX4_pass_250 rfl (lv_at hl 0 rfl) ?_
              refine lv_iload_n F.1 F.2.1 dX4_pass_251 rfl (lv_at hl 1 rfl) ?_
              refine lv_iconst (v := 0) F.1 F.2.1 dX4_pass_252 (by decide) ?_
              refine lv_lload_n F.1 F.2.1 dX4_pass_253 rfl (lv_at hl 2 rfl) ?_
              refine x_ri (va_runV (As := [.int x, .int 0, .long t]) (rest := []) F (c_X4_leastOf l G cI cJ cZ cO (Array.size H) B y x 0 t hwy) (cwV 3 F.2.2.2.2 gX4_pass_X4_leastOf rfl rfl rfl (by decide +kernel) ⟨Nat.le_of_ble_eq_true rfl, Nat.le_of_ble_eq_true rfl⟩) (x_preVW hw [0, 1, 2, 3, 4, 5, 6, 7, 8, 9, 10, 11, 12, 13, 14, 15] rfl (by decide) 0 rfl rfl) rfl rfl hl.1 rfl (lv_room (Nat.le_of_ble_eq_true rfl)) dX4_pass_254 ⟨Nat.le_of_ble_eq_true rfl, Nat.le_of_ble_eq_true rfl⟩) (fun r254 hr254 => ?_)
              subst hr254
              refine lv_istore (lv' := [(4, .int (bI (mLeast y x 0 t (mW y 0)))), (0, .ref (bH B)), (1, .int x), (2, .long t)]) F.1 F.2.1 dX4_pass_257 hl (by decide) rfl (fun ls hl => ?_)
              refine lv_goto (tgt := 67) F.1 F.2.1 dX4_pass_259 (by decide) ?_
              exact ih ((j + 1, y)) _ _ _ (by simp only []; omega) ⟨lv_sub hl [1, 2, 3, 0] rfl, hw, by omega, hwy, hdy, hzy, by simp only []; rw [hrun, show N - j = (N - (j + 1)) + 1 by omega, mRun_go hio, hy]⟩
            · refine lv_aload_n F.1 F.2.1 dX4_pass_180 rfl (lv_at hl 0 rfl) ?_
              refine x_get F hw iX4 0 rfl rfl 8 (by decide) rfl (List.mem_of_getElem? (i := 13) rfl) rfl dX4_pass_181 ?_
              refine lv_iload F.1 F.2.1 dX4_pass_184 (lv_at hl 3 rfl) ?_
              refine x_ialdN F hw 8 0 rfl rfl i rfl (by omega) (by decide) dX4_pass_186 ?_
              refine lv_if_le (tgt := 244) F.1 F.2.1 dX4_pass_187 (by decide) (fun c187 => ?_) (fun c187 => ?_)
              · refine lv_aload_n F.1 F.2.1 dX4_pass_244 rfl (lv_at hl 0 rfl) ?_
                refine lv_iload F.1 F.2.1 dX4_pass_245 (lv_at hl 3 rfl) ?_
                refine x_wv (wr := []) (va_runV (As := [.int (nI i)]) (rest := []) F (c_X4_take l G cI cJ cZ cO (Array.size H) B (mCode z, (mW z), (mIt z), (mCk z), (mNu z), (mKe z), (mTi z), (mGa z), (mOf z), (mNw z), (mCn z), mKp z, (mDn z) + 1, (upd (mDk z) (mDn z) 1), (upd (mDu z) (mDn z) (mNu z i)), (vp_updL (mDe z) (mDn z) (mKe z i)), (vp_updL (mDt z) (mDn z) (mTi z i)), (upd (mDo z) (mDn z) (mOf z i))) i hzz hwz hil) (cwV 1 F.2.2.2.2 gX4_pass_X4_take rfl rfl rfl (by decide +kernel) ⟨Nat.le_of_ble_eq_true rfl, Nat.le_of_ble_eq_true rfl⟩) (x_preVW hw [0, 1, 2, 3, 4, 5, 6, 7, 8, 9, 10, 11, 12, 13, 14, 15] rfl (by decide) 0 rfl rfl) rfl rfl hl.1 rfl (lv_room (Nat.le_of_ble_eq_true rfl)) dX4_pass_247 ⟨Nat.le_of_ble_eq_true rfl, Nat.le_of_ble_eq_true rfl⟩) hw [0, 1, 2, 3, 4, 5, 6, 7, 8, 9, 10, 11, 12, 13, 14, 15] [] rfl rfl (by decide) (by decide) (fun u5 H locs hu5 hw => ?_)
                have hw : xW G (xK cI cJ cZ cO) _ s.heap s [(bH B, .inr (4, [.int (mCode u5), .ref (bW B), .ref (bIt B), .ref (bCk B), .ref (bNu B), .ref (bKe B), .ref (bTi B), .ref (bGa B), .ref (bOf B), .ref (bNw B), .ref (bCn B), .int (nI (mKp u5)), .int (nI (mDn u5)), .ref (bDk B), .ref (bDu B), .ref (bDe B), .ref (bDt B), .ref (bDo B)])), (bW B, .inl (cI, 4, .inl (fun j9 => nI (mW u5 j9)))), (bIt B, .inl (cZ, 320, .inl (mIt u5))), (bCk B, .inl (cI, 320, .inl (mCk u5))), (bNu B, .inl (cI, 320, .inl (mNu u5))), (bKe B, .inl (cJ, 320, .inr (.inl (mKe u5)))), (bTi B, .inl (cJ, 320, .inr (.inl (mTi u5)))), (bGa B, .inl (cJ, 320, .inr (.inl (mGa u5)))), (bOf B, .inl (cI, 320, .inl (mOf u5))), (bNw B, .inl (cJ, 8, .inr (.inl (mNw u5)))), (bCn B, .inl (cI, 16, .inl (mCn u5))), (bDk B, .inl (cI, 4000, .inl (mDk u5))), (bDu B, .inl (cI, 4000, .inl (mDu u5))), (bDe B, .inl (cJ, 4000, .inr (.inl (mDe u5)))), (bDt B, .inl (cJ, 4000, .inr (.inl (mDt u5)))), (bDo B, .inl (cI, 4000, .inl (mDo u5)))] H _ := hw
                have hu5 : u5 = mTake (mCode z, (mW z), (mIt z), (mCk z), (mNu z), (mKe z), (mTi z), (mGa z), (mOf z), (mNw z), (mCn z), mKp z, (mDn z) + 1, (upd (mDk z) (mDn z) 1), (upd (mDu z) (mDn z) (mNu z i)), (vp_updL (mDe z) (mDn z) (mKe z i)), (vp_updL (mDt z) (mDn z) (mTi z i)), (upd (mDo z) (mDn z) (mOf z i))) i := hu5
                obtain ⟨y, hy⟩ : ∃ y, y = mStep z i := ⟨_, rfl⟩
                have hst : u5 = y := by
                  rw [hy, hu5]; unfold mStep
                  rw [if_pos (Or.inr c187)]; unfold mLog
                  rw [if_neg c87] <;> rfl
                have hw9 : xW G (xK cI cJ cZ cO) _ s.heap s (wMo cI cJ cZ B u5) H _ := hw
                rw [hst] at hw9
                have hwy : mW y 0 ≤ 80 := by rw [hy]; exact Nat.le_trans (mStep_w z i) hwz
                have hdy : mDn y = j + 1 := by rw [hy, mStep_d, hdz]
                have hzy : ∀ j9, mIt y j9 = 0 ∨ mIt y j9 = 1 := by rw [hy]; exact mStep_z hzz
                have hw : xW G (xK cI cJ cZ cO) _ s.heap s [(bH B, .inr (4, [.int (mCode y), .ref (bW B), .ref (bIt B), .ref (bCk B), .ref (bNu B), .ref (bKe B), .ref (bTi B), .ref (bGa B), .ref (bOf B), .ref (bNw B), .ref (bCn B), .int (nI (mKp y)), .int (nI (mDn y)), .ref (bDk B), .ref (bDu B), .ref (bDe B), .ref (bDt B), .ref (bDo B)])), (bW B, .inl (cI, 4, .inl (fun j9 => nI (mW y j9)))), (bIt B, .inl (cZ, 320, .inl (mIt y))), (bCk B, .inl (cI, 320, .inl (mCk y))), (bNu B, .inl (cI, 320, .inl (mNu y))), (bKe B, .inl (cJ, 320, .inr (.inl (mKe y)))), (bTi B, .inl (cJ, 320, .inr (.inl (mTi y)))), (bGa B, .inl (cJ, 320, .inr (.inl (mGa y)))), (bOf B, .inl (cI, 320, .inl (mOf y))), (bNw B, .inl (cJ, 8, .inr (.inl (mNw y)))), (bCn B, .inl (cI, 16, .inl (mCn y))), (bDk B, .inl (cI, 4000, .inl (mDk y))), (bDu B, .inl (cI, 4000, .inl (mDu y))), (bDe B, .inl (cJ, 4000, .inr (.inl (mDe y)))), (bDt B, .inl (cJ, 4000, .inr (.inl (mDt y)))), (bDo B, .inl (cI, 4000, .inl (mDo y)))] H _ := hw9
                refine lv_aload_n F.1 F.2.1 dX4_pass_250 rfl (lv_at hl 0 rfl) ?_
                refine lv_iload_n F.1 F.2.1 dX4_pass_251 rfl (lv_at hl 1 rfl) ?_
                refine lv_iconst (v := 0) F.1 F.2.1 dX4_pass_252 (by decide) ?_
                refine lv_lload_n F.1 F.2.1 dX4_pass_253 rfl (lv_at hl 2 rfl) ?_
                refine x_ri (va_runV (As := [.int x, .int 0, .long t]) (rest := []) F (c_X4_leastOf l G cI cJ cZ cO (Array.size H) B y x 0 t hwy) (cwV 3 F.2.2.2.2 gX4_pass_X4_leastOf rfl rfl rfl (by decide +kernel) ⟨Nat.le_of_ble_eq_true rfl, Nat.le_of_ble_eq_true rfl⟩) (x_preVW hw [0, 1, 2, 3, 4, 5, 6, 7, 8, 9, 10, 11, 12, 13, 14, 15] rfl (by decide) 0 rfl rfl) rfl rfl hl.1 rfl (lv_room (Nat.le_of_ble_eq_true rfl)) dX4_pass_254 ⟨Nat.le_of_ble_eq_true rfl, Nat.le_of_ble_eq_true rfl⟩) (fun r254 hr254 => ?_)
                subst hr254
                refine lv_istore (lv' := [(4, .int (bI (mLeast y x 0 t (mW y 0)))), (0, .ref (bH B)), (1, .int x), (2, .long t)]) F.1 F.2.1 dX4_pass_257 hl (by decide) rfl (fun ls hl => ?_)
                refine lv_goto (tgt := 67) F.1 F.2.1 dX4_pass_259 (by decide) ?_
                exact ih ((j + 1, y)) _ _ _ (by simp only []; omega) ⟨lv_sub hl [1, 2, 3, 0] rfl, hw, by omega, hwy, hdy, hzy, by simp only []; rw [hrun, show N - j = (N - (j + 1)) + 1 by omega, mRun_go hio, hy]⟩
              · refine lv_aload_n F.1 F.2.1 dX4_pass_190 rfl (lv_at hl 0 rfl) ?_
                refine x_get F hw iX4 0 rfl rfl 4 (by decide) rfl (List.mem_of_getElem? (i := 7) rfl) rfl dX4_pass_191 ?_
                refine lv_iload F.1 F.2.1 dX4_pass_194 (lv_at hl 3 rfl) ?_
                refine lv_aload_n F.1 F.2.1 dX4_pass_196 rfl (lv_at hl 0 rfl) ?_
                refine x_get F hw iX4 0 rfl rfl 10 (by decide) rfl (List.mem_of_getElem? (i := 14) rfl) rfl dX4_pass_197 ?_
                refine lv_iconst (v := 0) F.1 F.2.1 dX4_pass_200 (by decide) ?_
                refine x_ialdN F hw 10 0 rfl rfl 0 rfl (by omega) (by decide) dX4_pass_201 ?_
                refine x_iastN F hw 4 0 rfl rfl i rfl (by omega) (by decide) dX4_pass_202 (fun H locs hw => ?_)
                have hw : xW G (xK cI cJ cZ cO) _ s.heap s [(bH B, .inr (4, [.int (mCode z), .ref (bW B), .ref (bIt B), .ref (bCk B), .ref (bNu B), .ref (bKe B), .ref (bTi B), .ref (bGa B), .ref (bOf B), .ref (bNw B), .ref (bCn B), .int (nI (mKp z)), .int (nI ((mDn z) + 1)), .ref (bDk B), .ref (bDu B), .ref (bDe B), .ref (bDt B), .ref (bDo B)])), (bW B, .inl (cI, 4, .inl (fun j9 => nI (mW z j9)))), (bIt B, .inl (cZ, 320, .inl (mIt z))), (bCk B, .inl (cI, 320, .inl (mCk z))), (bNu B, .inl (cI, 320, .inl (upd (mNu z) i (mCn z 0)))), (bKe B, .inl (cJ, 320, .inr (.inl (mKe z)))), (bTi B, .inl (cJ, 320, .inr (.inl (mTi z)))), (bGa B, .inl (cJ, 320, .inr (.inl (mGa z)))), (bOf B, .inl (cI, 320, .inl (mOf z))), (bNw B, .inl (cJ, 8, .inr (.inl (mNw z)))), (bCn B, .inl (cI, 16, .inl (mCn z))), (bDk B, .inl (cI, 4000, .inl (upd (mDk z) (mDn z) 1))), (bDu B, .inl (cI, 4000, .inl (upd (mDu z) (mDn z) (mNu z i)))), (bDe B, .inl (cJ, 4000, .inr (.inl (vp_updL (mDe z) (mDn z) (mKe z i))))), (bDt B, .inl (cJ, 4000, .inr (.inl (vp_updL (mDt z) (mDn z) (mTi z i))))), (bDo B, .inl (cI, 4000, .inl (upd (mDo z) (mDn z) (mOf z i))))] H _ := hw
                refine lv_aload_n F.1 F.2.1 dX4_pass_203 rfl (lv_at hl 0 rfl) ?_
                refine x_get F hw iX4 0 rfl rfl 10 (by decide) rfl (List.mem_of_getElem? (i := 14) rfl) rfl dX4_pass_204 ?_
                refine lv_iconst (v := 0) F.1 F.2.1 dX4_pass_207 (by decide) ?_
                refine lv_dup2_11 F.1 F.2.1 dX4_pass_208 rfl rfl ?_
                refine x_ialdN F hw 10 0 rfl rfl 0 rfl (by omega) (by decide) dX4_pass_209 ?_
                refine lv_iconst (v := 1) F.1 F.2.1 dX4_pass_210 (by decide) ?_
                refine lv_iadd F.1 F.2.1 dX4_pass_211 ?_
                refine x_iastN F hw 10 0 rfl rfl 0 rfl (by omega) (by decide) dX4_pass_212 (fun H locs hw => ?_)
                have hw : xW G (xK cI cJ cZ cO) _ s.heap s [(bH B, .inr (4, [.int (mCode z), .ref (bW B), .ref (bIt B), .ref (bCk B), .ref (bNu B), .ref (bKe B), .ref (bTi B), .ref (bGa B), .ref (bOf B), .ref (bNw B), .ref (bCn B), .int (nI (mKp z)), .int (nI ((mDn z) + 1)), .ref (bDk B), .ref (bDu B), .ref (bDe B), .ref (bDt B), .ref (bDo B)])), (bW B, .inl (cI, 4, .inl (fun j9 => nI (mW z j9)))), (bIt B, .inl (cZ, 320, .inl (mIt z))), (bCk B, .inl (cI, 320, .inl (mCk z))), (bNu B, .inl (cI, 320, .inl (upd (mNu z) i (mCn z 0)))), (bKe B, .inl (cJ, 320, .inr (.inl (mKe z)))), (bTi B, .inl (cJ, 320, .inr (.inl (mTi z)))), (bGa B, .inl (cJ, 320, .inr (.inl (mGa z)))), (bOf B, .inl (cI, 320, .inl (mOf z))), (bNw B, .inl (cJ, 8, .inr (.inl (mNw z)))), (bCn B, .inl (cI, 16, .inl (upd (mCn z) 0 ((mCn z 0) + 1)))), (bDk B, .inl (cI, 4000, .inl (upd (mDk z) (mDn z) 1))), (bDu B, .inl (cI, 4000, .inl (upd (mDu z) (mDn z) (mNu z i)))), (bDe B, .inl (cJ, 4000, .inr (.inl (vp_updL (mDe z) (mDn z) (mKe z i))))), (bDt B, .inl (cJ, 4000, .inr (.inl (vp_updL (mDt z) (mDn z) (mTi z i))))), (bDo B, .inl (cI, 4000, .inl (upd (mDo z) (mDn z) (mOf z i))))] H _ := hw
                refine lv_aload_n F.1 F.2.1 dX4_pass_213 rfl (lv_at hl 0 rfl) ?_
                refine x_get F hw iX4 0 rfl rfl 6 (by decide) rfl (List.mem_of_getElem? (i := 11) rfl) rfl dX4_pass_214 ?_
                refine lv_iload F.1 F.2.1 dX4_pass_217 (lv_at hl 3 rfl) ?_
                refine lv_dup2_11 F.1 F.2.1 dX4_pass_219 rfl rfl ?_
                refine x_laldN F hw 6 1 rfl rfl i rfl (by omega) (by decide) dX4_pass_220 ?_
                refine lv_aload_n F.1 F.2.1 dX4_pass_221 rfl (lv_at hl 0 rfl) ?_
                refine x_get F hw iX4 0 rfl rfl 7 (by decide) rfl (List.mem_of_getElem? (i := 15) rfl) rfl dX4_pass_222 ?_
                refine lv_iload F.1 F.2.1 dX4_pass_225 (lv_at hl 3 rfl) ?_
                refine x_laldN F hw 7 1 rfl rfl i rfl (by omega) (by decide) dX4_pass_227 ?_
                refine lv_ladd F.1 F.2.1 dX4_pass_228 ?_
                refine x_lastN F hw 6 1 rfl rfl i rfl (by omega) (by decide) dX4_pass_229 (fun H locs hw => ?_)
                have hw : xW G (xK cI cJ cZ cO) _ s.heap s [(bH B, .inr (4, [.int (mCode z), .ref (bW B), .ref (bIt B), .ref (bCk B), .ref (bNu B), .ref (bKe B), .ref (bTi B), .ref (bGa B), .ref (bOf B), .ref (bNw B), .ref (bCn B), .int (nI (mKp z)), .int (nI ((mDn z) + 1)), .ref (bDk B), .ref (bDu B), .ref (bDe B), .ref (bDt B), .ref (bDo B)])), (bW B, .inl (cI, 4, .inl (fun j9 => nI (mW z j9)))), (bIt B, .inl (cZ, 320, .inl (mIt z))), (bCk B, .inl (cI, 320, .inl (mCk z))), (bNu B, .inl (cI, 320, .inl (upd (mNu z) i (mCn z 0)))), (bKe B, .inl (cJ, 320, .inr (.inl (mKe z)))), (bTi B, .inl (cJ, 320, .inr (.inl (vp_updL (mTi z) i ((mTi z i) + (mGa z i)))))), (bGa B, .inl (cJ, 320, .inr (.inl (mGa z)))), (bOf B, .inl (cI, 320, .inl (mOf z))), (bNw B, .inl (cJ, 8, .inr (.inl (mNw z)))), (bCn B, .inl (cI, 16, .inl (upd (mCn z) 0 ((mCn z 0) + 1)))), (bDk B, .inl (cI, 4000, .inl (upd (mDk z) (mDn z) 1))), (bDu B, .inl (cI, 4000, .inl (upd (mDu z) (mDn z) (mNu z i)))), (bDe B, .inl (cJ, 4000, .inr (.inl (vp_updL (mDe z) (mDn z) (mKe z i))))), (bDt B, .inl (cJ, 4000, .inr (.inl (vp_updL (mDt z) (mDn z) (mTi z i))))), (bDo B, .inl (cI, 4000, .inl (upd (mDo z) (mDn z) (mOf z i))))] H _ := hw
                refine lv_aload_n F.1 F.2.1 dX4_pass_230 rfl (lv_at hl 0 rfl) ?_
                refine x_get F hw iX4 0 rfl rfl 8 (by decide) rfl (List.mem_of_getElem? (i := 13) rfl) rfl dX4_pass_231 ?_
                refine lv_iload F.1 F.2.1 dX4_pass_234 (lv_at hl 3 rfl) ?_
                refine lv_dup2_11 F.1 F.2.1 dX4_pass_236 rfl rfl ?_
                refine x_ialdN F hw 8 0 rfl rfl i rfl (by omega) (by decide) dX4_pass_237 ?_
                refine lv_iconst (v := 1) F.1 F.2.1 dX4_pass_238 (by decide) ?_
                refine lv_isub F.1 F.2.1 dX4_pass_239 ?_
                refine x_iastN F hw 8 0 rfl rfl i rfl (by omega) (by decide) dX4_pass_240 (fun H locs hw => ?_)
                have hw : xW G (xK cI cJ cZ cO) _ s.heap s [(bH B, .inr (4, [.int (mCode z), .ref (bW B), .ref (bIt B), .ref (bCk B), .ref (bNu B), .ref (bKe B), .ref (bTi B), .ref (bGa B), .ref (bOf B), .ref (bNw B), .ref (bCn B), .int (nI (mKp z)), .int (nI ((mDn z) + 1)), .ref (bDk B), .ref (bDu B), .ref (bDe B), .ref (bDt B), .ref (bDo B)])), (bW B, .inl (cI, 4, .inl (fun j9 => nI (mW z j9)))), (bIt B, .inl (cZ, 320, .inl (mIt z))), (bCk B, .inl (cI, 320, .inl (mCk z))), (bNu B, .inl (cI, 320, .inl (upd (mNu z) i (mCn z 0)))), (bKe B, .inl (cJ, 320, .inr (.inl (mKe z)))), (bTi B, .inl (cJ, 320, .inr (.inl (vp_updL (mTi z) i ((mTi z i) + (mGa z i)))))), (bGa B, .inl (cJ, 320, .inr (.inl (mGa z)))), (bOf B, .inl (cI, 320, .inl (upd (mOf z) i ((mOf z i) - 1)))), (bNw B, .inl (cJ, 8, .inr (.inl (mNw z)))), (bCn B, .inl (cI, 16, .inl (upd (mCn z) 0 ((mCn z 0) + 1)))), (bDk B, .inl (cI, 4000, .inl (upd (mDk z) (mDn z) 1))), (bDu B, .inl (cI, 4000, .inl (upd (mDu z) (mDn z) (mNu z i)))), (bDe B, .inl (cJ, 4000, .inr (.inl (vp_updL (mDe z) (mDn z) (mKe z i))))), (bDt B, .inl (cJ, 4000, .inr (.inl (vp_updL (mDt z) (mDn z) (mTi z i))))), (bDo B, .inl (cI, 4000, .inl (upd (mDo z) (mDn z) (mOf z i))))] H _ := hw
                refine lv_goto (tgt := 250) F.1 F.2.1 dX4_pass_241 (by decide) ?_
                obtain ⟨y, hy⟩ : ∃ y, y = mStep z i := ⟨_, rfl⟩
                have hst : (mCode z, (mW z), (mIt z), (mCk z), (upd (mNu z) i (mCn z 0)), (mKe z), (vp_updL (mTi z) i ((mTi z i) + (mGa z i))), (mGa z), (upd (mOf z) i ((mOf z i) - 1)), (mNw z), (upd (mCn z) 0 ((mCn z 0) + 1)), mKp z, (mDn z) + 1, (upd (mDk z) (mDn z) 1), (upd (mDu z) (mDn z) (mNu z i)), (vp_updL (mDe z) (mDn z) (mKe z i)), (vp_updL (mDt z) (mDn z) (mTi z i)), (upd (mDo z) (mDn z) (mOf z i))) = y := by
                  rw [hy]; unfold mStep
                  rw [if_neg (fun q => q.elim c177 c187)]; unfold mLog
                  rw [if_neg c87] <;> rfl
                have hw9 : xW G (xK cI cJ cZ cO) _ s.heap s (wMo cI cJ cZ B (mCode z, (mW z), (mIt z), (mCk z), (upd (mNu z) i (mCn z 0)), (mKe z), (vp_updL (mTi z) i ((mTi z i) + (mGa z i))), (mGa z), (upd (mOf z) i ((mOf z i) - 1)), (mNw z), (upd (mCn z) 0 ((mCn z 0) + 1)), mKp z, (mDn z) + 1, (upd (mDk z) (mDn z) 1), (upd (mDu z) (mDn z) (mNu z i)), (vp_updL (mDe z) (mDn z) (mKe z i)), (vp_updL (mDt z) (mDn z) (mTi z i)), (upd (mDo z) (mDn z) (mOf z i)))) H _ := hw
                rw [hst] at hw9
                have hwy : mW y 0 ≤ 80 := by rw [hy]; exact Nat.le_trans (mStep_w z i) hwz
                have hdy : mDn y = j + 1 := by rw [hy, mStep_d, hdz]
                have hzy : ∀ j9, mIt y j9 = 0 ∨ mIt y j9 = 1 := by rw [hy]; exact mStep_z hzz
                have hw : xW G (xK cI cJ cZ cO) _ s.heap s [(bH B, .inr (4, [.int (mCode y), .ref (bW B), .ref (bIt B), .ref (bCk B), .ref (bNu B), .ref (bKe B), .ref (bTi B), .ref (bGa B), .ref (bOf B), .ref (bNw B), .ref (bCn B), .int (nI (mKp y)), .int (nI (mDn y)), .ref (bDk B), .ref (bDu B), .ref (bDe B), .ref (bDt B), .ref (bDo B)])), (bW B, .inl (cI, 4, .inl (fun j9 => nI (mW y j9)))), (bIt B, .inl (cZ, 320, .inl (mIt y))), (bCk B, .inl (cI, 320, .inl (mCk y))), (bNu B, .inl (cI, 320, .inl (mNu y))), (bKe B, .inl (cJ, 320, .inr (.inl (mKe y)))), (bTi B, .inl (cJ, 320, .inr (.inl (mTi y)))), (bGa B, .inl (cJ, 320, .inr (.inl (mGa y)))), (bOf B, .inl (cI, 320, .inl (mOf y))), (bNw B, .inl (cJ, 8, .inr (.inl (mNw y)))), (bCn B, .inl (cI, 16, .inl (mCn y))), (bDk B, .inl (cI, 4000, .inl (mDk y))), (bDu B, .inl (cI, 4000, .inl (mDu y))), (bDe B, .inl (cJ, 4000, .inr (.inl (mDe y)))), (bDt B, .inl (cJ, 4000, .inr (.inl (mDt y)))), (bDo B, .inl (cI, 4000, .inl (mDo y)))] H _ := hw9
                refine lv_aload_n F.1 F.2.1 dX4_pass_250 rfl (lv_at hl 0 rfl) ?_
                refine lv_iload_n F.1 F.2.1 dX4_pass_251 rfl (lv_at hl 1 rfl) ?_
                refine lv_iconst (v := 0) F.1 F.2.1 dX4_pass_252 (by decide) ?_
                refine lv_lload_n F.1 F.2.1 dX4_pass_253 rfl (lv_at hl 2 rfl) ?_
                refine x_ri (va_runV (As := [.int x, .int 0, .long t]) (rest := []) F (c_X4_leastOf l G cI cJ cZ cO (Array.size H) B y x 0 t hwy) (cwV 3 F.2.2.2.2 gX4_pass_X4_leastOf rfl rfl rfl (by decide +kernel) ⟨Nat.le_of_ble_eq_true rfl, Nat.le_of_ble_eq_true rfl⟩) (x_preVW hw [0, 1, 2, 3, 4, 5, 6, 7, 8, 9, 10, 11, 12, 13, 14, 15] rfl (by decide) 0 rfl rfl) rfl rfl hl.1 rfl (lv_room (Nat.le_of_ble_eq_true rfl)) dX4_pass_254 ⟨Nat.le_of_ble_eq_true rfl, Nat.le_of_ble_eq_true rfl⟩) (fun r254 hr254 => ?_)
                subst hr254
                refine lv_istore (lv' := [(4, .int (bI (mLeast y x 0 t (mW y 0)))), (0, .ref (bH B)), (1, .int x), (2, .long t)]) F.1 F.2.1 dX4_pass_257 hl (by decide) rfl (fun ls hl => ?_)
                refine lv_goto (tgt := 67) F.1 F.2.1 dX4_pass_259 (by decide) ?_
                exact ih ((j + 1, y)) _ _ _ (by simp only []; omega) ⟨lv_sub hl [1, 2, 3, 0] rfl, hw, by omega, hwy, hdy, hzy, by simp only []; rw [hrun, show N - j = (N - (j + 1)) + 1 by omega, mRun_go hio, hy]⟩
      · refine lv_iconst (v := 1) F.1 F.2.1 dX4_pass_33 (by decide) ?_
        refine lv_goto (tgt := 38) F.1 F.2.1 dX4_pass_34 (by decide) ?_
        refine x_wi (wr := []) (va_runV (As := [.int 1]) (rest := []) F (c_X4_isGood l G cI cJ cZ cO (Array.size _) B v 1) (cwV 1 F.2.2.2.2 gX4_pass_X4_isGood rfl rfl rfl (by decide +kernel) ⟨Nat.le_of_ble_eq_true rfl, Nat.le_of_ble_eq_true rfl⟩) (x_preVW hw [0, 1, 2, 3, 4, 5, 6, 7, 8, 9, 10, 11, 12, 13, 14, 15] rfl (by decide) 0 rfl rfl) rfl rfl hl.1 rfl (lv_room (Nat.le_of_ble_eq_true rfl)) dX4_pass_38 ⟨Nat.le_of_ble_eq_true rfl, Nat.le_of_ble_eq_true rfl⟩) hw [0, 1, 2, 3, 4, 5, 6, 7, 8, 9, 10, 11, 12, 13, 14, 15] [] rfl rfl (by decide) (by decide) (fun r9 u8 H locs hu9 hw => ?_)
        have hw : xW G (xK cI cJ cZ cO) _ s.heap s [(bH B, .inr (4, [.int (mCode u8), .ref (bW B), .ref (bIt B), .ref (bCk B), .ref (bNu B), .ref (bKe B), .ref (bTi B), .ref (bGa B), .ref (bOf B), .ref (bNw B), .ref (bCn B), .int (nI (mKp u8)), .int (nI (mDn u8)), .ref (bDk B), .ref (bDu B), .ref (bDe B), .ref (bDt B), .ref (bDo B)])), (bW B, .inl (cI, 4, .inl (fun j9 => nI (mW u8 j9)))), (bIt B, .inl (cZ, 320, .inl (mIt u8))), (bCk B, .inl (cI, 320, .inl (mCk u8))), (bNu B, .inl (cI, 320, .inl (mNu u8))), (bKe B, .inl (cJ, 320, .inr (.inl (mKe u8)))), (bTi B, .inl (cJ, 320, .inr (.inl (mTi u8)))), (bGa B, .inl (cJ, 320, .inr (.inl (mGa u8)))), (bOf B, .inl (cI, 320, .inl (mOf u8))), (bNw B, .inl (cJ, 8, .inr (.inl (mNw u8)))), (bCn B, .inl (cI, 16, .inl (mCn u8))), (bDk B, .inl (cI, 4000, .inl (mDk u8))), (bDu B, .inl (cI, 4000, .inl (mDu u8))), (bDe B, .inl (cJ, 4000, .inr (.inl (mDe u8)))), (bDt B, .inl (cJ, 4000, .inr (.inl (mDt u8)))), (bDo B, .inl (cI, 4000, .inl (mDo u8)))] H _ := hw
        obtain ⟨hu9, hr9⟩ := hu9
        subst hu9
        have hr9 := hr9.trans (if_neg (by decide))
        subst hr9
        refine lv_if_ne (tgt := 46) F.1 F.2.1 dX4_pass_41 (by decide) (fun c41 => ?_) (fun c41 => ?_)
        · exact (c41 (by decide)).elim
        refine lv_iconst (v := 0) F.1 F.2.1 dX4_pass_44 (by decide) ?_
        exact x_iret (f := fun u9 : MR => wMo cI cJ cZ B u9) (mCode (mSetC v 1), (mW (mSetC v 1)), (mIt (mSetC v 1)), (mCk (mSetC v 1)), (mNu (mSetC v 1)), (mKe (mSetC v 1)), (mTi (mSetC v 1)), (mGa (mSetC v 1)), (mOf (mSetC v 1)), (mNw (mSetC v 1)), (mCn (mSetC v 1)), mKp (mSetC v 1), mDn (mSetC v 1), (mDk (mSetC v 1)), (mDu (mSetC v 1)), (mDe (mSetC v 1)), (mDt (mSetC v 1)), (mDo (mSetC v 1))) F hr hlk hw (Or.inl ⟨fun h => c29 h.2.2, rfl⟩) dX4_pass_45
