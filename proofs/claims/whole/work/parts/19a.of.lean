set_option maxHeartbeats 8000000 in
set_option maxRecDepth 100000 in
/-- of(what) -/
theorem c_X4_of (l : Launch) (G : va_G) (cI cJ cZ cO : ClassId) (sz : Nat) (B : MA) (v : MR) (x : Int32) (hw0 : mW v 0 ≤ 80) : Met l yX4_of wsX4_of ({ frames := 1, cells := 0, slots := 0, locals := 25 }) (xPc G (xK cI cJ cZ cO) sz [.ref (bH B), .int x] (wMo cI cJ cZ B v)) (va_Qi (fun r u2 => (¬ (0 ≤ x.toInt64 ∧ x.toInt64 ≤ 6) ∧ u2 = mSetC v 1) ∨ ((0 ≤ x.toInt64 ∧ x.toInt64 ≤ 6) ∧ u2 = mSetC v 0 ∧ r = if x = 0 then nI (mMany v 1) else if x = 1 then nI (mMany v 0) else if x = 2 then mCn v 0 else if x = 3 then mCn v 1 else if x = 4 then mCn v 2 else if x = 5 then nI (mKp v) else nI (mDn v))) (xB G (xK cI cJ cZ cO) (wMo cI cJ cZ B v) sz (fun u9 : MR => wMo cI cJ cZ B u9)) (va_A (wMo cI cJ cZ B v) sz)) 0 0 (va_A (wMo cI cJ cZ B v) sz) := by
  refine x_body (by decide) rfl (Nat.le_of_ble_eq_true rfl) ?_
  intro p e s m below meth c F hr hlk hnm hsz hw ls hl
  subst hsz
  have F : CallFix p m c cX4_of 2 s _ wsX4_of RX4 := F
  have hl : lv_has ls 2 [(0, .ref (bH B)), (1, .int x)] := hl
  have hw : xW G (xK cI cJ cZ cO) _ s.heap s [(bH B, .inr (4, [.int (mCode v), .ref (bW B), .ref (bIt B), .ref (bCk B), .ref (bNu B), .ref (bKe B), .ref (bTi B), .ref (bGa B), .ref (bOf B), .ref (bNw B), .ref (bCn B), .int (nI (mKp v)), .int (nI (mDn v)), .ref (bDk B), .ref (bDu B), .ref (bDe B), .ref (bDt B), .ref (bDo B)])), (bW B, .inl (cI, 4, .inl (fun j9 => nI (mW v j9)))), (bIt B, .inl (cZ, 320, .inl (mIt v))), (bCk B, .inl (cI, 320, .inl (mCk v))), (bNu B, .inl (cI, 320, .inl (mNu v))), (bKe B, .inl (cJ, 320, .inr (.inl (mKe v)))), (bTi B, .inl (cJ, 320, .inr (.inl (mTi v)))), (bGa B, .inl (cJ, 320, .inr (.inl (mGa v)))), (bOf B, .inl (cI, 320, .inl (mOf v))), (bNw B, .inl (cJ, 8, .inr (.inl (mNw v)))), (bCn B, .inl (cI, 16, .inl (mCn v))), (bDk B, .inl (cI, 4000, .inl (mDk v))), (bDu B, .inl (cI, 4000, .inl (mDu v))), (bDe B, .inl (cJ, 4000, .inr (.inl (mDe v)))), (bDt B, .inl (cJ, 4000, .inr (.inl (mDt v)))), (bDo B, .inl (cI, 4000, .inl (mDo v)))] s.heap [] := hw
  have iX4 : ∀ w ∈ wsX40, w ∈ wsX4_of := by decide +kernel
  refine lv_aload_n F.1 F.2.1 dX4_of_0 rfl (lv_at hl 0 rfl) ?_
  refine lv_iload_n F.1 F.2.1 dX4_of_1 rfl (lv_at hl 1 rfl) ?_
  refine lv_i2l (v := x.toInt64) F.1 F.2.1 dX4_of_2 (rfl) ?_
  refine lv_lconst (v := 0) F.1 F.2.1 dX4_of_3 (by decide) ?_
  refine lv_ldc2 (v := 6) F.1 F.2.1 F.2.2.2.1 (F.2.2.2.2 _ (List.mem_of_getElem? (i := 1) rfl)) dX4_of_4 ?_
  refine x_ri (va_runS (As := [.long x.toInt64, .long 0, .long 6]) (rest := [.ref (bH B)]) F (c_X4_isIn l G cI cJ cZ cO (Array.size _) x.toInt64 0 6) (va_cwS 3 F.2.2.2.2 gX4_of_X4_isIn rfl rfl rfl (by decide +kernel) ⟨Nat.le_of_ble_eq_true rfl, Nat.le_of_ble_eq_true rfl⟩) (x_preSW hw [] rfl (by decide)) rfl rfl hl.1 rfl (lv_room (Nat.le_of_ble_eq_true rfl)) dX4_of_7 ⟨Nat.le_of_ble_eq_true rfl, Nat.le_of_ble_eq_true rfl⟩) (fun r7 hr7 => ?_)
  refine lv_if_eq (tgt := 17) F.1 F.2.1 dX4_of_10 (by decide) (fun c10 => ?_) (fun c10 => ?_)
  · refine lv_iconst (v := 1) F.1 F.2.1 dX4_of_17 (by decide) ?_
    refine x_wi (wr := []) (va_runV (As := [.int 1]) (rest := []) F (c_X4_isGood l G cI cJ cZ cO (Array.size _) B v 1) (cwV 1 F.2.2.2.2 gX4_of_X4_isGood rfl rfl rfl (by decide +kernel) ⟨Nat.le_of_ble_eq_true rfl, Nat.le_of_ble_eq_true rfl⟩) (x_preVW hw [0, 1, 2, 3, 4, 5, 6, 7, 8, 9, 10, 11, 12, 13, 14, 15] rfl (by decide) 0 rfl rfl) rfl rfl hl.1 rfl (lv_room (Nat.le_of_ble_eq_true rfl)) dX4_of_18 ⟨Nat.le_of_ble_eq_true rfl, Nat.le_of_ble_eq_true rfl⟩) hw [0, 1, 2, 3, 4, 5, 6, 7, 8, 9, 10, 11, 12, 13, 14, 15] [] rfl rfl (by decide) (by decide) (fun r9 u8 H locs hu9 hw => ?_)
    have hw : xW G (xK cI cJ cZ cO) _ s.heap s [(bH B, .inr (4, [.int (mCode u8), .ref (bW B), .ref (bIt B), .ref (bCk B), .ref (bNu B), .ref (bKe B), .ref (bTi B), .ref (bGa B), .ref (bOf B), .ref (bNw B), .ref (bCn B), .int (nI (mKp u8)), .int (nI (mDn u8)), .ref (bDk B), .ref (bDu B), .ref (bDe B), .ref (bDt B), .ref (bDo B)])), (bW B, .inl (cI, 4, .inl (fun j9 => nI (mW u8 j9)))), (bIt B, .inl (cZ, 320, .inl (mIt u8))), (bCk B, .inl (cI, 320, .inl (mCk u8))), (bNu B, .inl (cI, 320, .inl (mNu u8))), (bKe B, .inl (cJ, 320, .inr (.inl (mKe u8)))), (bTi B, .inl (cJ, 320, .inr (.inl (mTi u8)))), (bGa B, .inl (cJ, 320, .inr (.inl (mGa u8)))), (bOf B, .inl (cI, 320, .inl (mOf u8))), (bNw B, .inl (cJ, 8, .inr (.inl (mNw u8)))), (bCn B, .inl (cI, 16, .inl (mCn u8))), (bDk B, .inl (cI, 4000, .inl (mDk u8))), (bDu B, .inl (cI, 4000, .inl (mDu u8))), (bDe B, .inl (cJ, 4000, .inr (.inl (mDe u8)))), (bDt B, .inl (cJ, 4000, .inr (.inl (mDt u8)))), (bDo B, .inl (cI, 4000, .inl (mDo u8)))] H _ := hw
    obtain ⟨hu9, hr9⟩ := hu9
    subst hu9
    have hr9 := hr9.trans (if_neg (by decide))
    subst hr9
    refine lv_if_ne (tgt := 26) F.1 F.2.1 dX4_of_21 (by decide) (fun c21 => ?_) (fun c21 => ?_)
    · exact (c21 (by decide)).elim
    refine lv_iconst (v := 0) F.1 F.2.1 dX4_of_24 (by decide) ?_
    exact x_iret (f := fun u9 : MR => wMo cI cJ cZ B u9) (mCode (mSetC v 1), (mW (mSetC v 1)), (mIt (mSetC v 1)), (mCk (mSetC v 1)), (mNu (mSetC v 1)), (mKe (mSetC v 1)), (mTi (mSetC v 1)), (mGa (mSetC v 1)), (mOf (mSetC v 1)), (mNw (mSetC v 1)), (mCn (mSetC v 1)), mKp (mSetC v 1), mDn (mSetC v 1), (mDk (mSetC v 1)), (mDu (mSetC v 1)), (mDe (mSetC v 1)), (mDt (mSetC v 1)), (mDo (mSetC v 1))) F hr hlk hw (Or.inl ⟨if_z hr7 c10, rfl⟩) dX4_of_25
  · refine lv_iconst (v := 0) F.1 F.2.1 dX4_of_13 (by decide) ?_
    refine lv_goto (tgt := 18) F.1 F.2.1 dX4_of_14 (by decide) ?_
    refine x_wi (wr := []) (va_runV (As := [.int 0]) (rest := []) F (c_X4_isGood l G cI cJ cZ cO (Array.size _) B v 0) (cwV 1 F.2.2.2.2 gX4_of_X4_isGood rfl rfl rfl (by decide +kernel) ⟨Nat.le_of_ble_eq_true rfl, Nat.le_of_ble_eq_true rfl⟩) (x_preVW hw [0, 1, 2, 3, 4, 5, 6, 7, 8, 9, 10, 11, 12, 13, 14, 15] rfl (by decide) 0 rfl rfl) rfl rfl hl.1 rfl (lv_room (Nat.le_of_ble_eq_true rfl)) dX4_of_18 ⟨Nat.le_of_ble_eq_true rfl, Nat.le_of_ble_eq_true rfl⟩) hw [0, 1, 2, 3, 4, 5, 6, 7, 8, 9, 10, 11, 12, 13, 14, 15] [] rfl rfl (by decide) (by decide) (fun r9 u8 H locs hu9 hw => ?_)
    have hw : xW G (xK cI cJ cZ cO) _ s.heap s [(bH B, .inr (4, [.int (mCode u8), .ref (bW B), .ref (bIt B), .ref (bCk B), .ref (bNu B), .ref (bKe B), .ref (bTi B), .ref (bGa B), .ref (bOf B), .ref (bNw B), .ref (bCn B), .int (nI (mKp u8)), .int (nI (mDn u8)), .ref (bDk B), .ref (bDu B), .ref (bDe B), .ref (bDt B), .ref (bDo B)])), (bW B, .inl (cI, 4, .inl (fun j9 => nI (mW u8 j9)))), (bIt B, .inl (cZ, 320, .inl (mIt u8))), (bCk B, .inl (cI, 320, .inl (mCk u8))), (bNu B, .inl (cI, 320, .inl (mNu u8))), (bKe B, .inl (cJ, 320, .inr (.inl (mKe u8)))), (bTi B, .inl (cJ, 320, .inr (.inl (mTi u8)))), (bGa B, .inl (cJ, 320, .inr (.inl (mGa u8)))), (bOf B, .inl (cI, 320, .inl (mOf u8))), (bNw B, .inl (cJ, 8, .inr (.inl (mNw u8)))), (bCn B, .inl (cI, 16, .inl (mCn u8))), (bDk B, .inl (cI, 4000, .inl (mDk u8))), (bDu B, .inl (cI, 4000, .inl (mDu u8))), (bDe B, .inl (cJ, 4000, .inr (.inl (mDe u8)))), (bDt B, .inl (cJ, 4000, .inr (.inl (mDt u8)))), (bDo B, .inl (cI, 4000, .inl (mDo u8)))] H _ := hw
    obtain ⟨hu9, hr9⟩ := hu9
    subst hu9
    have hr9 := hr9.trans (if_pos rfl)
    subst hr9
    refine lv_if_ne (tgt := 26) F.1 F.2.1 dX4_of_21 (by decide) (fun c21 => ?_) (fun c21 => ?_)
    rotate_left
    · exact absurd c21 (by decide)
    have hg := if_nz hr7 c10
    rcases what6_of hg with rfl | rfl | rfl | rfl | rfl | rfl | rfl
    · refine lv_iload_n F.1 F.2.1 dX4_of_26 rfl (lv_at hl 1 rfl) ?_
      refine lv_iconst (v := 2) F.1 F.2.1 dX4_of_27 (by decide) ?_
      refine lv_icmp_ge (tgt := 45) F.1 F.2.1 dX4_of_28 (by decide) (fun c28 => ?_) (fun c28 => ?_)
      · exact absurd c28 (by decide)
      refine lv_aload_n F.1 F.2.1 dX4_of_31 rfl (lv_at hl 0 rfl) ?_
      refine lv_iload_n F.1 F.2.1 dX4_of_32 rfl (lv_at hl 1 rfl) ?_
      refine lv_if_ne (tgt := 40) F.1 F.2.1 dX4_of_33 (by decide) (fun c33 => ?_) (fun c33 => ?_)
      · exact (c33 (by decide)).elim
      refine lv_iconst (v := 1) F.1 F.2.1 dX4_of_36 (by decide) ?_
      refine lv_goto (tgt := 41) F.1 F.2.1 dX4_of_37 (by decide) ?_
      refine x_ri (va_runV (As := [.int 1]) (rest := []) F (c_X4_many l G cI cJ cZ cO (Array.size H) B (mSetC v 0) 1 hw0) (cwV 1 F.2.2.2.2 gX4_of_X4_many rfl rfl rfl (by decide +kernel) ⟨Nat.le_of_ble_eq_true rfl, Nat.le_of_ble_eq_true rfl⟩) (x_preVW hw [0, 1, 2, 3, 4, 5, 6, 7, 8, 9, 10, 11, 12, 13, 14, 15] rfl (by decide) 0 rfl rfl) rfl rfl hl.1 rfl (lv_room (Nat.le_of_ble_eq_true rfl)) dX4_of_41 ⟨Nat.le_of_ble_eq_true rfl, Nat.le_of_ble_eq_true rfl⟩) (fun r41 hr41 => ?_)
      exact x_iret (f := fun u9 : MR => wMo cI cJ cZ B u9) (mCode (mSetC v 0), (mW (mSetC v 0)), (mIt (mSetC v 0)), (mCk (mSetC v 0)), (mNu (mSetC v 0)), (mKe (mSetC v 0)), (mTi (mSetC v 0)), (mGa (mSetC v 0)), (mOf (mSetC v 0)), (mNw (mSetC v 0)), (mCn (mSetC v 0)), mKp (mSetC v 0), mDn (mSetC v 0), (mDk (mSetC v 0)), (mDu (mSetC v 0)), (mDe (mSetC v 0)), (mDt (mSetC v 0)), (mDo (mSetC v 0))) F hr hlk hw (Or.inr ⟨hg, rfl, hr41⟩) dX4_of_44
    · refine lv_iload_n F.1 F.2.1 dX4_of_26 rfl (lv_at hl 1 rfl) ?_
      refine lv_iconst (v := 2) F.1 F.2.1 dX4_of_27 (by decide) ?_
      refine lv_icmp_ge (tgt := 45) F.1 F.2.1 dX4_of_28 (by decide) (fun c28 => ?_) (fun c28 => ?_)
      · exact absurd c28 (by decide)
      refine lv_aload_n F.1 F.2.1 dX4_of_31 rfl (lv_at hl 0 rfl) ?_
      refine lv_iload_n F.1 F.2.1 dX4_of_32 rfl (lv_at hl 1 rfl) ?_
      refine lv_if_ne (tgt := 40) F.1 F.2.1 dX4_of_33 (by decide) (fun c33 => ?_) (fun c33 => ?_)
      rotate_left
      · exact absurd c33 (by decide)
      refine lv_iconst (v := 0) F.1 F.2.1 dX4_of_40 (by decide) ?_
      refine x_ri (va_runV (As := [.int 0]) (rest := []) F (c_X4_many l G cI cJ cZ cO (Array.size H) B (mSetC v 0) 0 hw0) (cwV 1 F.2.2.2.2 gX4_of_X4_many rfl rfl rfl (by decide +kernel) ⟨Nat.le_of_ble_eq_true rfl, Nat.le_of_ble_eq_true rfl⟩) (x_preVW hw [0, 1, 2, 3, 4, 5, 6, 7, 8, 9, 10, 11, 12, 13, 14, 15] rfl (by decide) 0 rfl rfl) rfl rfl hl.1 rfl (lv_room (Nat.le_of_ble_eq_true rfl)) dX4_of_41 ⟨Nat.le_of_ble_eq_true rfl, Nat.le_of_ble_eq_true rfl⟩) (fun r41 hr41 => ?_)
      exact x_iret (f := fun u9 : MR => wMo cI cJ cZ B u9) (mCode (mSetC v 0), (mW (mSetC v 0)), (mIt (mSetC v 0)), (mCk (mSetC v 0)), (mNu (mSetC v 0)), (mKe (mSetC v 0)), (mTi (mSetC v 0)), (mGa (mSetC v 0)), (mOf (mSetC v 0)), (mNw (mSetC v 0)), (mCn (mSetC v 0)), mKp (mSetC v 0), mDn (mSetC v 0), (mDk (mSetC v 0)), (mDu (mSetC v 0)), (mDe (mSetC v 0)), (mDt (mSetC v 0)), (mDo (mSetC v 0))) F hr hlk hw (Or.inr ⟨hg, rfl, hr41⟩) dX4_of_44
    · refine lv_iload_n F.1 F.2.1 dX4_of_26 rfl (lv_at hl 1 rfl) ?_
      refine lv_iconst (v := 2) F.1 F.2.1 dX4_of_27 (by decide) ?_
      refine lv_icmp_ge (tgt := 45) F.1 F.2.1 dX4_of_28 (by decide) (fun c28 => ?_) (fun c28 => ?_)
      rotate_left
      · exact (c28 (by decide)).elim
      refine lv_iload_n F.1 F.2.1 dX4_of_45 rfl (lv_at hl 1 rfl) ?_
      refine lv_iconst (v := 5) F.1 F.2.1 dX4_of_46 (by decide) ?_
      refine lv_icmp_ge (tgt := 61) F.1 F.2.1 dX4_of_47 (by decide) (fun c47 => ?_) (fun c47 => ?_)
      · exact absurd c47 (by decide)
      refine lv_aload_n F.1 F.2.1 dX4_of_50 rfl (lv_at hl 0 rfl) ?_
      refine x_get F hw iX4 0 rfl rfl 10 (by decide) rfl (List.mem_of_getElem? (i := 2) rfl) rfl dX4_of_51 ?_
      refine lv_iload_n F.1 F.2.1 dX4_of_54 rfl (lv_at hl 1 rfl) ?_
      refine lv_iconst (v := 2) F.1 F.2.1 dX4_of_55 (by decide) ?_
      refine lv_isub F.1 F.2.1 dX4_of_56 ?_
      refine x_topi (v := nI (2 - 2)) ((pk_sub (a := 2) (b := 2) (by omega)).symm) ?_
      refine x_ialdN F hw 10 0 rfl rfl (2 - 2) rfl (by omega) (by decide) dX4_of_57 ?_
      refine lv_goto (tgt := 77) F.1 F.2.1 dX4_of_58 (by decide) ?_
      exact x_iret (f := fun u9 : MR => wMo cI cJ cZ B u9) (mCode (mSetC v 0), (mW (mSetC v 0)), (mIt (mSetC v 0)), (mCk (mSetC v 0)), (mNu (mSetC v 0)), (mKe (mSetC v 0)), (mTi (mSetC v 0)), (mGa (mSetC v 0)), (mOf (mSetC v 0)), (mNw (mSetC v 0)), (mCn (mSetC v 0)), mKp (mSetC v 0), mDn (mSetC v 0), (mDk (mSetC v 0)), (mDu (mSetC v 0)), (mDe (mSetC v 0)), (mDt (mSetC v 0)), (mDo (mSetC v 0))) F hr hlk hw (Or.inr ⟨hg, rfl, rfl⟩) dX4_of_77
    · refine lv_iload_n F.1 F.2.1 dX4_of_26 rfl (lv_at hl 1 rfl) ?_
      refine lv_iconst (v := 2) F.1 F.2.1 dX4_of_27 (by decide) ?_
      refine lv_icmp_ge (tgt := 45) F.1 F.2.1 dX4_of_28 (by decide) (fun c28 => ?_) (fun c28 => ?_)
      rotate_left
      · exact (c28 (by decide)).elim
      refine lv_iload_n F.1 F.2.1 dX4_of_45 rfl (lv_at hl 1 rfl) ?_
      refine lv_iconst (v := 5) F.1 F.2.1 dX4_of_46 (by decide) ?_
      refine lv_icmp_ge (tgt := 61) F.1 F.2.1 dX4_of_47 (by decide) (fun c47 => ?_) (fun c47 => ?_)
      · exact absurd c47 (by decide)
      refine lv_aload_n F.1 F.2.1 dX4_of_50 rfl (lv_at hl 0 rfl) ?_
      refine x_get F hw iX4 0 rfl rfl 10 (by decide) rfl (List.mem_of_getElem? (i := 2) rfl) rfl dX4_of_51 ?_
      refine lv_iload_n F.1 F.2.1 dX4_of_54 rfl (lv_at hl 1 rfl) ?_
      refine lv_iconst (v := 2) F.1 F.2.1 dX4_of_55 (by decide) ?_
      refine lv_isub F.1 F.2.1 dX4_of_56 ?_
      refine x_topi (v := nI (3 - 2)) ((pk_sub (a := 3) (b := 2) (by omega)).symm) ?_
      refine x_ialdN F hw 10 0 rfl rfl (3 - 2) rfl (by omega) (by decide) dX4_of_57 ?_
      refine lv_goto (tgt := 77) F.1 F.2.1 dX4_of_58 (by decide) ?_
      exact x_iret (f := fun u9 : MR => wMo cI cJ cZ B u9) (mCode (mSetC v 0), (mW (mSetC v 0)), (mIt (mSetC v 0)), (mCk (mSetC v 0)), (mNu (mSetC v 0)), (mKe (mSetC v 0)), (mTi (mSetC v 0)), (mGa (mSetC v 0)), (mOf (mSetC v 0)), (mNw (mSetC v 0)), (mCn (mSetC v 0)), mKp (mSetC v 0), mDn (mSetC v 0), (mDk (mSetC v 0)), (mDu (mSetC v 0)), (mDe (mSetC v 0)), (mDt (mSetC v 0)), (mDo (mSetC v 0))) F hr hlk hw (Or.inr ⟨hg, rfl, rfl⟩) dX4_of_77
    · refine lv_iload_n F.1 F.2.1 dX4_of_26 rfl (lv_at hl 1 rfl) ?_
      refine lv_iconst (v := 2) F.1 F.2.1 dX4_of_27 (by decide) ?_
      refine lv_icmp_ge (tgt := 45) F.1 F.2.1 dX4_of_28 (by decide) (fun c28 => ?_) (fun c28 => ?_)
      rotate_left
      · exact (c28 (by decide)).elim
      refine lv_iload_n F.1 F.2.1 dX4_of_45 rfl (lv_at hl 1 rfl) ?_
      refine lv_iconst (v := 5) F.1 F.2.1 dX4_of_46 (by decide) ?_
      refine lv_icmp_ge (tgt := 61) F.1 F.2.1 dX4_of_47 (by decide) (fun c47 => ?_) (fun c47 => ?_)
      · exact absurd c47 (by decide)
      refine lv_aload_n F.1 F.2.1 dX4_of_50 rfl (lv_at hl 0 rfl) ?_
      refine x_get F hw iX4 0 rfl rfl 10 (by decide) rfl (List.mem_of_getElem? (i := 2) rfl) rfl dX4_of_51 ?_
      refine lv_iload_n F.1 F.2.1 dX4_of_54 rfl (lv_at hl 1 rfl) ?_
      refine lv_iconst (v := 2) F.1 F.2.1 dX4_of_55 (by decide) ?_
      refine lv_isub F.1 F.2.1 dX4_of_56 ?_
      refine x_topi (v := nI (4 - 2)) ((pk_sub (a := 4) (b := 2) (by omega)).symm) ?_
      refine x_ialdN F hw 10 0 rfl rfl (4 - 2) rfl (by omega) (by decide) dX4_of_57 ?_
      refine lv_goto (tgt := 77) F.1 F.2.1 dX4_of_58 (by decide) ?_
      exact x_iret (f := fun u9 : MR => wMo cI cJ cZ B u9) (mCode (mSetC v 0), (mW (mSetC v 0)), (mIt (mSetC v 0)), (mCk (mSetC v 0)), (mNu (mSetC v 0)), (mKe (mSetC v 0)), (mTi (mSetC v 0)), (mGa (mSetC v 0)), (mOf (mSetC v 0)), (mNw (mSetC v 0)), (mCn (mSetC v 0)), mKp (mSetC v 0), mDn (mSetC v 0), (mDk (mSetC v 0)), (mDu (mSetC v 0)), (mDe (mSetC v 0)), (mDt (mSetC v 0)), (mDo (mSetC v 0))) F hr hlk hw (Or.inr ⟨hg, rfl, rfl⟩) dX4_of_77
    · refine lv_iload_n F.1 F.2.1 dX4_of_26 rfl (lv_at hl 1 rfl) ?_
      refine lv_iconst (v := 2) F.1 F.2.1 dX4_of_27 (by decide) ?_
      refine lv_icmp_ge (tgt := 45) F.1 F.2.1 dX4_of_28 (by decide) (fun c28 => ?_) (fun c28 => ?_)
      rotate_left
      · exact (c28 (by decide)).elim
      refine lv_iload_n F.1 F.2.1 dX4_of_45 rfl (lv_at hl 1 rfl) ?_
      refine lv_iconst (v := 5) F.1 F.2.1 dX4_of_46 (by decide) ?_
      refine lv_icmp_ge (tgt := 61) F.1 F.2.1 dX4_of_47 (by decide) (fun c47 => ?_) (fun c47 => ?_)
      rotate_left
      · exact (c47 (by decide)).elim
      refine lv_iload_n F.1 F.2.1 dX4_of_61 rfl (lv_at hl 1 rfl) ?_
      refine lv_iconst (v := 5) F.1 F.2.1 dX4_of_62 (by decide) ?_
      refine lv_icmp_ne (tgt := 73) F.1 F.2.1 dX4_of_63 (by decide) (fun c63 => ?_) (fun c63 => ?_)
      · exact (c63 (by decide)).elim
      refine lv_aload_n F.1 F.2.1 dX4_of_66 rfl (lv_at hl 0 rfl) ?_
      refine x_get F hw iX4 0 rfl rfl 11 (by decide) rfl (List.mem_of_getElem? (i := 3) rfl) rfl dX4_of_67 ?_
      refine lv_goto (tgt := 77) F.1 F.2.1 dX4_of_70 (by decide) ?_
      exact x_iret (f := fun u9 : MR => wMo cI cJ cZ B u9) (mCode (mSetC v 0), (mW (mSetC v 0)), (mIt (mSetC v 0)), (mCk (mSetC v 0)), (mNu (mSetC v 0)), (mKe (mSetC v 0)), (mTi (mSetC v 0)), (mGa (mSetC v 0)), (mOf (mSetC v 0)), (mNw (mSetC v 0)), (mCn (mSetC v 0)), mKp (mSetC v 0), mDn (mSetC v 0), (mDk (mSetC v 0)), (mDu (mSetC v 0)), (mDe (mSetC v 0)), (mDt (mSetC v 0)), (mDo (mSetC v 0))) F hr hlk hw (Or.inr ⟨hg, rfl, rfl⟩) dX4_of_77
    · refine lv_iload_n F.1 F.2.1 dX4_of_26 rfl (lv_at hl 1 rfl) ?_
      refine lv_iconst (v := 2) F.1 F.2.1 dX4_of_27 (by decide) ?_
      refine lv_icmp_ge (tgt := 45) F.1 F.2.1 dX4_of_28 (by decide) (fun c28 => ?_) (fun c28 => ?_)
      rotate_left
      · exact (c28 (by decide)).elim
      refine lv_iload_n F.1 F.2.1 dX4_of_45 rfl (lv_at hl 1 rfl) ?_
      refine lv_iconst (v := 5) F.1 F.2.1 dX4_of_46 (by decide) ?_
      refine lv_icmp_ge (tgt := 61) F.1 F.2.1 dX4_of_47 (by decide) (fun c47 => ?_) (fun c47 => ?_)
      rotate_left
      · exact (c47 (by decide)).elim
      refine lv_iload_n F.1 F.2.1 dX4_of_61 rfl (lv_at hl 1 rfl) ?_
      refine lv_iconst (v := 5) F.1 F.2.1 dX4_of_62 (by decide) ?_
      refine lv_icmp_ne (tgt := 73) F.1 F.2.1 dX4_of_63 (by decide) (fun c63 => ?_) (fun c63 => ?_)
      rotate_left
      · exact absurd c63 (by decide)
      refine lv_aload_n F.1 F.2.1 dX4_of_73 rfl (lv_at hl 0 rfl) ?_
      refine x_get F hw iX4 0 rfl rfl 12 (by decide) rfl (List.mem_of_getElem? (i := 4) rfl) rfl dX4_of_74 ?_
      exact x_iret (f := fun u9 : MR => wMo cI cJ cZ B u9) (mCode (mSetC v 0), (mW (mSetC v 0)), (mIt (mSetC v 0)), (mCk (mSetC v 0)), (mNu (mSetC v 0)), (mKe (mSetC v 0)), (mTi (mSetC v 0)), (mGa (mSetC v 0)), (mOf (mSetC v 0)), (mNw (mSetC v 0)), (mCn (mSetC v 0)), mKp (mSetC v 0), mDn (mSetC v 0), (mDk (mSetC v 0)), (mDu (mSetC v 0)), (mDe (mSetC v 0)), (mDt (mSetC v 0)), (mDo (mSetC v 0))) F hr hlk hw (Or.inr ⟨hg, rfl, rfl⟩) dX4_of_77
